/-! CONTRACTS: a method, from arguments and a state of the cells, ends with this answer and this state; and the rows that use them -/
def Pcw (D : va_G) (ca : Nat → ClassId) (ad : Nat → Nat) (av : List Value) (σ : Sg) (sz : Nat) : Array Value → State → Prop :=
  va_Pc av (fun U => U.heap.size = sz ∧ va_P D vwCl (pool ca ad σ) U.heap ∧ va_K D vwCl (tysA ca) U ∧ va_D (fun _ => True) (pool ca ad σ) ∧ NW U)
def Bw (D : va_G) (ca : Nat → ClassId) (ad : Nat → Nat) (sz : Nat) (σ : Sg) (t : State) : Prop := va_P D vwCl (pool ca ad σ) t.heap ∧ va_D (Aw ad sz) (pool ca ad σ)
theorem pool_self {ca : Nat → ClassId} {ad : Nat → Nat} {σ : Sg} {A : Nat → Prop} (sz : Nat) (h : va_D A (pool ca ad σ)) : va_D (Aw ad sz) (pool ca ad σ) := by
  refine ⟨h.1, fun k q hq => Or.inl ⟨k, ?_⟩⟩
  have hk : k < NN := by
    have := (List.getElem?_eq_some_iff.mp hq).1
    rwa [pool_len] at this
  refine ⟨hk, ?_⟩
  rw [pool_at hk] at hq
  rw [← Option.some.inj hq]
theorem Pcw_blind {D : va_G} {ca : Nat → ClassId} {ad : Nat → Nat} {av : List Value} {σ : Sg} {sz : Nat} : FrameBlind (Pcw D ca ad av σ sz) := by
  intro a U g mk q
  obtain ⟨q0, q1, qP, qK, qD, qN⟩ := q
  exact ⟨q0, q1, qP, va_K.moved (u := U) (U := U.calling g mk a) (Vm.Alike.refl U.vm) qK, qD, NW.same (u := U) (U := U.calling g mk a) rfl qN⟩
def rmc (rf rl : Nat) : Room := { frames := rf, cells := 0, slots := 0, locals := rl }
def wsY (y : MethodName) (cc : ByteArray) (mx : Nat) (ret : Option FieldType) : List Cond := .code y cc mx ret :: wsAll
def CI (y : MethodName) (cc : ByteArray) (mx : Nat) (ret : Option FieldType) (rf rl : Nat) (av : (Nat → Nat) → List Value) (σ : Sg) (r : Int32) (σ' : Sg) : Prop := ∀ (l : Launch) (D : va_G) (ca : Nat → ClassId) (ad : Nat → Nat) (sz : Nat),
  Met l y (wsY y cc mx ret) (rmc rf rl) (Pcw D ca ad (av ad) σ sz) (va_Qi (fun r1 u => r1 = r ∧ u = σ') (Bw D ca ad sz) (Aw ad sz)) 0 0 (Aw ad sz)
def CL (y : MethodName) (cc : ByteArray) (mx : Nat) (ret : Option FieldType) (rf rl : Nat) (av : (Nat → Nat) → List Value) (σ : Sg) (r : Int64) (σ' : Sg) : Prop := ∀ (l : Launch) (D : va_G) (ca : Nat → ClassId) (ad : Nat → Nat) (sz : Nat),
  Met l y (wsY y cc mx ret) (rmc rf rl) (Pcw D ca ad (av ad) σ sz) (va_Ql (fun r1 u => r1 = r ∧ u = σ') (Bw D ca ad sz) (Aw ad sz)) 0 0 (Aw ad sz)
def CV (y : MethodName) (cc : ByteArray) (mx : Nat) (ret : Option FieldType) (rf rl : Nat) (av : (Nat → Nat) → List Value) (σ : Sg) (σ' : Sg) : Prop := ∀ (l : Launch) (D : va_G) (ca : Nat → ClassId) (ad : Nat → Nat) (sz : Nat),
  Met l y (wsY y cc mx ret) (rmc rf rl) (Pcw D ca ad (av ad) σ sz) (va_Qv (fun u => u = σ') (Bw D ca ad sz) (Aw ad sz)) 0 0 (Aw ad sz)
def CA (y : MethodName) (cc : ByteArray) (mx : Nat) (ret : Option FieldType) (rf rl : Nat) (av : (Nat → Nat) → List Value) (σ : Sg) (r : Nat) (σ' : Sg) : Prop := ∀ (l : Launch) (D : va_G) (ca : Nat → ClassId) (ad : Nat → Nat) (sz : Nat),
  Met l y (wsY y cc mx ret) (rmc rf rl) (Pcw D ca ad (av ad) σ sz) (va_Qr (fun u => u = σ') (fun u a t => a = ad r ∧ Bw D ca ad sz u t) (Aw ad sz)) 0 0 (Aw ad sz)
/-- what a return may answer -/
def RI (X : Ctx) (kc : ByteArray) (nL : Nat) (res : Int32 × Sg) : Prop := ∀ (pc : Nat) (lv : List (Nat × Value)) (v : Int32) (σ : Sg), decode kc pc = .ok (.ireturn, 1) → (v, σ) = res → G X nL pc lv [.int v] σ
def RZ (X : Ctx) (kc : ByteArray) (nL : Nat) (res : Int32 × Sg) : Prop := ∀ (pc : Nat) (lv : List (Nat × Value)) (v : Int32) (σ : Sg), decode kc pc = .ok (.ireturn, 1) → (v, σ) = res → narrow .boolean (.int v) = .int v → G X nL pc lv [.int v] σ
def RLg (X : Ctx) (kc : ByteArray) (nL : Nat) (res : Int64 × Sg) : Prop := ∀ (pc : Nat) (lv : List (Nat × Value)) (v : Int64) (σ : Sg), decode kc pc = .ok (.lreturn, 1) → (v, σ) = res → G X nL pc lv [.long v] σ
def RV (X : Ctx) (kc : ByteArray) (nL : Nat) (res : Sg) : Prop := ∀ (pc : Nat) (lv : List (Nat × Value)) (σ : Sg), decode kc pc = .ok (.return_, 1) → σ = res → G X nL pc lv [] σ
def RA (X : Ctx) (kc : ByteArray) (nL : Nat) (res : Nat × Sg) : Prop := ∀ (pc : Nat) (lv : List (Nat × Value)) (v : Nat) (σ : Sg), decode kc pc = .ok (.areturn, 1) → (v, σ) = res → G X nL pc lv [.ref (X.ad v)] σ

theorem CI.of {y : MethodName} {cc : ByteArray} {mx rf rl : Nat} {av : (Nat → Nat) → List Value} {σ σ' : Sg} {r : Int32} (hy : plainName y.cls = true) (hlen : ∀ ad : Nat → Nat, (lg_sl (av ad)).length ≤ mx)
    (body : ∀ X : Ctx, Cok X cc mx y.cls → rf ≤ X.R.frames ∧ rl ≤ X.R.locals → RI X cc mx (r, σ') → G X mx 0 (lv_args 0 (av X.ad)) [] σ) : CI y cc mx (some .int) rf rl av σ r σ' := by
  intro l D ca ad sz
  refine Met.ofW (cc := cc) (maxL := mx) (ret := some .int) hy rfl ?_
  intro p e s m args below meth c s₁ B hml hv
  obtain ⟨rfl, hsz, hP, hK, hD0, hN⟩ := hv
  subst hsz
  have hts : ∀ w ∈ wsAll, w.before ((av ad).toArray) s = true := fun w h => atoms_spec (ws := wsY y cc mx (some .int)) B.pre w (List.mem_cons_of_mem _ h)
  have hown : s.vm.findClass y.cls = some m.cls := findClass_of_methodNamed B.named
  have hr := B.returns
  have hx := B.exec
  have hb := B.bytes
  have hlocks := B.notSynchronized
  rw [lg_entry_eq]
  have hl := lv_entry (av ad) (n := mx) (hlen ad)
  exact body (p, l, e, rmc rf rl, s, m, (av ad).toArray, below, meth, c, 0, 0, MQ below (va_Qi (fun r1 u => r1 = r ∧ u = σ') (Bw D ca ad s.heap.size) (Aw ad s.heap.size)) (av ad).toArray s 0 0 (Aw ad s.heap.size), D, ca, ad)
    ⟨hx, hb, hml, hown, hts, hK, hN, hlocks, Nat.zero_le _, Nat.zero_le _⟩ ⟨Nat.le_refl _, Nat.le_refl _⟩
    (fun pc lv v σ1 hd he H locs ls hw hl => W.iret hx hb hr (fun t ht hW => ⟨⟨v, σ1, rfl, ⟨congrArg Prod.fst he, congrArg Prod.snd he⟩, by rw [ht]; exact hw.1, hw.2.1⟩, hw.2.2.F ht⟩) hw.2.2.2.2 hd) s.heap [] _ ⟨hP, pool_self _ hD0, va_S.rf⟩ hl
theorem CZ.of {y : MethodName} {cc : ByteArray} {mx rf rl : Nat} {av : (Nat → Nat) → List Value} {σ σ' : Sg} {r : Int32} (hy : plainName y.cls = true) (hlen : ∀ ad : Nat → Nat, (lg_sl (av ad)).length ≤ mx)
    (body : ∀ X : Ctx, Cok X cc mx y.cls → rf ≤ X.R.frames ∧ rl ≤ X.R.locals → RZ X cc mx (r, σ') → G X mx 0 (lv_args 0 (av X.ad)) [] σ) : CI y cc mx (some .boolean) rf rl av σ r σ' := by
  intro l D ca ad sz
  refine Met.ofW (cc := cc) (maxL := mx) (ret := some .boolean) hy rfl ?_
  intro p e s m args below meth c s₁ B hml hv
  obtain ⟨rfl, hsz, hP, hK, hD0, hN⟩ := hv
  subst hsz
  have hts : ∀ w ∈ wsAll, w.before ((av ad).toArray) s = true := fun w h => atoms_spec (ws := wsY y cc mx (some .boolean)) B.pre w (List.mem_cons_of_mem _ h)
  have hown : s.vm.findClass y.cls = some m.cls := findClass_of_methodNamed B.named
  have hr := B.returns
  have hx := B.exec
  have hb := B.bytes
  have hlocks := B.notSynchronized
  rw [lg_entry_eq]
  have hl := lv_entry (av ad) (n := mx) (hlen ad)
  exact body (p, l, e, rmc rf rl, s, m, (av ad).toArray, below, meth, c, 0, 0, MQ below (va_Qi (fun r1 u => r1 = r ∧ u = σ') (Bw D ca ad s.heap.size) (Aw ad s.heap.size)) (av ad).toArray s 0 0 (Aw ad s.heap.size), D, ca, ad)
    ⟨hx, hb, hml, hown, hts, hK, hN, hlocks, Nat.zero_le _, Nat.zero_le _⟩ ⟨Nat.le_refl _, Nat.le_refl _⟩
    (fun pc lv v σ1 hd he hnar H locs ls hw hl => W.zret hx hb hr hnar (fun t ht hW => ⟨⟨v, σ1, rfl, ⟨congrArg Prod.fst he, congrArg Prod.snd he⟩, by rw [ht]; exact hw.1, hw.2.1⟩, hw.2.2.F ht⟩) hw.2.2.2.2 hd) s.heap [] _ ⟨hP, pool_self _ hD0, va_S.rf⟩ hl
theorem CL.of {y : MethodName} {cc : ByteArray} {mx rf rl : Nat} {av : (Nat → Nat) → List Value} {σ σ' : Sg} {r : Int64} (hy : plainName y.cls = true) (hlen : ∀ ad : Nat → Nat, (lg_sl (av ad)).length ≤ mx)
    (body : ∀ X : Ctx, Cok X cc mx y.cls → rf ≤ X.R.frames ∧ rl ≤ X.R.locals → RLg X cc mx (r, σ') → G X mx 0 (lv_args 0 (av X.ad)) [] σ) : CL y cc mx (some .long) rf rl av σ r σ' := by
  intro l D ca ad sz
  refine Met.ofW (cc := cc) (maxL := mx) (ret := some .long) hy rfl ?_
  intro p e s m args below meth c s₁ B hml hv
  obtain ⟨rfl, hsz, hP, hK, hD0, hN⟩ := hv
  subst hsz
  have hts : ∀ w ∈ wsAll, w.before ((av ad).toArray) s = true := fun w h => atoms_spec (ws := wsY y cc mx (some .long)) B.pre w (List.mem_cons_of_mem _ h)
  have hown : s.vm.findClass y.cls = some m.cls := findClass_of_methodNamed B.named
  have hr := B.returns
  have hx := B.exec
  have hb := B.bytes
  have hlocks := B.notSynchronized
  rw [lg_entry_eq]
  have hl := lv_entry (av ad) (n := mx) (hlen ad)
  exact body (p, l, e, rmc rf rl, s, m, (av ad).toArray, below, meth, c, 0, 0, MQ below (va_Ql (fun r1 u => r1 = r ∧ u = σ') (Bw D ca ad s.heap.size) (Aw ad s.heap.size)) (av ad).toArray s 0 0 (Aw ad s.heap.size), D, ca, ad)
    ⟨hx, hb, hml, hown, hts, hK, hN, hlocks, Nat.zero_le _, Nat.zero_le _⟩ ⟨Nat.le_refl _, Nat.le_refl _⟩
    (fun pc lv v σ1 hd he H locs ls hw hl => W.lret hx hb hr (fun t ht hW => ⟨⟨v, σ1, rfl, ⟨congrArg Prod.fst he, congrArg Prod.snd he⟩, by rw [ht]; exact hw.1, hw.2.1⟩, hw.2.2.F ht⟩) hw.2.2.2.2 hd) s.heap [] _ ⟨hP, pool_self _ hD0, va_S.rf⟩ hl
theorem CV.of {y : MethodName} {cc : ByteArray} {mx rf rl : Nat} {av : (Nat → Nat) → List Value} {σ σ' : Sg}  (hy : plainName y.cls = true) (hlen : ∀ ad : Nat → Nat, (lg_sl (av ad)).length ≤ mx)
    (body : ∀ X : Ctx, Cok X cc mx y.cls → rf ≤ X.R.frames ∧ rl ≤ X.R.locals → RV X cc mx σ' → G X mx 0 (lv_args 0 (av X.ad)) [] σ) : CV y cc mx none rf rl av σ σ' := by
  intro l D ca ad sz
  refine Met.ofW (cc := cc) (maxL := mx) (ret := none) hy rfl ?_
  intro p e s m args below meth c s₁ B hml hv
  obtain ⟨rfl, hsz, hP, hK, hD0, hN⟩ := hv
  subst hsz
  have hts : ∀ w ∈ wsAll, w.before ((av ad).toArray) s = true := fun w h => atoms_spec (ws := wsY y cc mx (none)) B.pre w (List.mem_cons_of_mem _ h)
  have hown : s.vm.findClass y.cls = some m.cls := findClass_of_methodNamed B.named
  have hr := B.returns
  have hx := B.exec
  have hb := B.bytes
  have hlocks := B.notSynchronized
  rw [lg_entry_eq]
  have hl := lv_entry (av ad) (n := mx) (hlen ad)
  exact body (p, l, e, rmc rf rl, s, m, (av ad).toArray, below, meth, c, 0, 0, MQ below (va_Qv (fun u => u = σ') (Bw D ca ad s.heap.size) (Aw ad s.heap.size)) (av ad).toArray s 0 0 (Aw ad s.heap.size), D, ca, ad)
    ⟨hx, hb, hml, hown, hts, hK, hN, hlocks, Nat.zero_le _, Nat.zero_le _⟩ ⟨Nat.le_refl _, Nat.le_refl _⟩
    (fun pc lv σ1 hd he H locs ls hw hl => W.vret hx hb hr (fun t ht hW => ⟨⟨σ1, rfl, he, by rw [ht]; exact hw.1, hw.2.1⟩, hw.2.2.F ht⟩) hw.2.2.2.2 hd) s.heap [] _ ⟨hP, pool_self _ hD0, va_S.rf⟩ hl
theorem CA.of {y : MethodName} {cc : ByteArray} {mx rf rl : Nat} {av : (Nat → Nat) → List Value} {σ σ' : Sg} {r : Nat} {cn : String} (hy : plainName y.cls = true) (hlen : ∀ ad : Nat → Nat, (lg_sl (av ad)).length ≤ mx)
    (body : ∀ X : Ctx, Cok X cc mx y.cls → rf ≤ X.R.frames ∧ rl ≤ X.R.locals → RA X cc mx (r, σ') → G X mx 0 (lv_args 0 (av X.ad)) [] σ) : CA y cc mx (some (.object cn)) rf rl av σ r σ' := by
  intro l D ca ad sz
  refine Met.ofW (cc := cc) (maxL := mx) (ret := some (.object cn)) hy rfl ?_
  intro p e s m args below meth c s₁ B hml hv
  obtain ⟨rfl, hsz, hP, hK, hD0, hN⟩ := hv
  subst hsz
  have hts : ∀ w ∈ wsAll, w.before ((av ad).toArray) s = true := fun w h => atoms_spec (ws := wsY y cc mx (some (.object cn))) B.pre w (List.mem_cons_of_mem _ h)
  have hown : s.vm.findClass y.cls = some m.cls := findClass_of_methodNamed B.named
  have hr := B.returns
  have hx := B.exec
  have hb := B.bytes
  have hlocks := B.notSynchronized
  rw [lg_entry_eq]
  have hl := lv_entry (av ad) (n := mx) (hlen ad)
  exact body (p, l, e, rmc rf rl, s, m, (av ad).toArray, below, meth, c, 0, 0, MQ below (va_Qr (fun u => u = σ') (fun u a t => a = ad r ∧ Bw D ca ad s.heap.size u t) (Aw ad s.heap.size)) (av ad).toArray s 0 0 (Aw ad s.heap.size), D, ca, ad)
    ⟨hx, hb, hml, hown, hts, hK, hN, hlocks, Nat.zero_le _, Nat.zero_le _⟩ ⟨Nat.le_refl _, Nat.le_refl _⟩
    (fun pc lv v σ1 hd he H locs ls hw hl => W.aret hx hb hr (Or.inl ⟨cn, rfl⟩) (Or.inr ⟨_, rfl⟩) (fun t ht hW => ⟨⟨σ1, ad v, rfl, congrArg Prod.snd he, congrArg (fun q => ad q) (congrArg Prod.fst he), by rw [ht]; exact hw.1, hw.2.1⟩, hw.2.2.F ht⟩) hw.2.2.2.2 hd) s.heap [] _ ⟨hP, pool_self _ hD0, va_S.rf⟩ hl
/-- what a callee's names must be -/
def yOk (y : MethodName) (cc : ByteArray) (mx : Nat) (ret : Option FieldType) (n : Nat) : Prop := Cond.code y cc mx ret ∈ wsAll ∧ Cond.initialized y.cls ∈ wsAll ∧ (y.cls ≠ "java/lang/invoke/MethodHandle" ∧ y.cls ≠ "java/lang/invoke/VarHandle" ∧ (parseMethodDescriptor y.desc).map (fun d => d.parameters.length) = some n)
def yV (y : MethodName) (cc : ByteArray) (mx : Nat) (ret : Option FieldType) (n : Nat) : Prop := yOk y cc mx ret n ∧ Cond.instanceMethod y ∈ wsAll ∧ Cond.selects y.cls y y ∈ wsAll
def yS (y : MethodName) (cc : ByteArray) (mx : Nat) (ret : Option FieldType) (n : Nat) : Prop := yOk y cc mx ret n ∧ Cond.static y ∈ wsAll
theorem wsY_good {y : MethodName} {cc : ByteArray} {mx n : Nat} {ret : Option FieldType} (hy : yOk y cc mx ret n) : GoodIn wsAll (wsY y cc mx ret) := fun w h => by
  rcases List.mem_cons.mp h with e | h
  · rw [e]; exact ws_good _ hy.1
  · exact ws_good _ h
theorem Wl.pre {X : Ctx} {kc : ByteArray} {nL : Nat} {ow : String} {σ : Sg} {H : Heap} {locs : List Loc} {av : List Value} (K : Cok X kc nL ow) (hw : Wl X σ H locs) : ∀ U : State, U.heap = H → X.s.WarmedH U.vm → Pcw X.D X.ca X.ad av σ H.size av.toArray U := fun U hU hW =>
  ⟨rfl, by rw [hU], by rw [hU]; exact hw.1, va_K.moved hW.alike K.2.2.2.2.2.1, hw.2.1.weaken (fun _ _ _ _ => trivial), NW.warm hW K.2.2.2.2.2.2.1⟩
abbrev RunX (X : Ctx) (H : Heap) (locs : List Loc) (g : JFrame) (rest : List Value) (Qa : State → Outcome → State → Prop) : Prop := va_Run X.p X.l X.e X.R X.s X.m X.args X.below X.meth X.c H locs X.cells X.slots 0 0 g rest Qa (Aw X.ad H.size)
section
variable {X : Ctx} {kc : ByteArray} {nL : Nat} {ow : String} {pc : Nat} {lv lv' : List (Nat × Value)} {st stk As rest : List Value} {σ σ' : Sg} {y : MethodName} {cc : ByteArray} {mx n rf rl idx : Nat} {ret : Option FieldType} {av : (Nat → Nat) → List Value} {H : Heap} {locs : List Loc} {ls : Array Slot} {Qc : Array Value → State → Outcome → State → Prop}
theorem run_v (K : Cok X kc nL ow) (hM : Met X.l y (wsY y cc mx ret) (rmc rf rl) (Pcw X.D X.ca X.ad (av X.ad) σ H.size) Qc 0 0 (Aw X.ad H.size)) (hy : yV y cc mx ret n) (hl0 : Cond.methodLink ow idx y ∈ wsAll) {i ci : Nat} {fs : List Value} {q : vw_C} (hav : av X.ad = .ref (X.ad i) :: As) (hn : As.length = n) (hst : stk = As.reverse ++ .ref (X.ad i) :: rest) (he : entF X.ca X.ad i (σ.1 i) (σ.2 i) = .inr (ci, fs)) (hi : i < NN) (hc : vwCl[ci]? = some q) (hq : q.1 = y.cls) (hroom : rf + 1 ≤ X.R.frames ∧ 8 + (mx + 11) + rl ≤ X.R.locals) (hcat : (rest.map fun v => v.category).sum ≤ 8) (hd : decode kc pc = .ok (.invokevirtual idx, 3)) (hw : Wl X σ H locs) (hl : lv_has ls nL lv) : RunX X H locs (F0 X.m pc ls stk) rest (Qc (av X.ad).toArray) := by
  have hts := K.2.2.2.2.1
  have hy0 := hy.1
  have r := va_runV (As := As) (rest := rest) (C := y.cls) (b := X.ad i) (g := F0 X.m pc ls stk) (cells := X.cells) (slots := X.slots) (locs := locs) (below := X.below) (meth := X.meth) (e := X.e) (H := H) ⟨K.1, K.2.1, K.2.2.1, K.2.2.2.1, hts⟩ hM (⟨callB_of n hts (wsY_good hy0) rfl rfl rfl (hts _ hy0.2.1) (hts _ hl0) hy0.2.2 hroom, hts _ hy.2.1, hts _ hy.2.2⟩) ⟨Pcw_blind, by rw [← hq]; exact va_recv K.2.2.2.2.2.1 hw.1 hc ((pool_at hi).trans (by rw [he])), by rw [hav]; exact hw.pre K⟩ rfl hn hl.1 hst (lv_room hcat) hd ⟨K.2.2.2.2.2.2.2.2.1, K.2.2.2.2.2.2.2.2.2⟩
  rw [hav]
  exact r
theorem run_s (K : Cok X kc nL ow) (hM : Met X.l y (wsY y cc mx ret) (rmc rf rl) (Pcw X.D X.ca X.ad (av X.ad) σ H.size) Qc 0 0 (Aw X.ad H.size)) (hy : yS y cc mx ret n) (hl0 : Cond.methodLink ow idx y ∈ wsAll) (hav : av X.ad = As) (hn : As.length = n) (hst : stk = As.reverse ++ rest) (hroom : rf + 1 ≤ X.R.frames ∧ 8 + (mx + 11) + rl ≤ X.R.locals) (hcat : (rest.map fun v => v.category).sum ≤ 8) (hd : decode kc pc = .ok (.invokestatic idx, 3)) (hw : Wl X σ H locs) (hl : lv_has ls nL lv) : RunX X H locs (F0 X.m pc ls stk) rest (Qc (av X.ad).toArray) := by
  have hts := K.2.2.2.2.1
  have hy0 := hy.1
  have r := va_runS (As := As) (rest := rest) (g := F0 X.m pc ls stk) (cells := X.cells) (slots := X.slots) (locs := locs) (below := X.below) (meth := X.meth) (e := X.e) (H := H) ⟨K.1, K.2.1, K.2.2.1, K.2.2.2.1, hts⟩ hM ⟨callB_of n hts (wsY_good hy0) rfl rfl rfl (hts _ hy0.2.1) (hts _ hl0) hy0.2.2 hroom, hts _ hy.2⟩ ⟨Pcw_blind, by rw [hav]; exact hw.pre K⟩ rfl hn hl.1 hst (lv_room hcat) hd ⟨K.2.2.2.2.2.2.2.2.1, K.2.2.2.2.2.2.2.2.2⟩
  rw [hav]
  exact r
theorem run_n (K : Cok X kc nL ow) (hM : Met X.l y (wsY y cc mx ret) (rmc rf rl) (Pcw X.D X.ca X.ad (av X.ad) σ H.size) Qc 0 0 (Aw X.ad H.size)) (hy : yS y cc mx ret n) (hl0 : (ow, idx, y) ∈ nests) (hav : av X.ad = As) (hn : As.length = n) (hst : stk = As.reverse ++ rest) (hroom : rf + 1 ≤ X.R.frames ∧ 8 + (mx + 11) + rl ≤ X.R.locals) (hcat : (rest.map fun v => v.category).sum ≤ 8) (hd : decode kc pc = .ok (.invokestatic idx, 3)) (hw : Wl X σ H locs) (hl : lv_has ls nL lv) : RunX X H locs (F0 X.m pc ls stk) rest (Qc (av X.ad).toArray) := by
  have hts := K.2.2.2.2.1
  have hy0 := hy.1
  have r := va_runSN (As := As) (rest := rest) (host := "ControlRegister") (g := F0 X.m pc ls stk) (cells := X.cells) (slots := X.slots) (locs := locs) (below := X.below) (meth := X.meth) (e := X.e) (H := H) ⟨K.1, K.2.1, K.2.2.1, K.2.2.2.1, hts⟩ hM ⟨va_cnB n hts (wsY_good hy0) rfl rfl rfl (K.2.2.2.2.2.2.1 _ hl0) (hts _ hy0.2.1) hy0.2.2 hroom, hts _ hy.2, trivial⟩ ⟨Pcw_blind, by rw [hav]; exact hw.pre K⟩ rfl hn hl.1 hst (lv_room hcat) hd ⟨K.2.2.2.2.2.2.2.2.1, K.2.2.2.2.2.2.2.2.2⟩
  rw [hav]
  exact r
theorem go_i {r : Int32} {a : Array Value} (hr : RunX X H locs (F0 X.m pc ls stk) rest (va_Qi (fun r1 u => r1 = r ∧ u = σ') (Bw X.D X.ca X.ad H.size) (Aw X.ad H.size) a)) (hw : Wl X σ H locs) (hl : lv_has ls nL lv) (k : G X nL (pc + 3) lv (.int r :: rest) σ') : WX X H locs (F0 X.m pc ls stk) := by
  refine va_calli hr hw.2.2 (fun q _ h => h.mono hw.2.2.1) (fun q h => h.mono hw.2.2.1) (fun r_1 u t H1 locs1 ht hvm hp hB hz1 hk1 hS => ?_)
  obtain ⟨rfl, rfl⟩ := hp
  exact k H1 locs1 ls ⟨by rw [← ht]; exact hB.1, hB.2.weaken (fun _ _ _ h => h.mono hw.2.2.1), hS⟩ hl
theorem go_l {r : Int64} {a : Array Value} (hr : RunX X H locs (F0 X.m pc ls stk) rest (va_Ql (fun r1 u => r1 = r ∧ u = σ') (Bw X.D X.ca X.ad H.size) (Aw X.ad H.size) a)) (hw : Wl X σ H locs) (hl : lv_has ls nL lv) (k : G X nL (pc + 3) lv (.long r :: rest) σ') : WX X H locs (F0 X.m pc ls stk) := by
  refine va_calll hr hw.2.2 (fun q _ h => h.mono hw.2.2.1) (fun q h => h.mono hw.2.2.1) (fun r_1 u t H1 locs1 ht hvm hp hB hz1 hk1 hS => ?_)
  obtain ⟨rfl, rfl⟩ := hp
  exact k H1 locs1 ls ⟨by rw [← ht]; exact hB.1, hB.2.weaken (fun _ _ _ h => h.mono hw.2.2.1), hS⟩ hl
theorem go_v {a : Array Value} (hr : RunX X H locs (F0 X.m pc ls stk) rest (va_Qv (fun u => u = σ') (Bw X.D X.ca X.ad H.size) (Aw X.ad H.size) a)) (hw : Wl X σ H locs) (hl : lv_has ls nL lv) (k : G X nL (pc + 3) lv rest σ') : WX X H locs (F0 X.m pc ls stk) := by
  refine va_callv hr hw.2.2 (fun q _ h => h.mono hw.2.2.1) (fun q h => h.mono hw.2.2.1) (fun u t H1 locs1 ht hvm hp hB hz1 hk1 hS => ?_)
  subst hp
  exact k H1 locs1 ls ⟨by rw [← ht]; exact hB.1, hB.2.weaken (fun _ _ _ h => h.mono hw.2.2.1), hS⟩ hl
theorem go_a {r : Nat} {a : Array Value} (hr : RunX X H locs (F0 X.m pc ls stk) rest (va_Qr (fun u => u = σ') (fun u a t => a = X.ad r ∧ Bw X.D X.ca X.ad H.size u t) (Aw X.ad H.size) a)) (hw : Wl X σ H locs) (hl : lv_has ls nL lv) (k : G X nL (pc + 3) lv (.ref (X.ad r) :: rest) σ') : WX X H locs (F0 X.m pc ls stk) := by
  refine va_callr hr hw.2.2 (fun q _ h => h.mono hw.2.2.1) (fun q h => h.mono hw.2.2.1) (fun u ra t H1 locs1 ht hvm hp hB hz1 hk1 hS => ?_)
  subst hp
  obtain ⟨hra, hB⟩ := hB
  subst hra
  exact k H1 locs1 ls ⟨by rw [← ht]; exact hB.1, hB.2.weaken (fun _ _ _ h => h.mono hw.2.2.1), hS⟩ hl
theorem g_cvi (K : Cok X kc nL ow) {r : Int32} (hM : CI y cc mx ret rf rl av σ r σ') (hy : yV y cc mx ret n) (hl0 : Cond.methodLink ow idx y ∈ wsAll) {i ci : Nat} {fs : List Value} {q : vw_C} (hav : av X.ad = .ref (X.ad i) :: As) (hn : As.length = n) (hst : stk = As.reverse ++ .ref (X.ad i) :: rest) (he : entF X.ca X.ad i (σ.1 i) (σ.2 i) = .inr (ci, fs)) (hi : i < NN) (hc : vwCl[ci]? = some q) (hq : q.1 = y.cls) (hroom : rf + 1 ≤ X.R.frames ∧ 8 + (mx + 11) + rl ≤ X.R.locals) (hcat : (rest.map fun v => v.category).sum ≤ 8) (hd : decode kc pc = .ok (.invokevirtual idx, 3)) (k : G X nL (pc + 3) lv (.int r :: rest) σ') : G X nL pc lv stk σ :=
  fun H locs ls hw hl => go_i (run_v K (hM X.l X.D X.ca X.ad H.size) hy hl0 hav hn hst he hi hc hq hroom hcat hd hw hl) hw hl k
theorem g_csi (K : Cok X kc nL ow) {r : Int32} (hM : CI y cc mx ret rf rl av σ r σ') (hy : yS y cc mx ret n) (hl0 : Cond.methodLink ow idx y ∈ wsAll) (hav : av X.ad = As) (hn : As.length = n) (hst : stk = As.reverse ++ rest) (hroom : rf + 1 ≤ X.R.frames ∧ 8 + (mx + 11) + rl ≤ X.R.locals) (hcat : (rest.map fun v => v.category).sum ≤ 8) (hd : decode kc pc = .ok (.invokestatic idx, 3)) (k : G X nL (pc + 3) lv (.int r :: rest) σ') : G X nL pc lv stk σ :=
  fun H locs ls hw hl => go_i (run_s K (hM X.l X.D X.ca X.ad H.size) hy hl0 hav hn hst hroom hcat hd hw hl) hw hl k
theorem g_cni (K : Cok X kc nL ow) {r : Int32} (hM : CI y cc mx ret rf rl av σ r σ') (hy : yS y cc mx ret n) (hl0 : (ow, idx, y) ∈ nests) (hav : av X.ad = As) (hn : As.length = n) (hst : stk = As.reverse ++ rest) (hroom : rf + 1 ≤ X.R.frames ∧ 8 + (mx + 11) + rl ≤ X.R.locals) (hcat : (rest.map fun v => v.category).sum ≤ 8) (hd : decode kc pc = .ok (.invokestatic idx, 3)) (k : G X nL (pc + 3) lv (.int r :: rest) σ') : G X nL pc lv stk σ :=
  fun H locs ls hw hl => go_i (run_n K (hM X.l X.D X.ca X.ad H.size) hy hl0 hav hn hst hroom hcat hd hw hl) hw hl k
theorem g_cvl (K : Cok X kc nL ow) {r : Int64} (hM : CL y cc mx ret rf rl av σ r σ') (hy : yV y cc mx ret n) (hl0 : Cond.methodLink ow idx y ∈ wsAll) {i ci : Nat} {fs : List Value} {q : vw_C} (hav : av X.ad = .ref (X.ad i) :: As) (hn : As.length = n) (hst : stk = As.reverse ++ .ref (X.ad i) :: rest) (he : entF X.ca X.ad i (σ.1 i) (σ.2 i) = .inr (ci, fs)) (hi : i < NN) (hc : vwCl[ci]? = some q) (hq : q.1 = y.cls) (hroom : rf + 1 ≤ X.R.frames ∧ 8 + (mx + 11) + rl ≤ X.R.locals) (hcat : (rest.map fun v => v.category).sum ≤ 8) (hd : decode kc pc = .ok (.invokevirtual idx, 3)) (k : G X nL (pc + 3) lv (.long r :: rest) σ') : G X nL pc lv stk σ :=
  fun H locs ls hw hl => go_l (run_v K (hM X.l X.D X.ca X.ad H.size) hy hl0 hav hn hst he hi hc hq hroom hcat hd hw hl) hw hl k
theorem g_csl (K : Cok X kc nL ow) {r : Int64} (hM : CL y cc mx ret rf rl av σ r σ') (hy : yS y cc mx ret n) (hl0 : Cond.methodLink ow idx y ∈ wsAll) (hav : av X.ad = As) (hn : As.length = n) (hst : stk = As.reverse ++ rest) (hroom : rf + 1 ≤ X.R.frames ∧ 8 + (mx + 11) + rl ≤ X.R.locals) (hcat : (rest.map fun v => v.category).sum ≤ 8) (hd : decode kc pc = .ok (.invokestatic idx, 3)) (k : G X nL (pc + 3) lv (.long r :: rest) σ') : G X nL pc lv stk σ :=
  fun H locs ls hw hl => go_l (run_s K (hM X.l X.D X.ca X.ad H.size) hy hl0 hav hn hst hroom hcat hd hw hl) hw hl k
theorem g_cnl (K : Cok X kc nL ow) {r : Int64} (hM : CL y cc mx ret rf rl av σ r σ') (hy : yS y cc mx ret n) (hl0 : (ow, idx, y) ∈ nests) (hav : av X.ad = As) (hn : As.length = n) (hst : stk = As.reverse ++ rest) (hroom : rf + 1 ≤ X.R.frames ∧ 8 + (mx + 11) + rl ≤ X.R.locals) (hcat : (rest.map fun v => v.category).sum ≤ 8) (hd : decode kc pc = .ok (.invokestatic idx, 3)) (k : G X nL (pc + 3) lv (.long r :: rest) σ') : G X nL pc lv stk σ :=
  fun H locs ls hw hl => go_l (run_n K (hM X.l X.D X.ca X.ad H.size) hy hl0 hav hn hst hroom hcat hd hw hl) hw hl k
theorem g_cvv (K : Cok X kc nL ow) (hM : CV y cc mx ret rf rl av σ σ') (hy : yV y cc mx ret n) (hl0 : Cond.methodLink ow idx y ∈ wsAll) {i ci : Nat} {fs : List Value} {q : vw_C} (hav : av X.ad = .ref (X.ad i) :: As) (hn : As.length = n) (hst : stk = As.reverse ++ .ref (X.ad i) :: rest) (he : entF X.ca X.ad i (σ.1 i) (σ.2 i) = .inr (ci, fs)) (hi : i < NN) (hc : vwCl[ci]? = some q) (hq : q.1 = y.cls) (hroom : rf + 1 ≤ X.R.frames ∧ 8 + (mx + 11) + rl ≤ X.R.locals) (hcat : (rest.map fun v => v.category).sum ≤ 8) (hd : decode kc pc = .ok (.invokevirtual idx, 3)) (k : G X nL (pc + 3) lv rest σ') : G X nL pc lv stk σ :=
  fun H locs ls hw hl => go_v (run_v K (hM X.l X.D X.ca X.ad H.size) hy hl0 hav hn hst he hi hc hq hroom hcat hd hw hl) hw hl k
theorem g_csv (K : Cok X kc nL ow) (hM : CV y cc mx ret rf rl av σ σ') (hy : yS y cc mx ret n) (hl0 : Cond.methodLink ow idx y ∈ wsAll) (hav : av X.ad = As) (hn : As.length = n) (hst : stk = As.reverse ++ rest) (hroom : rf + 1 ≤ X.R.frames ∧ 8 + (mx + 11) + rl ≤ X.R.locals) (hcat : (rest.map fun v => v.category).sum ≤ 8) (hd : decode kc pc = .ok (.invokestatic idx, 3)) (k : G X nL (pc + 3) lv rest σ') : G X nL pc lv stk σ :=
  fun H locs ls hw hl => go_v (run_s K (hM X.l X.D X.ca X.ad H.size) hy hl0 hav hn hst hroom hcat hd hw hl) hw hl k
theorem g_cnv (K : Cok X kc nL ow) (hM : CV y cc mx ret rf rl av σ σ') (hy : yS y cc mx ret n) (hl0 : (ow, idx, y) ∈ nests) (hav : av X.ad = As) (hn : As.length = n) (hst : stk = As.reverse ++ rest) (hroom : rf + 1 ≤ X.R.frames ∧ 8 + (mx + 11) + rl ≤ X.R.locals) (hcat : (rest.map fun v => v.category).sum ≤ 8) (hd : decode kc pc = .ok (.invokestatic idx, 3)) (k : G X nL (pc + 3) lv rest σ') : G X nL pc lv stk σ :=
  fun H locs ls hw hl => go_v (run_n K (hM X.l X.D X.ca X.ad H.size) hy hl0 hav hn hst hroom hcat hd hw hl) hw hl k
theorem g_cva (K : Cok X kc nL ow) {r : Nat} (hM : CA y cc mx ret rf rl av σ r σ') (hy : yV y cc mx ret n) (hl0 : Cond.methodLink ow idx y ∈ wsAll) {i ci : Nat} {fs : List Value} {q : vw_C} (hav : av X.ad = .ref (X.ad i) :: As) (hn : As.length = n) (hst : stk = As.reverse ++ .ref (X.ad i) :: rest) (he : entF X.ca X.ad i (σ.1 i) (σ.2 i) = .inr (ci, fs)) (hi : i < NN) (hc : vwCl[ci]? = some q) (hq : q.1 = y.cls) (hroom : rf + 1 ≤ X.R.frames ∧ 8 + (mx + 11) + rl ≤ X.R.locals) (hcat : (rest.map fun v => v.category).sum ≤ 8) (hd : decode kc pc = .ok (.invokevirtual idx, 3)) (k : G X nL (pc + 3) lv (.ref (X.ad r) :: rest) σ') : G X nL pc lv stk σ :=
  fun H locs ls hw hl => go_a (run_v K (hM X.l X.D X.ca X.ad H.size) hy hl0 hav hn hst he hi hc hq hroom hcat hd hw hl) hw hl k
theorem g_csa (K : Cok X kc nL ow) {r : Nat} (hM : CA y cc mx ret rf rl av σ r σ') (hy : yS y cc mx ret n) (hl0 : Cond.methodLink ow idx y ∈ wsAll) (hav : av X.ad = As) (hn : As.length = n) (hst : stk = As.reverse ++ rest) (hroom : rf + 1 ≤ X.R.frames ∧ 8 + (mx + 11) + rl ≤ X.R.locals) (hcat : (rest.map fun v => v.category).sum ≤ 8) (hd : decode kc pc = .ok (.invokestatic idx, 3)) (k : G X nL (pc + 3) lv (.ref (X.ad r) :: rest) σ') : G X nL pc lv stk σ :=
  fun H locs ls hw hl => go_a (run_s K (hM X.l X.D X.ca X.ad H.size) hy hl0 hav hn hst hroom hcat hd hw hl) hw hl k
theorem g_cna (K : Cok X kc nL ow) {r : Nat} (hM : CA y cc mx ret rf rl av σ r σ') (hy : yS y cc mx ret n) (hl0 : (ow, idx, y) ∈ nests) (hav : av X.ad = As) (hn : As.length = n) (hst : stk = As.reverse ++ rest) (hroom : rf + 1 ≤ X.R.frames ∧ 8 + (mx + 11) + rl ≤ X.R.locals) (hcat : (rest.map fun v => v.category).sum ≤ 8) (hd : decode kc pc = .ok (.invokestatic idx, 3)) (k : G X nL (pc + 3) lv (.ref (X.ad r) :: rest) σ') : G X nL pc lv stk σ :=
  fun H locs ls hw hl => go_a (run_n K (hM X.l X.D X.ca X.ad H.size) hy hl0 hav hn hst hroom hcat hd hw hl) hw hl k
theorem g_copy (K : Cok X kc nL ow) {i0 i1 n0 n1 : Nat} (hk0 : kd i0 = (0, n0)) (hi0 : i0 < NN) (hk1 : kd i1 = (0, n1)) (hi1 : i1 < NN) {sp dp n : Int32} (h : (0 ≤ sp.toInt ∧ 0 ≤ dp.toInt ∧ 0 ≤ n.toInt) ∧ sp.toInt + n.toInt ≤ n0 ∧ dp.toInt + n.toInt ≤ n1) (hlk : Cond.methodLink ow idx arraycopyName ∈ wsAll) (hnat : Cond.native arraycopyName ∈ wsAll) (hsta : Cond.static arraycopyName ∈ wsAll) (hini : Cond.initialized "java/lang/System" ∈ wsAll) (hfr : 1 ≤ X.R.frames) (hlo : (rest.map fun v => v.category).sum + (nativeFrameWords "java/lang/System" "arraycopy" 5 + 11) ≤ X.R.locals) (hd : decode kc pc = .ok (.invokestatic idx, 3)) (k : ∀ σ', σ' = setR σ i1 (va_cpy (σ.1 i0) (σ.1 i1) sp.toNatClampNeg dp.toNatClampNeg n.toNatClampNeg) → G X nL (pc + 3) lv rest σ') : G X nL pc lv (.int n :: .int dp :: .ref (X.ad i1) :: .int sp :: .ref (X.ad i0) :: rest) σ := fun H locs ls hw hl => by
  have hts := K.2.2.2.2.1
  have nn : ∀ z : Int32, 0 ≤ z.toInt → ¬ z < 0 ∧ z.toInt = (z.toNatClampNeg : Int) := by
    intro z hz
    refine ⟨fun q => ?_, ?_⟩
    · have := Int32.lt_iff_toInt_lt.mp q
      have h0 : (0 : Int32).toInt = 0 := rfl
      omega
    · simp only [Int32.toNatClampNeg]
      omega
  obtain ⟨⟨h1, h2, h3⟩, h4, h5⟩ := h
  have a1 := nn sp h1
  have a2 := nn dp h2
  have a3 := nn n h3
  refine va_copyi K.1 K.2.1 (K.2.2.1.trans hl.1.symm) K.2.2.2.1 (hts _ hlk) (hts _ hnat) (hts _ hsta) (hts _ hini) K.2.2.2.2.2.1 hw.1 hw.2.1 hw.2.2 i0 i1 0 0 (ty := .int) ((pool_at hi0).trans (by rw [e_ia hk0])) ((pool_at hi1).trans (by rw [e_ia hk1])) rfl rfl rfl a1.1 a2.1 a3.1 (by omega) (by omega) (fun _ _ => rfl) hfr hlo hd (fun H1 locs1 hP hD hS => ?_)
  rw [pool_setR hi1 (e_ia hk1).symm] at hP hD
  exact k _ rfl H1 locs1 ls ⟨hP, hD, hS⟩ hl
def f_max (x y : Int32) : Int32 := if x < y then y else x
theorem g_mmax (K : Cok X kc nL ow) {x y : Int32} (hlk : Cond.methodLink ow idx Lib.Math.max.name ∈ wsAll) (hsta : Cond.static Lib.Math.max.name ∈ wsAll) (hini : Cond.initialized "java/lang/Math" ∈ wsAll) (hco : Cond.code Lib.Math.max.name Lib.Math.max.code 2 (some .int) ∈ wsAll) (hfr : 1 ≤ X.R.frames) (hlo : (rest.map fun v => v.category).sum + 13 ≤ X.R.locals) (hd : decode kc pc = .ok (.invokestatic idx, 3)) (k : G X nL (pc + 3) lv (.int (f_max x y) :: rest) σ) : G X nL pc lv (.int y :: .int x :: rest) σ :=
  fun H locs ls hw hl => va_mmax K.1 K.2.1 (K.2.2.1.trans hl.1.symm) K.2.2.2.1 (K.2.2.2.2.1 _ hlk) (K.2.2.2.2.1 _ hsta) (K.2.2.2.2.1 _ hini) (K.2.2.2.2.1 _ hco) hfr hlo K.2.2.2.2.2.2.2.2.1 K.2.2.2.2.2.2.2.2.2 hd (k H locs ls hw hl)
end
