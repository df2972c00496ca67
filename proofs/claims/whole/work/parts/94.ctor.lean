/-! CONSTRUCTORS: fields, objects, calls of constructors -/
theorem app_l {w1 w2 : va_W} {k : Nat} {q : Nat × va_E} (h : w1[k]? = some q) : (w1 ++ w2)[k]? = some q := by
  rw [List.getElem?_append_left (List.getElem?_eq_some_iff.mp h).1]
  exact h
theorem app_r {w1 w2 : va_W} {k : Nat} {q : Nat × va_E} (h : w2[k]? = some q) : (w1 ++ w2)[w1.length + k]? = some q := by
  rw [List.getElem?_append_right (Nat.le_add_right _ _), Nat.add_sub_cancel_left]
  exact h
theorem va_P.right {D : va_G} {cl : List vw_C} {w1 w2 : va_W} {H : Heap} (h : va_P D cl (w1 ++ w2) H) : va_P D cl w2 H := fun k q hq => h _ q (app_r hq)
theorem va_P.left {D : va_G} {cl : List vw_C} {w1 w2 : va_W} {H : Heap} (h : va_P D cl (w1 ++ w2) H) : va_P D cl w1 H := fun k q hq => h _ q (app_l hq)
theorem va_D.right {A : Nat → Prop} {w1 w2 : va_W} (h : va_D A (w1 ++ w2)) : va_D A w2 := ⟨fun i j p q hi hj e => by
  have := h.1 _ _ p q (app_r hi) (app_r hj) e
  omega, fun k q hq => h.2 _ q (app_r hq)⟩
theorem va_join_end {A : Nat → Prop} {D : va_G} {cl : List vw_C} {ws w1 : va_W} {a : Nat} {e : va_E} {H H1 : Heap} (hP : va_P D cl (ws ++ [(a, e)]) H) (hD : va_D A (ws ++ [(a, e)])) (hk : ∀ q : Nat, q < H.size → ¬ va_A [(a, e)] H.size q → H1[q]? = H[q]?) (hF : ∀ q, va_A [(a, e)] H.size q → A q) (hP1 : va_P D cl w1 H1) (hD1 : va_D (va_A [(a, e)] H.size) w1) : va_P D cl (ws ++ w1) H1 ∧ va_D A (ws ++ w1) := by
  have apart : ∀ (k : Nat) (q : Nat × va_E), ws[k]? = some q → q.1 < H.size ∧ ¬ va_A [(a, e)] H.size q.1 := by
    intro k q hq
    have hl := (hP k q (app_l hq)).lt
    refine ⟨hl, fun h => ?_⟩
    rcases h with ⟨k2, e2, h⟩ | h
    · have hk2 : k2 = 0 := by
        have := (List.getElem?_eq_some_iff.mp h).1
        simp at this
        exact this
      subst hk2
      cases h
      have := hD.1 k (ws.length + 0) q (q.1, e) (app_l hq) (app_r rfl) rfl
      have := (List.getElem?_eq_some_iff.mp hq).1
      omega
    · omega
  refine ⟨va_P.app (fun k q hq => (hP k q (app_l hq)).kept (hk q.1 (apart k q hq).1 (apart k q hq).2)) hP1, va_D.app ⟨fun i j p q hi hj he => hD.1 i j p q (app_l hi) (app_l hj) he, fun k q hq => hD.2 k q (app_l hq)⟩ (hD1.weaken (fun k q _ h => hF q.1 h)) (fun i j x y hx hy hxy => (apart i x hx).2 (by rw [hxy]; exact hD1.2 j y hy))⟩
section
variable {X : Ctx} {A : Nat → Prop} {kc : ByteArray} {nL : Nat} {ow : String} {nc ns pc : Nat} {lv : List (Nat × Value)} {st : List Value} {ws : va_W}
theorem i_putF (K : KI X kc nL ow A) (hin : X.meth.name = "<init>") {h0 ci : Nat} {fs : List Value} {w : va_W} {C : String} {T : u_T} {N idx : Nat} (hc : vwCl[ci]? = some (C, T, N)) (j : Nat) (hj : j < N) (hu : ∀ w ∈ u_ws C T N, w ∈ wsAll) (ty0 : Nat → FieldType) (hty : ∀ k, k < N → parseFieldDescriptor (T k).2.2.1 = some (ty0 k)) (hnm : ∀ a, a < N → ∀ b, b < N → a ≠ b → (T a).2.1 ≠ (T b).2.1) (hw0 : Cond.fieldLink ow idx (T j).1 (T j).2.1 (T j).2.2.1 ∈ wsAll) (hfin : (T j).2.2.2 = true) (hdecl : (T j).1 = ow) {ty : FieldType} {v : Value} (hd0 : parseFieldDescriptor (T j).2.2.1 = some ty) (hn : narrow ty v = v) (hfit : fits ty v = true) (hlen : j < fs.length) (hd : decode kc pc = .ok (.putfield idx, 3)) (k : WI X A nc ns nL (pc + 3) lv st ((h0, .inr (ci, fs.set j v)) :: w)) : WI X A nc ns nL pc lv (v :: .ref h0 :: st) ((h0, .inr (ci, fs)) :: w) :=
  fun H locs ls hP hD hS hl => va_putF K.1 K.2.1 K.2.2.2.2.1 hu ty0 hty hnm K.2.2.2.1 K.2.2.2.2.2.1 hP hD hS 0 rfl hc j hj (K.2.2.2.2.1 _ hw0) (fun _ h9 => h9) hfin hin hdecl hd0 hn hfit hlen hd (fun H1 locs1 hP1 hD1 hS1 => k H1 locs1 ls hP1 hD1 hS1 hl)
theorem i_put (K : KI X kc nL ow A) {h0 ci : Nat} {fs : List Value} {w : va_W} {C : String} {T : u_T} {N idx : Nat} (hc : vwCl[ci]? = some (C, T, N)) (j : Nat) (hj : j < N) (hu : ∀ w ∈ u_ws C T N, w ∈ wsAll) (ty0 : Nat → FieldType) (hty : ∀ k, k < N → parseFieldDescriptor (T k).2.2.1 = some (ty0 k)) (hnm : ∀ a, a < N → ∀ b, b < N → a ≠ b → (T a).2.1 ≠ (T b).2.1) (hw0 : Cond.fieldLink ow idx (T j).1 (T j).2.1 (T j).2.2.1 ∈ wsAll) (hfin : (T j).2.2.2 = false) {ty : FieldType} {v : Value} (hd0 : parseFieldDescriptor (T j).2.2.1 = some ty) (hn : narrow ty v = v) (hfit : fits ty v = true) (hlen : j < fs.length) (hd : decode kc pc = .ok (.putfield idx, 3)) (k : WI X A nc ns nL (pc + 3) lv st ((h0, .inr (ci, fs.set j v)) :: w)) : WI X A nc ns nL pc lv (v :: .ref h0 :: st) ((h0, .inr (ci, fs)) :: w) :=
  fun H locs ls hP hD hS hl => va_put K.1 K.2.1 K.2.2.2.2.1 hu ty0 hty hnm K.2.2.2.1 K.2.2.2.2.2.1 hP hD hS 0 rfl hc j hj (K.2.2.2.2.1 _ hw0) (fun _ h9 => h9) hfin hd0 hn hfit hlen hd (fun H1 locs1 hP1 hD1 hS1 => k H1 locs1 ls hP1 hD1 hS1 hl)
theorem i_get (K : KI X kc nL ow A) {h0 ci : Nat} {fs : List Value} {w : va_W} {C : String} {T : u_T} {N idx : Nat} (hc : vwCl[ci]? = some (C, T, N)) (j : Nat) (hj : j < N) (hu : ∀ w ∈ u_ws C T N, w ∈ wsAll) (hw0 : Cond.fieldLink ow idx (T j).1 (T j).2.1 (T j).2.2.1 ∈ wsAll) {v : Value} (hv : fs[j]? = some v) (hd : decode kc pc = .ok (.getfield idx, 3)) (k : WI X A nc ns nL (pc + 3) lv (v :: st) ((h0, .inr (ci, fs)) :: w)) : WI X A nc ns nL pc lv (.ref h0 :: st) ((h0, .inr (ci, fs)) :: w) :=
  fun H locs ls hP hD hS hl => va_get K.1 K.2.1 K.2.2.2.2.1 hu K.2.2.2.1 K.2.2.2.2.2.1 hP 0 rfl hc j hj (K.2.2.2.2.1 _ hw0) (fun _ h9 => h9) hv hd (k H locs ls hP hD hS hl)
theorem i_iast (K : KI X kc nL ow A) (q0 : Nat) {a n : Nat} {f : Nat → Int32} (ha : ws[q0]? = some (a, .inl (X.ca 0, n, .inl f))) {x v : Int32} (hin : vp_in x n) (hd : decode kc pc = .ok (.iastore, 1)) {ws' : va_W} (hs : ws.set q0 (a, .inl (X.ca 0, n, .inl (upd f x.toNatClampNeg v))) = ws') (k : WI X A nc ns nL (pc + 1) lv st ws') : WI X A nc ns nL pc lv (.int v :: .int x :: .ref a :: st) ws :=
  fun H locs ls hP hD hS hl => va_iast K.1 K.2.1 K.2.2.2.2.2.1 hP hD hS q0 0 ha rfl hin hd (fun H1 locs1 hP1 hD1 hS1 => by
    rw [hs] at hP1 hD1
    exact k H1 locs1 ls hP1 hD1 hS1 hl)
theorem i_new (K : KI X kc nL ow A) {ci idx : Nat} {C : String} {T : u_T} {N : Nat} (hc : vwCl[ci]? = some (C, T, N)) (hu : ∀ w ∈ u_ws C T N, w ∈ wsAll) (ty0 : Nat → FieldType) (hty : ∀ k, k < N → parseFieldDescriptor (T k).2.2.1 = some (ty0 k)) (hcl : Cond.classLink ow idx C ∈ wsAll) (hinst : Cond.instantiable C N ∈ wsAll) (hini : Cond.initialized C ∈ wsAll) {fs : List Value} (hfs : ∀ j, j < N → defaultValue (ty0 j) = vp_V fs j) (hcells : nc + 1 ≤ X.R.cells) (hslots : ns + N ≤ X.R.slots) (hd : decode kc pc = .ok (.new idx, 3)) (k : ∀ q, WI X A (nc + 1) (ns + N) nL (pc + 3) lv (.ref q :: st) (ws ++ [(q, .inr (ci, fs))])) : WI X A nc ns nL pc lv st ws :=
  fun H locs ls hP hD hS hl => va_new K.1 K.2.1 K.2.2.2.2.1 hu ty0 hty K.2.2.2.1 (K.2.2.2.2.1 _ hcl) (K.2.2.2.2.1 _ hinst) (K.2.2.2.2.1 _ hini) K.2.2.2.2.2.1 hP hD hS K.2.2.2.2.2.2.2.2 hc hfs hcells hslots hd (fun q H1 hP1 hD1 hS1 => k q H1 locs ls hP1 hD1 hS1 hl)
end
/-! ### contracts of constructors -/
abbrev outT : Type := (Nat → ClassId) → (Nat → Nat → Nat) → va_W
def preN (D : va_G) (ca : Nat → ClassId) (ci : Nat) (fs0 : List Value) (h0 sz : Nat) (U : State) : Prop := U.heap.size = sz ∧ va_P D vwCl [(h0, .inr (ci, fs0))] U.heap ∧ va_K D vwCl (tysA ca) U ∧ va_D (fun _ => True) [(h0, .inr (ci, fs0))] ∧ NW U ∧ MAs ca U
def rmN (rf rl mc ms : Nat) : Room := { frames := rf, cells := mc, slots := ms, locals := rl }
def postN (D : va_G) (ca : Nat → ClassId) (ci : Nat) (fs0 : List Value) (out : outT) (h0 sz : Nat) : Array Value → State → Outcome → State → Prop := va_Qv (fun u : Nat → Nat → Nat => u 0 0 = h0) (fun u t => va_P D vwCl (out ca u) t.heap ∧ va_D (va_A [(h0, .inr (ci, fs0))] sz) (out ca u)) (va_A [(h0, .inr (ci, fs0))] sz)
def NI (y : MethodName) (cc : ByteArray) (ci : Nat) (fs0 : List Value) (out : outT) (rf rl mc ms : Nat) : Prop := ∀ (l : Launch) (D : va_G) (ca : Nat → ClassId) (h0 sz : Nat),
  Met l y (wsY y cc 1 none) (rmN rf rl mc ms) (va_Pc [.ref h0] (preN D ca ci fs0 h0 sz)) (postN D ca ci fs0 out h0 sz) mc ms (va_A [(h0, .inr (ci, fs0))] sz)
theorem preN_blind {D : va_G} {ca : Nat → ClassId} {ci : Nat} {fs0 : List Value} {h0 sz : Nat} {av : List Value} : FrameBlind (va_Pc av (preN D ca ci fs0 h0 sz)) := by
  intro a U g mk q
  obtain ⟨q0, q1, qP, qK, qD, qN, qM⟩ := q
  exact ⟨q0, q1, qP, va_K.moved (u := U) (U := U.calling g mk a) (Vm.Alike.refl U.vm) qK, qD, NW.same (u := U) (U := U.calling g mk a) rfl qN, MAs.moved (u := U) (U := U.calling g mk a) (Vm.Alike.refl U.vm) qM⟩
def RN (X : Ctx) (A : Nat → Prop) (cc : ByteArray) (mc ms : Nat) (out : outT) (h0 : Nat) : Prop := ∀ (pc : Nat) (lv : List (Nat × Value)) (ws : va_W) (nc ns : Nat) (u : Nat → Nat → Nat), decode cc pc = .ok (.return_, 1) → nc = mc → ns = ms → u 0 0 = h0 → ws = out X.ca u → WI X A nc ns 1 pc lv [] ws
theorem NI.of {y : MethodName} {cc : ByteArray} {ci : Nat} {fs0 : List Value} {out : outT} {rf rl mc ms : Nat} (hy : plainName y.cls = true) (hyn : y.name = "<init>") (body : ∀ (X : Ctx) (A : Nat → Prop) (h0 : Nat), KI X cc 1 y.cls A → X.meth.name = "<init>" → (X.R.frames = rf ∧ X.R.locals = rl ∧ X.R.cells = mc ∧ X.R.slots = ms) → RN X A cc mc ms out h0 → WI X A 0 0 1 0 [(0, .ref h0)] [] [(h0, .inr (ci, fs0))]) : NI y cc ci fs0 out rf rl mc ms := by
  intro l D ca h0 sz
  refine Met.ofW (cc := cc) (maxL := 1) (ret := none) hy rfl ?_
  intro p e s m args below meth c s₁ B hml hv
  obtain ⟨rfl, hsz, hP, hK, hD0, hN, hM⟩ := hv
  subst hsz
  have hts : ∀ w ∈ wsAll, w.before ([Value.ref h0].toArray) s = true := fun w h => atoms_spec (ws := wsY y cc 1 none) B.pre w (List.mem_cons_of_mem _ h)
  have hown : s.vm.findClass y.cls = some m.cls := findClass_of_methodNamed B.named
  have hr := B.returns
  have hx := B.exec
  have hb := B.bytes
  have hlocks := B.notSynchronized
  have hin : meth.name = "<init>" := ((name_of_methodNamed B.named B.method).1).trans hyn
  have hD := hD0.self (sz := s.heap.size)
  rw [lg_entry_eq]
  have hl := lv_entry [Value.ref h0] (n := 1) (Nat.le_of_ble_eq_true rfl)
  exact body (p, l, e, rmN rf rl mc ms, s, m, [Value.ref h0].toArray, below, meth, c, 0, 0, MQ below (postN D ca ci fs0 out h0 s.heap.size) [Value.ref h0].toArray s mc ms (va_A [(h0, .inr (ci, fs0))] s.heap.size), D, ca, fun _ => 0) (va_A [(h0, .inr (ci, fs0))] s.heap.size) h0
    ⟨hx, hb, hml, hown, hts, hK, hN, hM, fun q h => Or.inr h⟩ hin ⟨rfl, rfl, rfl, rfl⟩
    (fun pc lv ws nc ns u hd e1 e2 e3 e4 H locs ls hP hD hS hl => by
      subst e1
      subst e2
      subst e4
      exact W.vret hx hb hr (fun t ht hW => ⟨⟨u, rfl, e3, by rw [ht]; exact hP, hD⟩, hS.F ht⟩) hS.2.2 hd) s.heap [] _ hP hD va_S.rf hl
theorem pre_N {X : Ctx} {A : Nat → Prop} {kc : ByteArray} {nL : Nat} {ow : String} {ws : va_W} {q ci : Nat} {fs0 : List Value} {H : Heap} {locs : List Loc} (K : KI X kc nL ow A) (hP : va_P X.D vwCl (ws ++ [(q, .inr (ci, fs0))]) H) (hD : va_D A (ws ++ [(q, .inr (ci, fs0))])) : ∀ U : State, U.heap = H → X.s.WarmedH U.vm → va_Pc [.ref q] (preN X.D X.ca ci fs0 q H.size) [Value.ref q].toArray U := fun U hU hW =>
  ⟨rfl, by rw [hU], by rw [hU]; exact hP.right, va_K.moved hW.alike K.2.2.2.2.2.1, hD.right.weaken (fun _ _ _ _ => trivial), NW.warm hW K.2.2.2.2.2.2.1, MAs.moved hW.alike K.2.2.2.2.2.2.2.1⟩
theorem go_N {X : Ctx} {A : Nat → Prop} {kc : ByteArray} {nL : Nat} {ow : String} {nc ns pc mc ms : Nat} {lv : List (Nat × Value)} {st stk : List Value} {ws : va_W} {q ci : Nat} {fs0 : List Value} {out : outT} {H : Heap} {locs : List Loc} {ls : Array Slot} {a : Array Value} (K : KI X kc nL ow A) (hr : va_Run X.p X.l X.e X.R X.s X.m X.args X.below X.meth X.c H locs nc ns mc ms (F0 X.m pc ls stk) st (postN X.D X.ca ci fs0 out q H.size a) (va_A [(q, .inr (ci, fs0))] H.size)) (hP : va_P X.D vwCl (ws ++ [(q, .inr (ci, fs0))]) H) (hD : va_D A (ws ++ [(q, .inr (ci, fs0))])) (hS : va_S A X.s.heap H locs) (hl : lv_has ls nL lv) (k : ∀ u : Nat → Nat → Nat, u 0 0 = q → WI X A (nc + mc) (ns + ms) nL (pc + 3) lv st (ws ++ out X.ca u)) : W X.p X.l X.e X.R X.s X.m X.args X.below X.meth X.c H locs nc ns X.Q (F0 X.m pc ls stk) := by
  have hF : ∀ x, va_A [(q, .inr (ci, fs0))] H.size x → A x := fun x h => by
    rcases h with ⟨k2, e2, h⟩ | h
    · exact hD.2 _ (x, e2) (app_r h)
    · exact K.2.2.2.2.2.2.2.2 x (Nat.le_trans hS.1 h)
  refine va_callv hr hS (fun x _ h => hF x h) hF (fun u t H1 locs1 ht hvm hp hB hz1 hk1 hS1 => ?_)
  obtain ⟨hP1, hD1⟩ := hB
  rw [ht] at hP1
  obtain ⟨g1, g2⟩ := va_join_end hP hD hk1 hF hP1 hD1
  exact k u hp H1 locs1 ls g1 g2 hS1 hl
/-- what a constructor's names must be -/
def yN (y : MethodName) (cc : ByteArray) : Prop := Cond.code y cc 1 none ∈ wsAll ∧ Cond.initialized y.cls ∈ wsAll ∧ (y.cls ≠ "java/lang/invoke/MethodHandle" ∧ y.cls ≠ "java/lang/invoke/VarHandle" ∧ (parseMethodDescriptor y.desc).map (fun d => d.parameters.length) = some 0) ∧ Cond.instanceMethod y ∈ wsAll ∧ y.name = "<init>"
section
variable {X : Ctx} {A : Nat → Prop} {kc : ByteArray} {nL : Nat} {ow : String} {nc ns pc mc ms rf rl idx : Nat} {lv : List (Nat × Value)} {st : List Value} {ws : va_W} {y : MethodName} {cc : ByteArray} {q ci : Nat} {fs0 : List Value} {out : outT}
theorem wsN_good (hy : yN y cc) : GoodIn wsAll (wsY y cc 1 none) := fun w h => by
  rcases List.mem_cons.mp h with e | h
  · rw [e]; exact ws_good _ hy.1
  · exact ws_good _ h
theorem i_ctorN (K : KI X kc nL ow A) (hM : NI y cc ci fs0 out rf rl mc ms) (hy : yN y cc) (hl0 : (ow, idx, y) ∈ nests) (hroom : rf + 1 ≤ X.R.frames ∧ 8 + (1 + 11) + rl ≤ X.R.locals) (hcat : (st.map fun v => v.category).sum ≤ 8) (hf : nc + mc ≤ X.R.cells ∧ ns + ms ≤ X.R.slots) (hd : decode kc pc = .ok (.invokespecial idx, 3)) (k : ∀ u : Nat → Nat → Nat, u 0 0 = q → WI X A (nc + mc) (ns + ms) nL (pc + 3) lv st (ws ++ out X.ca u)) : WI X A nc ns nL pc lv (.ref q :: st) (ws ++ [(q, .inr (ci, fs0))]) := fun H locs ls hP hD hS hl =>
  go_N K (va_runIN (As := []) (rest := st) (host := "ControlRegister") (b := q) (g := F0 X.m pc ls (.ref q :: st)) (cells := nc) (slots := ns) (locs := locs) (below := X.below) (meth := X.meth) (e := X.e) (H := H) ⟨K.1, K.2.1, K.2.2.1, K.2.2.2.1, K.2.2.2.2.1⟩ (hM X.l X.D X.ca q H.size) ⟨va_cnB 0 K.2.2.2.2.1 (wsN_good hy) rfl rfl rfl (K.2.2.2.2.2.2.1 _ hl0) (K.2.2.2.2.1 _ hy.2.1) hy.2.2.1 hroom, hy.2.2.2.2, K.2.2.2.2.1 _ hy.2.2.2.1⟩ ⟨preN_blind, pre_N (locs := locs) K hP hD⟩ rfl rfl hl.1 rfl (lv_room hcat) hd hf) hP hD hS hl k
theorem i_ctorL (K : KI X kc nL ow A) (hM : NI y cc ci fs0 out rf rl mc ms) (hy : yN y cc) (hl0 : Cond.methodLink ow idx y ∈ wsAll) (hroom : rf + 1 ≤ X.R.frames ∧ 8 + (1 + 11) + rl ≤ X.R.locals) (hcat : (st.map fun v => v.category).sum ≤ 8) (hf : nc + mc ≤ X.R.cells ∧ ns + ms ≤ X.R.slots) (hd : decode kc pc = .ok (.invokespecial idx, 3)) (k : ∀ u : Nat → Nat → Nat, u 0 0 = q → WI X A (nc + mc) (ns + ms) nL (pc + 3) lv st (ws ++ out X.ca u)) : WI X A nc ns nL pc lv (.ref q :: st) (ws ++ [(q, .inr (ci, fs0))]) := fun H locs ls hP hD hS hl =>
  go_N K (va_runI (As := []) (rest := st) (b := q) (g := F0 X.m pc ls (.ref q :: st)) (cells := nc) (slots := ns) (locs := locs) (below := X.below) (meth := X.meth) (e := X.e) (H := H) ⟨K.1, K.2.1, K.2.2.1, K.2.2.2.1, K.2.2.2.2.1⟩ (hM X.l X.D X.ca q H.size) (cwI 0 K.2.2.2.2.1 (wsN_good hy) rfl rfl rfl (K.2.2.2.2.1 _ hy.2.1) (K.2.2.2.2.1 _ hl0) (K.2.2.2.2.1 _ hy.2.2.2.1) hy.2.2.2.2 hy.2.2.1 hroom) ⟨preN_blind, pre_N (locs := locs) K hP hD⟩ rfl rfl hl.1 rfl (lv_room hcat) hd hf) hP hD hS hl k
end
