/-! THE JUDGEMENT: at a context X (machine, method, frame below, end), from pc with these locals, this stack and this state of the cells, the machine comes to the end -/
abbrev Ctx : Type := Program × Launch × Env × Room × State × MethodId × Array Value × List Frame × Method × Code × Nat × Nat × (State → Prop) × va_G × (Nat → ClassId) × (Nat → Nat)
abbrev Ctx.p (X : Ctx) : Program := X.1
abbrev Ctx.l (X : Ctx) : Launch := X.2.1
abbrev Ctx.e (X : Ctx) : Env := X.2.2.1
abbrev Ctx.R (X : Ctx) : Room := X.2.2.2.1
abbrev Ctx.s (X : Ctx) : State := X.2.2.2.2.1
abbrev Ctx.m (X : Ctx) : MethodId := X.2.2.2.2.2.1
abbrev Ctx.args (X : Ctx) : Array Value := X.2.2.2.2.2.2.1
abbrev Ctx.below (X : Ctx) : List Frame := X.2.2.2.2.2.2.2.1
abbrev Ctx.meth (X : Ctx) : Method := X.2.2.2.2.2.2.2.2.1
abbrev Ctx.c (X : Ctx) : Code := X.2.2.2.2.2.2.2.2.2.1
abbrev Ctx.cells (X : Ctx) : Nat := X.2.2.2.2.2.2.2.2.2.2.1
abbrev Ctx.slots (X : Ctx) : Nat := X.2.2.2.2.2.2.2.2.2.2.2.1
abbrev Ctx.Q (X : Ctx) : State → Prop := X.2.2.2.2.2.2.2.2.2.2.2.2.1
abbrev Ctx.D (X : Ctx) : va_G := X.2.2.2.2.2.2.2.2.2.2.2.2.2.1
abbrev Ctx.ca (X : Ctx) : Nat → ClassId := X.2.2.2.2.2.2.2.2.2.2.2.2.2.2.1
abbrev Ctx.ad (X : Ctx) : Nat → Nat := X.2.2.2.2.2.2.2.2.2.2.2.2.2.2.2
def WX (X : Ctx) (H : Heap) (locs : List Loc) (g : JFrame) : Prop := W X.p X.l X.e X.R X.s X.m X.args X.below X.meth X.c H locs X.cells X.slots X.Q g
def Wl (X : Ctx) (σ : Sg) (H : Heap) (locs : List Loc) : Prop := va_P X.D vwCl (pool X.ca X.ad σ) H ∧ va_D (Aw X.ad X.s.heap.size) (pool X.ca X.ad σ) ∧ va_S (Aw X.ad X.s.heap.size) X.s.heap H locs
def G (X : Ctx) (nL : Nat) (pc : Nat) (lv : List (Nat × Value)) (st : List Value) (σ : Sg) : Prop :=
  ∀ (H : Heap) (locs : List Loc) (ls : Array Slot), Wl X σ H locs → lv_has ls nL lv → WX X H locs (F0 X.m pc ls st)
def Cok (X : Ctx) (kc : ByteArray) (nL : Nat) (ow : String) : Prop := X.p.tables.exec = Jvm.exec ∧ X.c.code = kc ∧ X.c.maxLocals = nL ∧ X.s.vm.findClass ow = some X.m.cls ∧ (∀ w ∈ wsAll, w.before X.args X.s = true) ∧ va_K X.D vwCl (tysA X.ca) X.s ∧ NW X.s ∧ X.meth.locks = false ∧ X.cells ≤ X.R.cells ∧ X.slots ≤ X.R.slots
section
variable {X : Ctx} {kc : ByteArray} {nL : Nat} {ow : String} {pc : Nat} {lv lv' : List (Nat × Value)} {st : List Value} {σ : Sg}
theorem g_iconst (K : Cok X kc nL ow) {n : Int} {v : Int32} (hd : decode kc pc = .ok (.iconst n, 1)) (hv : Int32.ofInt n = v) (k : G X nL (pc + 1) lv (.int v :: st) σ) : G X nL pc lv st σ :=
  fun H locs ls hw hl => lv_iconst K.1 K.2.1 hd hv (k H locs ls hw hl)
theorem g_bipush (K : Cok X kc nL ow) {n : Int} {v : Int32} (hd : decode kc pc = .ok (.bipush n, 2)) (hv : (Int8.ofInt n).toInt32 = v) (k : G X nL (pc + 2) lv (.int v :: st) σ) : G X nL pc lv st σ :=
  fun H locs ls hw hl => lv_bipush K.1 K.2.1 hd hv (k H locs ls hw hl)
theorem g_sipush (K : Cok X kc nL ow) {n : Int} {v : Int32} (hd : decode kc pc = .ok (.sipush n, 3)) (hv : (Int16.ofInt n).toInt32 = v) (k : G X nL (pc + 3) lv (.int v :: st) σ) : G X nL pc lv st σ :=
  fun H locs ls hw hl => lv_sipush K.1 K.2.1 hd hv (k H locs ls hw hl)
theorem g_lconst (K : Cok X kc nL ow) {n : Fin 2} {v : Int64} (hd : decode kc pc = .ok (.lconst n, 1)) (hv : Int64.ofNat (n : Nat) = v) (k : G X nL (pc + 1) lv (.long v :: st) σ) : G X nL pc lv st σ :=
  fun H locs ls hw hl => lv_lconst K.1 K.2.1 hd hv (k H locs ls hw hl)
theorem g_ldc2 (K : Cok X kc nL ow) {idx : Nat} {v : Int64} (hw0 : Cond.constantLong ow idx v ∈ wsAll) (hd : decode kc pc = .ok (.ldc2_w idx, 3)) (k : G X nL (pc + 3) lv (.long v :: st) σ) : G X nL pc lv st σ :=
  fun H locs ls hw hl => lv_ldc2 K.1 K.2.1 K.2.2.2.1 (K.2.2.2.2.1 _ hw0) hd (k H locs ls hw hl)
theorem g_ldcw (K : Cok X kc nL ow) {idx : Nat} {v : Int32} (hw0 : Cond.constant ow idx v ∈ wsAll) (hd : decode kc pc = .ok (.ldc_w idx, 3)) (k : G X nL (pc + 3) lv (.int v :: st) σ) : G X nL pc lv st σ :=
  fun H locs ls hw hl => lv_ldcw K.1 K.2.1 K.2.2.2.1 (K.2.2.2.2.1 _ hw0) hd (k H locs ls hw hl)
theorem g_ldc (K : Cok X kc nL ow) {idx : Nat} {v : Int32} (hw0 : Cond.constant ow idx v ∈ wsAll) (hd : decode kc pc = .ok (.ldc idx, 2)) (k : G X nL (pc + 2) lv (.int v :: st) σ) : G X nL pc lv st σ :=
  fun H locs ls hw hl => lv_ldc K.1 K.2.1 K.2.2.2.1 (K.2.2.2.2.1 _ hw0) hd (k H locs ls hw hl)
theorem g_iload_n (K : Cok X kc nL ow) {q : Fin 4} {i : Nat} {x : Int32} (j : Nat) (hd : decode kc pc = .ok (.iload_n q, 1)) (hi : (q : Nat) = i) (hj : lv[j]? = some (i, .int x)) (k : G X nL (pc + 1) lv (.int x :: st) σ) : G X nL pc lv st σ :=
  fun H locs ls hw hl => lv_iload_n K.1 K.2.1 hd hi (lv_at hl j hj) (k H locs ls hw hl)
theorem g_iload (K : Cok X kc nL ow) {i : Nat} {x : Int32} (j : Nat) (hd : decode kc pc = .ok (.iload i, 2)) (hj : lv[j]? = some (i, .int x)) (k : G X nL (pc + 2) lv (.int x :: st) σ) : G X nL pc lv st σ :=
  fun H locs ls hw hl => lv_iload K.1 K.2.1 hd (lv_at hl j hj) (k H locs ls hw hl)
theorem g_istore_n (K : Cok X kc nL ow) {q : Fin 4} {i : Nat} {x : Int32} (hd : decode kc pc = .ok (.istore_n q, 1)) (hi : (q : Nat) = i) (hn : i < nL) (hl : (i, Value.int x) :: lv.filter (fun q => !(q.1 == i) && !(q.1 + 1 == i && q.2.category == 2)) = lv') (k : G X nL (pc + 1) lv' st σ) : G X nL pc lv (.int x :: st) σ :=
  fun H locs ls hw hl1 => lv_istore_n K.1 K.2.1 hd hi hl1 hn hl (fun ls hl => k H locs ls hw hl)
theorem g_istore (K : Cok X kc nL ow) {i : Nat} {x : Int32} (hd : decode kc pc = .ok (.istore i, 2)) (hn : i < nL) (hl : (i, Value.int x) :: lv.filter (fun q => !(q.1 == i) && !(q.1 + 1 == i && q.2.category == 2)) = lv') (k : G X nL (pc + 2) lv' st σ) : G X nL pc lv (.int x :: st) σ :=
  fun H locs ls hw hl1 => lv_istore K.1 K.2.1 hd hl1 hn hl (fun ls hl => k H locs ls hw hl)
theorem g_lload_n (K : Cok X kc nL ow) {q : Fin 4} {i : Nat} {x : Int64} (j : Nat) (hd : decode kc pc = .ok (.lload_n q, 1)) (hi : (q : Nat) = i) (hj : lv[j]? = some (i, .long x)) (k : G X nL (pc + 1) lv (.long x :: st) σ) : G X nL pc lv st σ :=
  fun H locs ls hw hl => lv_lload_n K.1 K.2.1 hd hi (lv_at hl j hj) (k H locs ls hw hl)
theorem g_lload (K : Cok X kc nL ow) {i : Nat} {x : Int64} (j : Nat) (hd : decode kc pc = .ok (.lload i, 2)) (hj : lv[j]? = some (i, .long x)) (k : G X nL (pc + 2) lv (.long x :: st) σ) : G X nL pc lv st σ :=
  fun H locs ls hw hl => lv_lload K.1 K.2.1 hd (lv_at hl j hj) (k H locs ls hw hl)
theorem g_lstore_n (K : Cok X kc nL ow) {q : Fin 4} {i : Nat} {x : Int64} (hd : decode kc pc = .ok (.lstore_n q, 1)) (hi : (q : Nat) = i) (hn : i + 1 < nL) (hl : (i, Value.long x) :: lv.filter (fun q => !(q.1 == i) && (!(q.1 == i + 1) && !(q.1 + 1 == i && q.2.category == 2))) = lv') (k : G X nL (pc + 1) lv' st σ) : G X nL pc lv (.long x :: st) σ :=
  fun H locs ls hw hl1 => lv_lstore_n K.1 K.2.1 hd hi hl1 hn hl (fun ls hl => k H locs ls hw hl)
theorem g_lstore (K : Cok X kc nL ow) {i : Nat} {x : Int64} (hd : decode kc pc = .ok (.lstore i, 2)) (hn : i + 1 < nL) (hl : (i, Value.long x) :: lv.filter (fun q => !(q.1 == i) && (!(q.1 == i + 1) && !(q.1 + 1 == i && q.2.category == 2))) = lv') (k : G X nL (pc + 2) lv' st σ) : G X nL pc lv (.long x :: st) σ :=
  fun H locs ls hw hl1 => lv_lstore K.1 K.2.1 hd hl1 hn hl (fun ls hl => k H locs ls hw hl)
theorem g_aload_n (K : Cok X kc nL ow) {q : Fin 4} {i : Nat} {x : Nat} (j : Nat) (hd : decode kc pc = .ok (.aload_n q, 1)) (hi : (q : Nat) = i) (hj : lv[j]? = some (i, .ref x)) (k : G X nL (pc + 1) lv (.ref x :: st) σ) : G X nL pc lv st σ :=
  fun H locs ls hw hl => lv_aload_n K.1 K.2.1 hd hi (lv_at hl j hj) (k H locs ls hw hl)
theorem g_aload (K : Cok X kc nL ow) {i : Nat} {x : Nat} (j : Nat) (hd : decode kc pc = .ok (.aload i, 2)) (hj : lv[j]? = some (i, .ref x)) (k : G X nL (pc + 2) lv (.ref x :: st) σ) : G X nL pc lv st σ :=
  fun H locs ls hw hl => lv_aload K.1 K.2.1 hd (lv_at hl j hj) (k H locs ls hw hl)
theorem g_astore_n (K : Cok X kc nL ow) {q : Fin 4} {i : Nat} {x : Nat} (hd : decode kc pc = .ok (.astore_n q, 1)) (hi : (q : Nat) = i) (hn : i < nL) (hl : (i, Value.ref x) :: lv.filter (fun q => !(q.1 == i) && !(q.1 + 1 == i && q.2.category == 2)) = lv') (k : G X nL (pc + 1) lv' st σ) : G X nL pc lv (.ref x :: st) σ :=
  fun H locs ls hw hl1 => lv_astore_n K.1 K.2.1 hd hi hl1 hn hl (fun ls hl => k H locs ls hw hl)
theorem g_astore (K : Cok X kc nL ow) {i : Nat} {x : Nat} (hd : decode kc pc = .ok (.astore i, 2)) (hn : i < nL) (hl : (i, Value.ref x) :: lv.filter (fun q => !(q.1 == i) && !(q.1 + 1 == i && q.2.category == 2)) = lv') (k : G X nL (pc + 2) lv' st σ) : G X nL pc lv (.ref x :: st) σ :=
  fun H locs ls hw hl1 => lv_astore K.1 K.2.1 hd hl1 hn hl (fun ls hl => k H locs ls hw hl)
theorem g_iinc (K : Cok X kc nL ow) {i : Nat} {n : Int} {x v : Int32} (j : Nat) (hd : decode kc pc = .ok (.iinc i n, 3)) (hj : lv[j]? = some (i, .int x)) (hv : x + Int32.ofInt n = v) (hn : i < nL) (hl : (i, Value.int v) :: lv.filter (fun q => !(q.1 == i) && !(q.1 + 1 == i && q.2.category == 2)) = lv') (k : G X nL (pc + 3) lv' st σ) : G X nL pc lv st σ :=
  fun H locs ls hw hl1 => lv_iinc K.1 K.2.1 hd hl1 hj hv hn hl (fun ls hl => k H locs ls hw hl)
theorem g_iadd (K : Cok X kc nL ow) {x y : Int32} (hd : decode kc pc = .ok (.iadd, 1)) (k : G X nL (pc + 1) lv (.int (x + y) :: st) σ) : G X nL pc lv (.int y :: .int x :: st) σ :=
  fun H locs ls hw hl => lv_iadd K.1 K.2.1 hd (k H locs ls hw hl)
theorem g_isub (K : Cok X kc nL ow) {x y : Int32} (hd : decode kc pc = .ok (.isub, 1)) (k : G X nL (pc + 1) lv (.int (x - y) :: st) σ) : G X nL pc lv (.int y :: .int x :: st) σ :=
  fun H locs ls hw hl => lv_isub K.1 K.2.1 hd (k H locs ls hw hl)
theorem g_imul (K : Cok X kc nL ow) {x y : Int32} (hd : decode kc pc = .ok (.imul, 1)) (k : G X nL (pc + 1) lv (.int (x * y) :: st) σ) : G X nL pc lv (.int y :: .int x :: st) σ :=
  fun H locs ls hw hl => lv_imul K.1 K.2.1 hd (k H locs ls hw hl)
theorem g_iand (K : Cok X kc nL ow) {x y : Int32} (hd : decode kc pc = .ok (.iand, 1)) (k : G X nL (pc + 1) lv (.int (x &&& y) :: st) σ) : G X nL pc lv (.int y :: .int x :: st) σ :=
  fun H locs ls hw hl => lv_iand K.1 K.2.1 hd (k H locs ls hw hl)
theorem g_ior (K : Cok X kc nL ow) {x y : Int32} (hd : decode kc pc = .ok (.ior, 1)) (k : G X nL (pc + 1) lv (.int (x ||| y) :: st) σ) : G X nL pc lv (.int y :: .int x :: st) σ :=
  fun H locs ls hw hl => lv_ior K.1 K.2.1 hd (k H locs ls hw hl)
theorem g_ixor (K : Cok X kc nL ow) {x y : Int32} (hd : decode kc pc = .ok (.ixor, 1)) (k : G X nL (pc + 1) lv (.int (x ^^^ y) :: st) σ) : G X nL pc lv (.int y :: .int x :: st) σ :=
  fun H locs ls hw hl => lv_ixor K.1 K.2.1 hd (k H locs ls hw hl)
theorem g_ishl (K : Cok X kc nL ow) {x y : Int32} (hd : decode kc pc = .ok (.ishl, 1)) (k : G X nL (pc + 1) lv (.int (x <<< (y &&& 31)) :: st) σ) : G X nL pc lv (.int y :: .int x :: st) σ :=
  fun H locs ls hw hl => lv_ishl K.1 K.2.1 hd (k H locs ls hw hl)
theorem g_ishr (K : Cok X kc nL ow) {x y : Int32} (hd : decode kc pc = .ok (.ishr, 1)) (k : G X nL (pc + 1) lv (.int (x >>> (y &&& 31)) :: st) σ) : G X nL pc lv (.int y :: .int x :: st) σ :=
  fun H locs ls hw hl => lv_ishr K.1 K.2.1 hd (k H locs ls hw hl)
theorem g_idiv (K : Cok X kc nL ow) {x y : Int32} (hd : decode kc pc = .ok (.idiv, 1)) (hne : ¬ y = 0) (k : G X nL (pc + 1) lv (.int (x / y) :: st) σ) : G X nL pc lv (.int y :: .int x :: st) σ :=
  fun H locs ls hw hl => lv_idiv K.1 K.2.1 hd hne (k H locs ls hw hl)
theorem g_irem (K : Cok X kc nL ow) {x y : Int32} (hd : decode kc pc = .ok (.irem, 1)) (hne : ¬ y = 0) (k : G X nL (pc + 1) lv (.int (x - x / y * y) :: st) σ) : G X nL pc lv (.int y :: .int x :: st) σ :=
  fun H locs ls hw hl => lv_irem K.1 K.2.1 hd hne (k H locs ls hw hl)
theorem g_iushr (K : Cok X kc nL ow) {x y v : Int32} (hd : decode kc pc = .ok (.iushr, 1)) (hv : (x.toUInt32 >>> (y.toUInt32 &&& Int32.toUInt32 31)).toInt32 = v) (k : G X nL (pc + 1) lv (.int v :: st) σ) : G X nL pc lv (.int y :: .int x :: st) σ :=
  fun H locs ls hw hl => lv_iushr K.1 K.2.1 hd hv (k H locs ls hw hl)
theorem g_ineg (K : Cok X kc nL ow) {x : Int32} (hd : decode kc pc = .ok (.ineg, 1)) (k : G X nL (pc + 1) lv (.int (-x) :: st) σ) : G X nL pc lv (.int x :: st) σ :=
  fun H locs ls hw hl => lv_ineg K.1 K.2.1 hd (k H locs ls hw hl)
theorem g_ladd (K : Cok X kc nL ow) {x y : Int64} (hd : decode kc pc = .ok (.ladd, 1)) (k : G X nL (pc + 1) lv (.long (x + y) :: st) σ) : G X nL pc lv (.long y :: .long x :: st) σ :=
  fun H locs ls hw hl => lv_ladd K.1 K.2.1 hd (k H locs ls hw hl)
theorem g_lsub (K : Cok X kc nL ow) {x y : Int64} (hd : decode kc pc = .ok (.lsub, 1)) (k : G X nL (pc + 1) lv (.long (x - y) :: st) σ) : G X nL pc lv (.long y :: .long x :: st) σ :=
  fun H locs ls hw hl => lv_lsub K.1 K.2.1 hd (k H locs ls hw hl)
theorem g_lmul (K : Cok X kc nL ow) {x y : Int64} (hd : decode kc pc = .ok (.lmul, 1)) (k : G X nL (pc + 1) lv (.long (x * y) :: st) σ) : G X nL pc lv (.long y :: .long x :: st) σ :=
  fun H locs ls hw hl => lv_lmul K.1 K.2.1 hd (k H locs ls hw hl)
theorem g_ldiv (K : Cok X kc nL ow) {x y : Int64} (hd : decode kc pc = .ok (.ldiv, 1)) (hne : ¬ y = 0) (k : G X nL (pc + 1) lv (.long (x / y) :: st) σ) : G X nL pc lv (.long y :: .long x :: st) σ :=
  fun H locs ls hw hl => lv_ldiv K.1 K.2.1 hd hne (k H locs ls hw hl)
theorem g_lrem (K : Cok X kc nL ow) {x y : Int64} (hd : decode kc pc = .ok (.lrem, 1)) (hne : ¬ y = 0) (k : G X nL (pc + 1) lv (.long (x - x / y * y) :: st) σ) : G X nL pc lv (.long y :: .long x :: st) σ :=
  fun H locs ls hw hl => lv_lrem K.1 K.2.1 hd hne (k H locs ls hw hl)
theorem g_lneg (K : Cok X kc nL ow) {x : Int64} (hd : decode kc pc = .ok (.lneg, 1)) (k : G X nL (pc + 1) lv (.long (-x) :: st) σ) : G X nL pc lv (.long x :: st) σ :=
  fun H locs ls hw hl => lv_lneg K.1 K.2.1 hd (k H locs ls hw hl)
theorem g_i2l (K : Cok X kc nL ow) {x : Int32} (hd : decode kc pc = .ok (.i2l, 1)) (k : G X nL (pc + 1) lv (.long x.toInt64 :: st) σ) : G X nL pc lv (.int x :: st) σ :=
  fun H locs ls hw hl => lv_i2l K.1 K.2.1 hd rfl (k H locs ls hw hl)
theorem g_lcmp (K : Cok X kc nL ow) {x y : Int64} (hd : decode kc pc = .ok (.lcmp, 1)) (k : G X nL (pc + 1) lv (.int (lg_cmp x y) :: st) σ) : G X nL pc lv (.long y :: .long x :: st) σ :=
  fun H locs ls hw hl => W.lcmp K.1 K.2.1 hd (k H locs ls hw hl)
theorem g_dup (K : Cok X kc nL ow) {va : Value} (hd : decode kc pc = .ok (.dup, 1)) (hva : va.category = 1) (k : G X nL (pc + 1) lv (va :: va :: st) σ) : G X nL pc lv (va :: st) σ :=
  fun H locs ls hw hl => lv_dup K.1 K.2.1 hd hva (k H locs ls hw hl)
theorem g_pop (K : Cok X kc nL ow) {va : Value} (hd : decode kc pc = .ok (.pop, 1)) (hva : va.category = 1) (k : G X nL (pc + 1) lv st σ) : G X nL pc lv (va :: st) σ :=
  fun H locs ls hw hl => lv_pop K.1 K.2.1 hd hva (k H locs ls hw hl)
theorem g_dup_x1 (K : Cok X kc nL ow) {va vb : Value} (hd : decode kc pc = .ok (.dup_x1, 1)) (hva : va.category = 1) (hvb : vb.category = 1) (k : G X nL (pc + 1) lv (va :: vb :: va :: st) σ) : G X nL pc lv (va :: vb :: st) σ :=
  fun H locs ls hw hl => lv_dup_x1 K.1 K.2.1 hd hva hvb (k H locs ls hw hl)
theorem g_dup2 (K : Cok X kc nL ow) {va vb : Value} (hd : decode kc pc = .ok (.dup2, 1)) (hva : va.category = 1) (hvb : vb.category = 1) (k : G X nL (pc + 1) lv (va :: vb :: va :: vb :: st) σ) : G X nL pc lv (va :: vb :: st) σ :=
  fun H locs ls hw hl => lv_dup2_11 K.1 K.2.1 hd hva hvb (k H locs ls hw hl)
theorem g_if_eq (K : Cok X kc nL ow) {x : Int32} {off : Int} {tgt : Nat} (hd : decode kc pc = .ok (.ifCond .eq off, 3)) (ht : (pc : Int) + off = (tgt : Int)) (kt : x = 0 → G X nL tgt lv st σ) (kf : ¬ x = 0 → G X nL (pc + 3) lv st σ) : G X nL pc lv (.int x :: st) σ :=
  fun H locs ls hw hl => lv_if_eq K.1 K.2.1 hd ht (fun h => kt h H locs ls hw hl) (fun h => kf h H locs ls hw hl)
theorem g_icmp_eq (K : Cok X kc nL ow) {x y : Int32} {off : Int} {tgt : Nat} (hd : decode kc pc = .ok (.if_icmp .eq off, 3)) (ht : (pc : Int) + off = (tgt : Int)) (kt : x = y → G X nL tgt lv st σ) (kf : ¬ x = y → G X nL (pc + 3) lv st σ) : G X nL pc lv (.int y :: .int x :: st) σ :=
  fun H locs ls hw hl => lv_icmp_eq K.1 K.2.1 hd ht (fun h => kt h H locs ls hw hl) (fun h => kf h H locs ls hw hl)
theorem g_if_ne (K : Cok X kc nL ow) {x : Int32} {off : Int} {tgt : Nat} (hd : decode kc pc = .ok (.ifCond .ne off, 3)) (ht : (pc : Int) + off = (tgt : Int)) (kt : ¬ x = 0 → G X nL tgt lv st σ) (kf : x = 0 → G X nL (pc + 3) lv st σ) : G X nL pc lv (.int x :: st) σ :=
  fun H locs ls hw hl => lv_if_ne K.1 K.2.1 hd ht (fun h => kt h H locs ls hw hl) (fun h => kf h H locs ls hw hl)
theorem g_icmp_ne (K : Cok X kc nL ow) {x y : Int32} {off : Int} {tgt : Nat} (hd : decode kc pc = .ok (.if_icmp .ne off, 3)) (ht : (pc : Int) + off = (tgt : Int)) (kt : ¬ x = y → G X nL tgt lv st σ) (kf : x = y → G X nL (pc + 3) lv st σ) : G X nL pc lv (.int y :: .int x :: st) σ :=
  fun H locs ls hw hl => lv_icmp_ne K.1 K.2.1 hd ht (fun h => kt h H locs ls hw hl) (fun h => kf h H locs ls hw hl)
theorem g_if_lt (K : Cok X kc nL ow) {x : Int32} {off : Int} {tgt : Nat} (hd : decode kc pc = .ok (.ifCond .lt off, 3)) (ht : (pc : Int) + off = (tgt : Int)) (kt : x < 0 → G X nL tgt lv st σ) (kf : ¬ x < 0 → G X nL (pc + 3) lv st σ) : G X nL pc lv (.int x :: st) σ :=
  fun H locs ls hw hl => lv_if_lt K.1 K.2.1 hd ht (fun h => kt h H locs ls hw hl) (fun h => kf h H locs ls hw hl)
theorem g_icmp_lt (K : Cok X kc nL ow) {x y : Int32} {off : Int} {tgt : Nat} (hd : decode kc pc = .ok (.if_icmp .lt off, 3)) (ht : (pc : Int) + off = (tgt : Int)) (kt : x < y → G X nL tgt lv st σ) (kf : ¬ x < y → G X nL (pc + 3) lv st σ) : G X nL pc lv (.int y :: .int x :: st) σ :=
  fun H locs ls hw hl => lv_icmp_lt K.1 K.2.1 hd ht (fun h => kt h H locs ls hw hl) (fun h => kf h H locs ls hw hl)
theorem g_if_ge (K : Cok X kc nL ow) {x : Int32} {off : Int} {tgt : Nat} (hd : decode kc pc = .ok (.ifCond .ge off, 3)) (ht : (pc : Int) + off = (tgt : Int)) (kt : 0 ≤ x → G X nL tgt lv st σ) (kf : ¬ 0 ≤ x → G X nL (pc + 3) lv st σ) : G X nL pc lv (.int x :: st) σ :=
  fun H locs ls hw hl => lv_if_ge K.1 K.2.1 hd ht (fun h => kt h H locs ls hw hl) (fun h => kf h H locs ls hw hl)
theorem g_icmp_ge (K : Cok X kc nL ow) {x y : Int32} {off : Int} {tgt : Nat} (hd : decode kc pc = .ok (.if_icmp .ge off, 3)) (ht : (pc : Int) + off = (tgt : Int)) (kt : y ≤ x → G X nL tgt lv st σ) (kf : ¬ y ≤ x → G X nL (pc + 3) lv st σ) : G X nL pc lv (.int y :: .int x :: st) σ :=
  fun H locs ls hw hl => lv_icmp_ge K.1 K.2.1 hd ht (fun h => kt h H locs ls hw hl) (fun h => kf h H locs ls hw hl)
theorem g_if_gt (K : Cok X kc nL ow) {x : Int32} {off : Int} {tgt : Nat} (hd : decode kc pc = .ok (.ifCond .gt off, 3)) (ht : (pc : Int) + off = (tgt : Int)) (kt : 0 < x → G X nL tgt lv st σ) (kf : ¬ 0 < x → G X nL (pc + 3) lv st σ) : G X nL pc lv (.int x :: st) σ :=
  fun H locs ls hw hl => lv_if_gt K.1 K.2.1 hd ht (fun h => kt h H locs ls hw hl) (fun h => kf h H locs ls hw hl)
theorem g_icmp_gt (K : Cok X kc nL ow) {x y : Int32} {off : Int} {tgt : Nat} (hd : decode kc pc = .ok (.if_icmp .gt off, 3)) (ht : (pc : Int) + off = (tgt : Int)) (kt : y < x → G X nL tgt lv st σ) (kf : ¬ y < x → G X nL (pc + 3) lv st σ) : G X nL pc lv (.int y :: .int x :: st) σ :=
  fun H locs ls hw hl => lv_icmp_gt K.1 K.2.1 hd ht (fun h => kt h H locs ls hw hl) (fun h => kf h H locs ls hw hl)
theorem g_if_le (K : Cok X kc nL ow) {x : Int32} {off : Int} {tgt : Nat} (hd : decode kc pc = .ok (.ifCond .le off, 3)) (ht : (pc : Int) + off = (tgt : Int)) (kt : x ≤ 0 → G X nL tgt lv st σ) (kf : ¬ x ≤ 0 → G X nL (pc + 3) lv st σ) : G X nL pc lv (.int x :: st) σ :=
  fun H locs ls hw hl => lv_if_le K.1 K.2.1 hd ht (fun h => kt h H locs ls hw hl) (fun h => kf h H locs ls hw hl)
theorem g_icmp_le (K : Cok X kc nL ow) {x y : Int32} {off : Int} {tgt : Nat} (hd : decode kc pc = .ok (.if_icmp .le off, 3)) (ht : (pc : Int) + off = (tgt : Int)) (kt : x ≤ y → G X nL tgt lv st σ) (kf : ¬ x ≤ y → G X nL (pc + 3) lv st σ) : G X nL pc lv (.int y :: .int x :: st) σ :=
  fun H locs ls hw hl => lv_icmp_le K.1 K.2.1 hd ht (fun h => kt h H locs ls hw hl) (fun h => kf h H locs ls hw hl)
theorem g_goto (K : Cok X kc nL ow) {off : Int} {tgt : Nat} (hd : decode kc pc = .ok (.goto off, 3)) (ht : (pc : Int) + off = (tgt : Int)) (k : G X nL tgt lv st σ) : G X nL pc lv st σ :=
  fun H locs ls hw hl => lv_goto K.1 K.2.1 hd ht (k H locs ls hw hl)
theorem g_tableIn (K : Cok X kc nL ow) {dflt lo hi : Int} {offs : Array Int} {len : Nat} {x y : Int32} {off : Int} {tgt : Nat} (hd : decode kc pc = .ok (.tableswitch dflt lo hi offs, len)) (hy : x = y) (h1 : ¬ y.toInt < lo) (h2 : ¬ hi < y.toInt) (ho : offs[(y.toInt - lo).toNat]? = some off) (ht : (pc : Int) + off = (tgt : Int)) (k : G X nL tgt lv st σ) : G X nL pc lv (.int x :: st) σ :=
  fun H locs ls hw hl => lv_tableIn K.1 K.2.1 hd (by rw [hy]; exact h1) (by rw [hy]; exact h2) (by rw [hy]; exact ho) ht (k H locs ls hw hl)
theorem g_tableOut (K : Cok X kc nL ow) {dflt lo hi : Int} {offs : Array Int} {len : Nat} {x : Int32} {tgt : Nat} (hd : decode kc pc = .ok (.tableswitch dflt lo hi offs, len)) (h : x.toInt < lo ∨ hi < x.toInt) (ht : (pc : Int) + dflt = (tgt : Int)) (k : G X nL tgt lv st σ) : G X nL pc lv (.int x :: st) σ :=
  fun H locs ls hw hl => lv_tableOut K.1 K.2.1 hd h ht (k H locs ls hw hl)
theorem g_lookup (K : Cok X kc nL ow) {dflt : Int} {ps : Array (Int × Int)} {len : Nat} {x : Int32} {off : Int} {tgt : Nat} (hd : decode kc pc = .ok (.lookupswitch dflt ps, len)) (hp : (ps.toList.zip (ps.toList.drop 1)).all (fun (a, next) => a.1 < next.1) = true) (ho : Op.lookupswitch.offset ps.toList dflt x.toInt = off) (ht : (pc : Int) + off = (tgt : Int)) (k : G X nL tgt lv st σ) : G X nL pc lv (.int x :: st) σ :=
  fun H locs ls hw hl => lv_lookup K.1 K.2.1 hd hp ho ht (k H locs ls hw hl)
theorem g_sub (ks : List Nat) (hk : lv_pick lv ks = lv') (k : G X nL pc lv' st σ) : G X nL pc lv st σ :=
  fun H locs ls hw hl => k H locs ls hw (lv_sub hl ks hk)
/-- what a guard of an index says -/
abbrev inb (x : Int32) (n : Nat) : Prop := 0 ≤ x.toInt ∧ x.toInt < n
theorem inb.vp {x : Int32} {n : Nat} (h : inb x n) : vp_in x n := vp_in_iff.mpr h
theorem g_get (K : Cok X kc nL ow) {i ci : Nat} {fs : List Value} {v : Value} (he : entF X.ca X.ad i (σ.1 i) (σ.2 i) = .inr (ci, fs)) (hi : i < NN) {C : String} {T : u_T} {N idx : Nat} (hc : vwCl[ci]? = some (C, T, N)) (j : Nat) (hj : j < N) (hv : fs[j]? = some v) (hw0 : Cond.fieldLink ow idx (T j).1 (T j).2.1 (T j).2.2.1 ∈ wsAll) (hu : ∀ w ∈ u_ws C T N, w ∈ wsAll) (hd : decode kc pc = .ok (.getfield idx, 3)) (k : G X nL (pc + 3) lv (v :: st) σ) : G X nL pc lv (.ref (X.ad i) :: st) σ :=
  fun H locs ls hw hl => va_get K.1 K.2.1 K.2.2.2.2.1 hu K.2.2.2.1 K.2.2.2.2.2.1 hw.1 i ((pool_at hi).trans (by rw [he])) hc j hj (K.2.2.2.2.1 _ hw0) (fun _ h9 => h9) hv hd (k H locs ls hw hl)
theorem g_put (K : Cok X kc nL ow) {i ci : Nat} {fs : List Value} {v : Value} {f' : Nat → Int32} (he : entF X.ca X.ad i (σ.1 i) (σ.2 i) = .inr (ci, fs)) (hi : i < NN) {C : String} {T : u_T} {N idx : Nat} (hc : vwCl[ci]? = some (C, T, N)) (j : Nat) (hj : j < N) (he' : entF X.ca X.ad i f' (σ.2 i) = .inr (ci, fs.set j v)) (ty0 : Nat → FieldType) (hty : ∀ k, k < N → parseFieldDescriptor (T k).2.2.1 = some (ty0 k)) (hnm : ∀ a, a < N → ∀ b, b < N → a ≠ b → (T a).2.1 ≠ (T b).2.1) (hfin : (T j).2.2.2 = false) {ty : FieldType} (hd0 : parseFieldDescriptor (T j).2.2.1 = some ty) (hn : narrow ty v = v) (hfit : fits ty v = true) (hlen : j < fs.length) (hw0 : Cond.fieldLink ow idx (T j).1 (T j).2.1 (T j).2.2.1 ∈ wsAll) (hu : ∀ w ∈ u_ws C T N, w ∈ wsAll) (hd : decode kc pc = .ok (.putfield idx, 3)) (k : ∀ σ', σ' = setR σ i f' → G X nL (pc + 3) lv st σ') : G X nL pc lv (v :: .ref (X.ad i) :: st) σ :=
  fun H locs ls hw hl => va_put K.1 K.2.1 K.2.2.2.2.1 hu ty0 hty hnm K.2.2.2.1 K.2.2.2.2.2.1 hw.1 hw.2.1 hw.2.2 i ((pool_at hi).trans (by rw [he])) hc j hj (K.2.2.2.2.1 _ hw0) (fun _ h9 => h9) hfin hd0 hn hfit hlen hd (fun H1 locs1 hP hD hS => by
    rw [pool_setR hi he'.symm] at hP hD
    exact k _ rfl H1 locs1 ls ⟨hP, hD, hS⟩ hl)
theorem g_iald (K : Cok X kc nL ow) {i n : Nat} {x : Int32} (hk : kd i = (0, n)) (hi : i < NN) (hin : inb x n) (hd : decode kc pc = .ok (.iaload, 1)) (k : G X nL (pc + 1) lv (.int (σ.1 i x.toNatClampNeg) :: st) σ) : G X nL pc lv (.int x :: .ref (X.ad i) :: st) σ :=
  fun H locs ls hw hl => va_iald K.1 K.2.1 K.2.2.2.2.2.1 hw.1 i 0 ((pool_at hi).trans (by rw [e_ia hk])) rfl hin.vp hd (k H locs ls hw hl)
theorem g_zald (K : Cok X kc nL ow) {i n : Nat} {x : Int32} (hk : kd i = (2, n)) (hi : i < NN) (hin : inb x n) (hd : decode kc pc = .ok (.baload, 1)) (k : G X nL (pc + 1) lv (.int (σ.1 i x.toNatClampNeg) :: st) σ) : G X nL pc lv (.int x :: .ref (X.ad i) :: st) σ :=
  fun H locs ls hw hl => va_zald K.1 K.2.1 K.2.2.2.2.2.1 hw.1 i 2 ((pool_at hi).trans (by rw [e_za hk])) rfl hin.vp hd (k H locs ls hw hl)
theorem g_lald (K : Cok X kc nL ow) {i n : Nat} {x : Int32} (hk : kd i = (1, n)) (hi : i < NN) (hin : inb x n) (hd : decode kc pc = .ok (.laload, 1)) (k : G X nL (pc + 1) lv (.long (σ.2 i x.toNatClampNeg) :: st) σ) : G X nL pc lv (.int x :: .ref (X.ad i) :: st) σ :=
  fun H locs ls hw hl => va_lald K.1 K.2.1 K.2.2.2.2.2.1 hw.1 i 1 ((pool_at hi).trans (by rw [e_la hk])) rfl hin.vp hd (k H locs ls hw hl)
theorem va_aldA {p : Program} {l : Launch} {e : Env} {R : Room} {s : State} {m : MethodId} {args : Array Value} {below : List Frame} {meth : Method} {c : Code} {H : Heap} {locs : List Loc} {cells slots : Nat} {Q : State → Prop} {cc : ByteArray} {pc : Nat} {ls : Array Slot} {rest : List Value} {D : va_G} {cl : List vw_C} {a : Nat} {tys : List (ClassId × FieldType)} {ws : va_W} (hexec : p.tables.exec = Jvm.exec) (hb : c.code = cc) (hK : va_K D cl tys s) (hP : va_P D cl ws H) (q0 t0 : Nat) {cA : ClassId} {t : FieldType} {n : Nat} {f : Nat → Option Nat} (ha : ws[q0]? = some (a, .inl (cA, n, .inr (.inr (.inr (.inr f)))))) (ht : tys[t0]? = some (cA, .array t)) {i : Int32} (hin : vp_in i n) (hdg : decode cc pc = .ok (.aaload, 1))
    (kk : W p l e R s m args below meth c H locs cells slots Q (F0 m (pc + 1) ls (va_rf (f i.toNatClampNeg) :: rest))) : W p l e R s m args below meth c H locs cells slots Q (F0 m pc ls (.int i :: .ref a :: rest)) := by
  have hlt : i.toNatClampNeg < n := Nat.not_le.mp fun q => hin (Or.inr q)
  exact W.aald (v := va_rf (f i.toNatClampNeg)) (ty := .array t) hexec hb (hP q0 _ ha) ((hK.2 t0 _ ht).1 n (fun j => va_rf (f j))) rfl (fun q => by cases q) (by show ¬ (i < 0 ∨ (arrV _ _ _).slots.size ≤ _); rw [arrV_size]; exact hin) (by show (arrV _ _ _).slots[_]? = _; rw [arrV_read _ _ hlt]) rfl rfl hdg kk
theorem g_aaldI (K : Cok X kc nL ow) {i n : Nat} {x : Int32} (hk : kd i = (3, n)) (hi : i < NN) (hin : inb x n) (hd : decode kc pc = .ok (.aaload, 1)) (k : G X nL (pc + 1) lv (.ref (X.ad (i + 1 + x.toNatClampNeg)) :: st) σ) : G X nL pc lv (.int x :: .ref (X.ad i) :: st) σ :=
  fun H locs ls hw hl => va_aldA (f := fun j => some (X.ad (i + 1 + j))) K.1 K.2.1 K.2.2.2.2.2.1 hw.1 i 3 ((pool_at hi).trans (by rw [e_iia hk])) rfl hin.vp hd (k H locs ls hw hl)
theorem g_aaldL (K : Cok X kc nL ow) {i n : Nat} {x : Int32} (hk : kd i = (4, n)) (hi : i < NN) (hin : inb x n) (hd : decode kc pc = .ok (.aaload, 1)) (k : G X nL (pc + 1) lv (.ref (X.ad (i + 1 + x.toNatClampNeg)) :: st) σ) : G X nL pc lv (.int x :: .ref (X.ad i) :: st) σ :=
  fun H locs ls hw hl => va_aldA (f := fun j => some (X.ad (i + 1 + j))) K.1 K.2.1 K.2.2.2.2.2.1 hw.1 i 4 ((pool_at hi).trans (by rw [e_lla hk])) rfl hin.vp hd (k H locs ls hw hl)
theorem g_iast (K : Cok X kc nL ow) {i n : Nat} {x v : Int32} (hk : kd i = (0, n)) (hi : i < NN) (hin : inb x n) (hd : decode kc pc = .ok (.iastore, 1)) (k : ∀ σ', σ' = setR σ i (upd (σ.1 i) x.toNatClampNeg v) → G X nL (pc + 1) lv st σ') : G X nL pc lv (.int v :: .int x :: .ref (X.ad i) :: st) σ :=
  fun H locs ls hw hl => va_iast K.1 K.2.1 K.2.2.2.2.2.1 hw.1 hw.2.1 hw.2.2 i 0 ((pool_at hi).trans (by rw [e_ia hk])) rfl hin.vp hd (fun H1 locs1 hP hD hS => by
    rw [pool_setR hi (e_ia hk).symm] at hP hD
    exact k _ rfl H1 locs1 ls ⟨hP, hD, hS⟩ hl)
theorem g_zast (K : Cok X kc nL ow) {i n : Nat} {x v : Int32} (hk : kd i = (2, n)) (hi : i < NN) (hin : inb x n) (hd : decode kc pc = .ok (.bastore, 1)) (k : ∀ σ', σ' = setR σ i (upd (σ.1 i) x.toNatClampNeg (vp_nar .boolean v)) → G X nL (pc + 1) lv st σ') : G X nL pc lv (.int v :: .int x :: .ref (X.ad i) :: st) σ :=
  fun H locs ls hw hl => va_zast K.1 K.2.1 K.2.2.2.2.2.1 hw.1 hw.2.1 hw.2.2 i 2 ((pool_at hi).trans (by rw [e_za hk])) rfl hin.vp hd (fun H1 locs1 hP hD hS => by
    rw [pool_setR hi (e_za hk).symm] at hP hD
    exact k _ rfl H1 locs1 ls ⟨hP, hD, hS⟩ hl)
theorem g_last (K : Cok X kc nL ow) {i n : Nat} {x : Int32} {v : Int64} (hk : kd i = (1, n)) (hi : i < NN) (hin : inb x n) (hd : decode kc pc = .ok (.lastore, 1)) (k : ∀ σ', σ' = setL σ i (vp_updL (σ.2 i) x.toNatClampNeg v) → G X nL (pc + 1) lv st σ') : G X nL pc lv (.long v :: .int x :: .ref (X.ad i) :: st) σ :=
  fun H locs ls hw hl => va_last K.1 K.2.1 K.2.2.2.2.2.1 hw.1 hw.2.1 hw.2.2 i 1 ((pool_at hi).trans (by rw [e_la hk])) rfl hin.vp hd (fun H1 locs1 hP hD hS => by
    rw [pool_setL hi (e_la hk).symm] at hP hD
    exact k _ rfl H1 locs1 ls ⟨hP, hD, hS⟩ hl)
end
