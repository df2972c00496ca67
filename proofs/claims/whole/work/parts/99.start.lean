/-! THE LAW, from its entry -/
theorem ml_L_9 : Cond.methodLink RL 9 yX6_init ∈ wsAll := mem_tb 14 (by decide +kernel) (by decide +kernel)
theorem ml_L_12 : Cond.methodLink RL 12 yX7_init ∈ wsAll := mem_tb 613 (by decide +kernel) (by decide +kernel)
theorem ao_I : Cond.arrayOver (.array .int) ∈ lw_tbl := List.mem_append_right _ (List.mem_of_getElem? (i := 93) (by decide +kernel))
theorem ao_L : Cond.arrayOver (.array .long) ∈ lw_tbl := List.mem_append_right _ (List.mem_of_getElem? (i := 136) (by decide +kernel))
theorem nests_at : nests.map (fun q => Cond.methodLinkNest q.1 q.2.1 q.2.2 "ControlRegister") = ([22, 88, 111, 131, 148, 158, 335, 348, 378, 379, 402, 401, 373, 384, 562, 481, 480] : List Nat).filterMap (fun i => tables_1[i]?) := by decide +kernel
theorem nests_in : ∀ q ∈ nests, Cond.methodLinkNest q.1 q.2.1 q.2.2 "ControlRegister" ∈ lw_tbl := fun q hq => by
  have h : Cond.methodLinkNest q.1 q.2.1 q.2.2 "ControlRegister" ∈ nests.map (fun q => Cond.methodLinkNest q.1 q.2.1 q.2.2 "ControlRegister") := List.mem_map.mpr ⟨q, hq, rfl⟩
  rw [nests_at] at h
  obtain ⟨i, -, hi⟩ := List.mem_filterMap.mp h
  exact List.mem_append_right _ (List.mem_of_getElem? hi)
/-- what the tables say of an array of arrays -/
theorem over_arr {args : Array Value} {s : State} {t : FieldType} (h : (Cond.arrayOver (.array t)).before args s = true) : ∃ (cB cA : ClassId) (k : Class), s.vm.findClass (FieldType.array t).toString = some cB ∧ s.vm.classes[cA]? = some k ∧ k.kind = .array cB (.array t) ∧ s.vm.findClass ("[" ++ (FieldType.array t).toString) = some cA := by
  have h' : (Cond.arrayOver (.array t)).value args s none s [] = some true := by
    simpa [Cond.before, Cond.holds] using h
  simp only [Cond.value] at h'
  cases hB : s.vm.findClass (FieldType.array t).toString with
  | none => rw [hB] at h'; cases h'
  | some cB =>
    rw [hB] at h'
    simp only [Option.bind_some] at h'
    obtain ⟨cA, hi, h2⟩ := Option.bind_eq_some_iff.mp h'
    obtain ⟨k, hk, h3⟩ := Option.map_eq_some_iff.mp h2
    obtain ⟨hlt, hp, -⟩ := Array.findIdx?_eq_some_iff_getElem.mp hi
    rw [(Array.getElem?_eq_some_iff.mp hk).2] at hp
    cases hkind : k.kind with
    | array cC ty =>
      rw [hkind] at hp h3
      simp at hp h3
      exact ⟨cB, cA, k, rfl, hk, by rw [hkind, hp, h3.1], h3.2⟩
    | _ => rw [hkind] at h3; simp at h3
theorem arr_T {s : State} {cA comp : ClassId} {kA : Class} {ty : FieldType} (h1 : s.vm.classes[cA]? = some kA) (h2 : kA.kind = .array comp ty) : ArrOfT s cA ty := fun n z => ⟨fun k h => (by cases h), kA, h1, comp, h2⟩
theorem inv_0 : INV σ0 := by
  refine ⟨(0, fun _ => (0, 0, 0, 0, 0, 0), fun _ => 0, 0, 50, 30, 25), false, false, (0, fun _ => (0, 0, 0, 0, 0, 0), fun _ => 0, 0, 50, 30, 25), (0, fun _ => (0, 0, 0, 0, 0, 0), fun _ => 0, 0, 50, 30, 25), ⟨by decide, fun d hd => absurd hd (Nat.not_lt_zero _), fun k hk => absurd hk (Nat.not_lt_zero _), by decide, by decide, by decide, by decide, H0, rfl⟩, ⟨⟨rfl, fun d hd => absurd hd (Nat.not_lt_zero _), fun k hk => absurd hk (Nat.not_lt_zero _)⟩, rfl, rfl, rfl, rfl⟩, ⟨⟨rfl, fun d hd => absurd hd (Nat.not_lt_zero _)⟩, rfl, rfl, rfl, rfl⟩, Or.inl rfl, Or.inl rfl, ⟨rfl, rfl, rfl⟩, fun h => (by cases h), fun h => (by cases h)⟩
section
variable {X : Ctx} {A : Nat → Prop} {kc : ByteArray} {nL : Nat} {ow : String} {nc ns pc : Nat} {lv lv' : List (Nat × Value)} {st : List Value} {ws : va_W}
theorem i_astore (K : KI X kc nL ow A) {q : Fin 4} {i x : Nat} (hd : decode kc pc = .ok (.astore_n q, 1)) (hi : (q : Nat) = i) (hn : i < nL) (hl : (i, Value.ref x) :: lv.filter (fun q => !(q.1 == i) && !(q.1 + 1 == i && q.2.category == 2)) = lv') (k : WI X A nc ns nL (pc + 1) lv' st ws) : WI X A nc ns nL pc lv (.ref x :: st) ws :=
  fun H locs ls hP hD hS hl1 => lv_astore_n K.1 K.2.1 hd hi hl1 hn hl (fun ls hl => k H locs ls hP hD hS hl)
theorem i_istore (K : KI X kc nL ow A) {q : Fin 4} {i : Nat} {x : Int32} (hd : decode kc pc = .ok (.istore_n q, 1)) (hi : (q : Nat) = i) (hn : i < nL) (hl : (i, Value.int x) :: lv.filter (fun q => !(q.1 == i) && !(q.1 + 1 == i && q.2.category == 2)) = lv') (k : WI X A nc ns nL (pc + 1) lv' st ws) : WI X A nc ns nL pc lv (.int x :: st) ws :=
  fun H locs ls hP hD hS hl1 => lv_istore_n K.1 K.2.1 hd hi hl1 hn hl (fun ls hl => k H locs ls hP hD hS hl)
end
/-! THE CLAIM OUT OF ONE WALK OF THE LAW'S BODY. Your part is whole_start (and what it stands on); all else here is the same for every law, but numbers. -/
def R_law : String := "ControlRegisterLaw"
def lw_P (b : Addr) (xs : List Int32) (args : Array Value) (s : State) : Prop := args = #[.ref b] ∧ s.IntsAt b xs ∧ xs.length ≤ 3072 ∧ (Jvm.Cond.and given_1 narrow_1).before args s = true
def lw_Q (_ : Array Value) (s : State) (o : Outcome) (t : State) : Prop := o = .returned (some (.int 1)) ∧ Framed s o t [] 600000 7302250
def lw_Z (below : List Frame) (a : Array Value) (s : State) : State → Prop := fun t => ∃ o, t.status = .running ∧ Ended t below o ∧ lw_Q a s o t
/-- the law's own end, with 1 on the stack, nothing written that was there before, its room as the claim has it -/
theorem lw_ret {p : Program} {l : Launch} {e : Env} {s : State} {m : MethodId} {below : List Frame} {meth : Method} {c : Code} {b : Nat} (hx : p.tables.exec = Jvm.exec) (hb : c.code = code) (hr : meth.sig.returnType = ret) (hlocks : meth.locks = false) {pc : Nat} {H : Heap} {ls : Array Slot} (hdg : decode code pc = .ok (.ireturn, 1)) : W p l e room_1 s m #[Value.ref b] below meth c H [] 600000 7302250 (lw_Z below #[Value.ref b] s) (F0 m pc ls [.int 1]) := by
  intro T hT X
  obtain ⟨fs, hret, hrun, hended, hW, hframe⟩ := X.leave (v := some (.int 1)) (hlocks := hlocks) (fun h => by rw [hr] at h; cases h)
  have hmeth' : T.vm.method? m = some meth := X.method'
  refine ⟨T.setFrames fs, ?_, .returned (some (.int 1)), hrun, hended, rfl, ⟨_, rfl⟩, hW, hframe⟩
  jvm_step X.here [X.here.top, hx, hb, hdg, hmeth', hr, ret, narrow_b1]
  (try refine ⟨rfl, ?_⟩); (try refine ⟨rfl, ?_⟩)
  first | (intro acts; rw [hret _ acts rfl rfl rfl]) | rw [hret _ _ rfl rfl rfl]
  exact Steps.refl _
/-- what holds at the law's entry: the machine, the code, the tables' words (any of lw_tbl by 'hts w (by decide +kernel)'), the script of L ints xs at the cell b, what the Statement gives of the start (any of its parts by flat_of_before) -/
def lw_At (p : Program) (s : State) (m : MethodId) (meth : Method) (c : Code) (b L : Nat) (xs : Nat → Int32) : Prop :=
  p.tables.exec = Jvm.exec ∧ c.code = code ∧ meth.sig.returnType = ret ∧ c.maxLocals = 4 ∧ s.vm.findClass R_law = some m.cls ∧ (∀ w ∈ lw_tbl, w.before #[Value.ref b] s = true) ∧ va_X b L xs s s.heap ∧ b < s.heap.size ∧ meth.locks = false ∧ (Jvm.Cond.and given_1 narrow_1).before #[Value.ref b] s = true
set_option maxHeartbeats 4000000 in
set_option maxRecDepth 100000 in
theorem whole_start {p : Program} {e : Env} {s : State} {m : MethodId} {below : List Frame} {meth : Method} {c : Code} (l : Launch) (hflags : l.flags = flags0) {b L : Nat} {xs : Nat → Int32} (hL : L ≤ 3072) (C0 : lw_At p s m meth c b L xs) : W p l e room_1 s m #[Value.ref b] below meth c s.heap [] 0 0 (lw_Z below #[Value.ref b] s) (entryFrame m ([Value.ref b] : List Value).toArray 4) := by
  obtain ⟨hx, hb, hr, hml, hown, hts, hX, hbl, hlocks, hgv⟩ := id C0
  have hwa : ∀ w ∈ wsAll, w.before #[Value.ref b] s = true := fun w h => hts w (List.mem_filter.mp h).1
  obtain ⟨c0, i0, hK0⟩ := u_known (C := RX0) (T := TX0) (N := 12) (n := 12) hwa u_X0 (hwa _ in_X0)
  obtain ⟨c1, i1, hK1⟩ := u_known (C := RX1) (T := TX1) (N := 3) (n := 3) hwa u_X1 (hwa _ in_X1)
  obtain ⟨c2, i2, hK2⟩ := u_known (C := RX2) (T := TX2) (N := 3) (n := 3) hwa u_X2 (hwa _ in_X2)
  obtain ⟨c3, i3, hK3⟩ := u_known (C := RX3) (T := TX3) (N := 1) (n := 1) hwa u_X3 (hwa _ in_X3)
  obtain ⟨c4, i4, hK4⟩ := u_known (C := RX4) (T := TX4) (N := 2) (n := 2) hwa u_X4 (hwa _ in_X4)
  obtain ⟨c5, i5, hK5⟩ := u_known (C := RX5) (T := TX5) (N := 5) (n := 5) hwa u_X5 (hwa _ in_X5)
  obtain ⟨c6, i6, hK6⟩ := u_known (C := RX6) (T := TX6) (N := 13) (n := 13) hwa u_X6 (hwa _ in_X6)
  obtain ⟨c7, i7, hK7⟩ := u_known (C := RX7) (T := TX7) (N := 25) (n := 25) hwa u_X7 (hwa _ in_X7)
  obtain ⟨D, hKc⟩ : ∃ D : va_G, ∀ (k : Nat) (q : vw_C), vwCl[k]? = some q → u_Kn s q.1 q.2.1 q.2.2 (D.1 k) (D.2 k) := by
    refine ⟨(fun k => [c0, c1, c2, c3, c4, c5, c6, c7].getD k c0, fun k => [i0, i1, i2, i3, i4, i5, i6, i7].getD k i0), ?_⟩
    intro k q hq
    match k, hq with
    | 0, hq => cases hq; exact hK0
    | 1, hq => cases hq; exact hK1
    | 2, hq => cases hq; exact hK2
    | 3, hq => cases hq; exact hK3
    | 4, hq => cases hq; exact hK4
    | 5, hq => cases hq; exact hK5
    | 6, hq => cases hq; exact hK6
    | 7, hq => cases hq; exact hK7
    | k + 8, hq => simp [vwCl] at hq
  obtain ⟨cI, kI, dI, hnI, hkI, hdI⟩ := Cond.arrayClass_spec (hwa _ aw_I)
  obtain ⟨cJ, kJ, dJ, hnJ, hkJ, hdJ⟩ := Cond.arrayClass_spec (hwa _ aw_L)
  obtain ⟨cZ, kZ, dZ, hnZ, hkZ, hdZ⟩ := Cond.arrayClass_spec (hwa _ aw_Z)
  obtain ⟨cB1, cII, kII, g1, g2, g3, g4⟩ := over_arr (hts _ ao_I)
  obtain ⟨cB2, cJJ, kJJ, f1, f2, f3, f4⟩ := over_arr (hts _ ao_L)
  have eI : cB1 = cI := Option.some.inj (g1.symm.trans (show s.vm.findClass (FieldType.array .int).toString = some cI from hnI))
  have eJ : cB2 = cJ := Option.some.inj (f1.symm.trans (show s.vm.findClass (FieldType.array .long).toString = some cJ from hnJ))
  subst eI
  subst eJ
  obtain ⟨ca, hca⟩ : ∃ ca : Nat → ClassId, ca = fun i => [cB1, cB2, cZ, cII, cJJ].getD i cB1 := ⟨_, rfl⟩
  have hK : va_K D vwCl (tysA ca) s := by
    refine ⟨hKc, fun k q hq => ?_⟩
    rw [hca] at hq
    match k, hq with
    | 0, hq => cases hq; exact ⟨arr_T hkI hdI, hnI⟩
    | 1, hq => cases hq; exact ⟨arr_T hkJ hdJ, hnJ⟩
    | 2, hq => cases hq; exact ⟨arr_T hkZ hdZ, hnZ⟩
    | 3, hq => cases hq; exact ⟨arr_T g2 g3, g4⟩
    | 4, hq => cases hq; exact ⟨arr_T f2 f3, f4⟩
    | k + 5, hq => simp [tysA] at hq
  have hMA : MAs ca s := by
    rw [hca]
    exact ⟨⟨kII, kI, dI, g2, g3, hkI, hdI⟩, ⟨kJJ, kJ, dJ, f2, f3, hkJ, hdJ⟩⟩
  have hN : NW s := fun q hq => va_Nw.of rfl (hts _ (nests_in q hq))
  have fin : ∀ (ad : Nat → Nat) (X : Ctx) (A : Nat → Prop), X = (p, l, e, room_1, s, m, #[Value.ref b], below, meth, c, 600000, 7302250, lw_Z below #[Value.ref b] s, D, ca, ad) → A = (fun q => s.heap.size ≤ q) → KI X cL_law 4 RL A := fun ad X A h1 h2 => by
    subst h1
    subst h2
    exact ⟨hx, hb, hml, hown, hwa, hK, hN, hMA, fun _ h => h⟩
  obtain ⟨X, hXe⟩ : ∃ X : Ctx, X = (p, l, e, room_1, s, m, #[Value.ref b], below, meth, c, 600000, 7302250, lw_Z below #[Value.ref b] s, D, ca, fun _ => 0) := ⟨_, rfl⟩
  have K := fin (fun _ => 0) X (fun q => s.heap.size ≤ q) hXe rfl
  have hRc : X.R.cells = 600000 := by rw [hXe]; rfl
  have hRs : X.R.slots = 7302250 := by rw [hXe]; rfl
  have hRf : X.R.frames = 9 := by rw [hXe]; rfl
  have hRl : X.R.locals = 342 := by rw [hXe]; rfl
  have hXca : X.ca = ca := by rw [hXe]
  have hl := lv_entry ([.ref b]) (n := 4) (Nat.le_of_ble_eq_true rfl)
  rw [lg_entry_eq]
  have main : WI X (fun q => s.heap.size ≤ q) 0 0 4 0 [(0, .ref b)] [] [] := by
    refine i_new (ci := 6) K rfl u_X6 tyX6 tyX6_ok cl_L_7 in_X6 iz_X6 df_X6 (by rw [hRc]; decide) (by rw [hRs]; decide) dL_law_0 (fun q => ?_)
    refine i_dup K dL_law_3 ?_
    refine i_ctorL K c_X6_init yn_X6 ml_L_9 (by rw [hRf, hRl]; decide) (Nat.le_of_ble_eq_true rfl) (by rw [hRc, hRs]; decide) dL_law_4 (fun u e1 => ?_)
    subst e1
    refine i_astore (lv' := [(1, .ref (u 0 0)), (0, .ref b)]) K dL_law_7 rfl (by decide) rfl ?_
    refine i_new (ci := 7) K rfl u_X7 tyX7 tyX7_ok cl_L_10 in_X7 iz_X7 df_X7 (by rw [hRc]; decide) (by rw [hRs]; decide) dL_law_8 (fun q2 => ?_)
    refine i_dup K dL_law_11 ?_
    refine i_ctorL K c_X7_init yn_X7 ml_L_12 (by rw [hRf, hRl]; decide) (Nat.le_of_ble_eq_true rfl) (by rw [hRc, hRs]; decide) dL_law_12 (fun v e2 => ?_)
    subst e2
    refine i_astore (lv' := [(2, .ref (v 0 0)), (1, .ref (u 0 0)), (0, .ref b)]) K dL_law_15 rfl (by decide) rfl ?_
    refine i_iconst (v := 0) K dL_law_16 (by decide) ?_
    refine i_istore (lv' := [(3, .int 0), (2, .ref (v 0 0)), (1, .ref (u 0 0)), (0, .ref b)]) K dL_law_17 rfl (by decide) rfl ?_
    intro H locs ls hP hD hS hl
    rw [hXca] at hP hD
    obtain ⟨hP2, hD2⟩ := pool_of hP hD
    have hge : ∀ i, i < NN → s.heap.size ≤ adF u v i := fun i hi => hD2.2 i _ (pool_at hi)
    obtain ⟨Y, hYe⟩ : ∃ Y : Ctx, Y = (p, l, e, room_1, s, m, #[Value.ref b], below, meth, c, 600000, 7302250, lw_Z below #[Value.ref b] s, D, ca, adF u v) := ⟨_, rfl⟩
    have aw : ∀ q, Aw (adF u v) s.heap.size q → s.heap.size ≤ q := fun q h => by
      rcases h with ⟨i, hi, rfl⟩ | h
      · exact hge i hi
      · exact h
    have KY : Cok Y cL_law 4 RL := by
      subst hYe
      exact ⟨hx, hb, hml, hown, hwa, hK, hN, hlocks, Nat.le_refl _, Nat.le_refl _⟩
    have hRY : 9 ≤ Y.R.frames ∧ 342 ≤ Y.R.locals := by
      subst hYe
      exact ⟨Nat.le_refl _, Nat.le_refl _⟩
    have SY : SCR Y b L xs := by
      subst hYe
      exact ⟨hX, hbl, fun h => absurd (aw b h) (Nat.not_le.mpr hbl), hL⟩
    have hend : ∀ (pc : Nat) (lv : List (Nat × Value)) (σ : Sg), decode cL_law pc = .ok (.ireturn, 1) → G Y 4 pc lv [.int 1] σ := by
      subst hYe
      intro pc lv σ hd H locs ls hw hl
      exact va_forget (fun q hq => aw _ (hw.2.2.2.2 q hq)) (lw_ret hx hb hr hlocks hd)
    have go := law_loop KY hRY SY hend (L + 1) 0 σ0 (by omega) (Nat.zero_le _) inv_0
    subst hYe
    subst hXe
    refine W.widen (k := 600000) (n := 7302250) (Nat.le_of_ble_eq_true rfl) (Nat.le_of_ble_eq_true rfl) ?_
    exact go H locs ls ⟨hP2, hD2.weaken (fun _ _ _ h => Or.inr h), ⟨hS.1, fun q h1 h2 => hS.2.1 q h1 (fun z => h2 (Or.inr z)), fun l hl => Or.inr (hS.2.2 l hl)⟩⟩ (lv_sub hl [3, 2, 1, 0] rfl)
  subst hXe
  exact main s.heap [] _ (fun k q h => by simp at h) ⟨fun i j p q h => by simp at h, fun k q h => by simp at h⟩ va_S.rf hl
