/-! A DEAL ENTERED -/
def inA (j : Nat) : Prop := (132 ≤ j ∧ j ≤ 138) ∨ (139 < j ∧ j < 144)
theorem bt_f {ds : Nat → Dl} {o : Nat → Nat} {n : Nat} (h : ∀ k, k < n → dDay (ds (o k)) ≤ 999) : runS ds o (fun e => !(fun _ => false) e && decide (dDay (ds e) ≤ 999)) n = runS ds o (fun _ => true) n :=
  runS_congr (fun k hk => ⟨rfl, by simp [h k hk]⟩)
theorem addM {n : Nat} {ds : Nat → Dl} {x : Dl} {o : Nat → Nat} {σ : Sg} (hn : n ≤ 40) (hr : repMd σ n ds) (hd : ∀ d, d < n → okD (ds d)) (hx : okD x) (ho : ordOK (days (app ds n x)) (n + 1) o) : ∃ σ' r, Option.bind (f_X7_put (σ.1 132 6) (nI (dDay x)) (nI (dFirm x)) (nI (dKind x)) (nI (dFrom x)) (nI (dTo x)) (nI (dAmt x)) σ) f_X7_add = some (r, σ') ∧ fr inA σ σ' ∧ (∀ y, y ≠ 6 → σ'.1 132 y = σ.1 132 y) ∧ ((runS (app ds n x) o (fun _ => true) (n + 1) = none ∧ r = -5 ∧ repMd σ' n ds) ∨ (∃ H, runS (app ds n x) o (fun _ => true) (n + 1) = some H ∧ ((n + 1 ≤ 40 ∧ r = nI (n + 1) ∧ repMd σ' (n + 1) (app ds n x)) ∨ (¬ n + 1 ≤ 40 ∧ r = -4 ∧ repMd σ' n ds)))) := by
  obtain ⟨s1, e1, e2, e3⟩ := putApp (x := x) hn hr
  have h132 : s1.1 132 = σ.1 132 := (e3 132 (by omega)).1
  obtain ⟨s2, hs2⟩ : ∃ s2, s2 = setR s1 132 (upd (s1.1 132) 6 (nI (n + 1))) := ⟨_, rfl⟩
  have r2 : repMd s2 (n + 1) (app ds n x) := by
    refine ⟨by rw [hs2, sR_s, up_s], fun d hd' => ?_⟩
    have := e2 d hd'
    unfold repDM at this ⊢
    rw [hs2]
    simp (disch := omega) only [sR_s, sR_n, sL_s, sL_n, sR_2, sL_1, up_s, up_n]
    exact this
  have okd := app_okD hd hx
  obtain ⟨s3, g1, g2⟩ := lay_ok (but := -6) (bt := fun _ => false) (last := 999) (by omega) (by omega) r2 okd ho (fun e he => propext ⟨fun q => absurd q (m6_ne e (by omega)), fun q => by cases q⟩)
  rw [bt_f (fun k hk => (okd _ (ho k hk).1).1)] at g2
  have hadd : f_X7_add s1 = Option.bind (f_X7_lay 999 (-6) s2) (fun q3 => if q3.1 = 0 then (jn (setR q3.2 132 (upd (q3.2.1 132) 6 ((q3.2.1 132 6) - 1))) (fun σ9 => some ((-5), σ9))) else (if (q3.2.1 132 6) ≤ 40 then (some ((q3.2.1 132 6), q3.2)) else (jn (setR q3.2 132 (upd (q3.2.1 132) 6 ((q3.2.1 132 6) - 1))) (fun σ7 => some ((-4), σ7))))) := by
    unfold f_X7_add
    rw [h132, hr.1, li1, c_add]
    show Option.bind (f_X7_lay 999 (-6) (setR s1 132 (upd (σ.1 132) 6 (nI (n + 1))))) _ = _
    rw [← h132, ← hs2]
  have f2 : fr inA σ s2 := by
    rw [hs2]
    exact fr.tr (e3.mono (fun j hj => by unfold inA; omega)) (fr.setR (by unfold inA; omega))
  have f3 : fr inA σ s3 := f2.tr (g1.mono (fun j hj => by unfold inO at hj; unfold inA; omega))
  have y3 : ∀ y, y ≠ 6 → s3.1 132 y = σ.1 132 y := fun y hy => by
    rw [(g1 132 (by unfold inO; omega)).1, hs2, sR_s, up_n _ _ hy, h132]
  have n3 : s3.1 132 6 = nI (n + 1) := by rw [(g1 132 (by unfold inO; omega)).1, hs2, sR_s, up_s]
  have d3 : ∀ d, d < n + 1 → repDM s3 d (app ds n x d) := fun d hd' => by
    have := r2.2 d hd'
    unfold repDM at this ⊢
    rw [(g1 133 (by unfold inO; omega)).1, (g1 134 (by unfold inO; omega)).1, (g1 135 (by unfold inO; omega)).1, (g1 136 (by unfold inO; omega)).1, (g1 137 (by unfold inO; omega)).1, (g1 138 (by unfold inO; omega)).1]
    exact this
  have back : repMd (setR s3 132 (upd (s3.1 132) 6 (nI n))) n ds := by
    refine ⟨by rw [sR_s, up_s], fun d hd' => ?_⟩
    have := d3 d (by omega)
    rw [app_lt _ _ (show d ≠ n by omega)] at this
    unfold repDM at this ⊢
    simp (disch := omega) only [sR_s, sR_n, sL_s, sL_n, sR_2, sL_1, up_s, up_n]
    exact this
  have fb : fr inA σ (setR s3 132 (upd (s3.1 132) 6 (nI n))) := f3.tr (fr.setR (by unfold inA; omega))
  have yb : ∀ y, y ≠ 6 → (setR s3 132 (upd (s3.1 132) 6 (nI n))).1 132 y = σ.1 132 y := fun y hy => by rw [sR_s, up_n _ _ hy]; exact y3 y hy
  rw [e1, Option.bind_some, hadd]
  cases hrun : runS (app ds n x) o (fun _ => true) (n + 1) with
  | none =>
    rw [hrun] at g2
    refine ⟨_, -5, ?_, fb, yb, Or.inl ⟨rfl, rfl, back⟩⟩
    rw [show f_X7_lay 999 (-6) s2 = _ from g2, Option.bind_some, if_pos rfl]
    show some ((-5 : Int32), setR s3 132 (upd (s3.1 132) 6 (s3.1 132 6 - 1))) = _
    rw [n3, li1, c_sub (by omega), Nat.add_sub_cancel]
  | some H =>
    rw [hrun] at g2
    by_cases c : n + 1 ≤ 40
    · refine ⟨s3, nI (n + 1), ?_, f3, y3, Or.inr ⟨H, rfl, Or.inl ⟨c, rfl, n3, d3⟩⟩⟩
      rw [show f_X7_lay 999 (-6) s2 = _ from g2.1, Option.bind_some, if_neg n10]
      show (if s3.1 132 6 ≤ 40 then some (s3.1 132 6, s3) else _) = _
      rw [n3, if_pos (by rw [li40, c_le (by omega) (by omega)]; exact c)]
    · refine ⟨_, -4, ?_, fb, yb, Or.inr ⟨H, rfl, Or.inr ⟨c, rfl, back⟩⟩⟩
      rw [show f_X7_lay 999 (-6) s2 = _ from g2.1, Option.bind_some, if_neg n10]
      show (if s3.1 132 6 ≤ 40 then _ else some ((-4 : Int32), setR s3 132 (upd (s3.1 132) 6 (s3.1 132 6 - 1)))) = _
      rw [n3, if_neg (by rw [li40, c_le (by omega) (by omega)]; exact c), li1, c_sub (by omega), Nat.add_sub_cancel]
