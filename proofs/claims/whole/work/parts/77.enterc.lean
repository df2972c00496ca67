/-! A DEAL ENTERED, component -/
def inE (j : Nat) : Prop := j = 0 ∨ inB 1 j ∨ inH 39 j
theorem m1_ne : ∀ e, e < 41 → ¬ nI e = -1 := by decide +kernel
theorem slots_of {σ σ' : Sg} {B : Bk} (hr : repB 1 σ B) (h : ∀ y, y ≠ 7 → σ'.1 1 y = σ.1 1 y) : σ'.1 1 8 = nI (bL B) ∧ σ'.1 1 9 = nI (bH B) ∧ σ'.1 1 10 = nI (bM B) ∧ σ'.1 1 11 = nI (bW B) := by
  rw [h 8 (by omega), h 9 (by omega), h 10 (by omega), h 11 (by omega)]
  exact hr.2
theorem changed_ok (σ : Sg) : ∃ σ', f_X6_allIsChanged σ = some σ' ∧ σ'.1 0 8 = nI 0 ∧ σ'.1 0 10 = nI 0 ∧ (∀ y, y ≠ 8 → y ≠ 10 → σ'.1 0 y = σ.1 0 y) ∧ fr (fun j => j = 0) σ σ' := by
  refine ⟨_, rfl, ?_, ?_, fun y h1 h2 => ?_, fr.tr (fr.setR rfl) (fr.setR rfl)⟩
  · simp (disch := omega) only [sR_s, sR_n, sL_s, sL_n, sR_2, sL_1, up_s, up_n]
    rfl
  · simp (disch := omega) only [sR_s, sR_n, sL_s, sL_n, sR_2, sL_1, up_s, up_n]
    rfl
  · simp (disch := omega) only [sR_s, sR_n, sL_s, sL_n, sR_2, sL_1, up_s, up_n]
abbrev appB (B : Bk) (x : Dl) (o : Nat → Nat) : Bk := (bN B + 1, app (bD B) (bN B) x, o, bL B, bH B, bM B, bW B)
theorem enterC {B : Bk} {σ : Sg} {x : Dl} (hB : okB B) (hr : repB 1 σ B) (hx : okD x) : ∃ σ' r o', ordOK (days (app (bD B) (bN B) x)) (bN B + 1) o' ∧ f_X6_enter (nI (dDay x)) (nI (dKind x)) (nI (dFirm x)) (frmD x) (nI (dTo x)) (nI (dAmt x)) σ = some (r, σ') ∧ fr inE σ σ' ∧ ((runS (app (bD B) (bN B) x) o' (fun _ => true) (bN B + 1) = none ∧ r = -5 ∧ repB 1 σ' B ∧ σ'.1 0 = σ.1 0) ∨ (∃ H, runS (app (bD B) (bN B) x) o' (fun _ => true) (bN B + 1) = some H ∧ ((bN B + 1 ≤ 40 ∧ r = nI (bN B + 1) ∧ repB 1 σ' (appB B x o') ∧ σ'.1 0 8 = nI 0 ∧ σ'.1 0 10 = nI 0 ∧ (∀ y, y ≠ 8 → y ≠ 10 → σ'.1 0 y = σ.1 0 y)) ∨ (¬ bN B + 1 ≤ 40 ∧ r = -4 ∧ repB 1 σ' B ∧ σ'.1 0 = σ.1 0)))) := by
  obtain ⟨b1, b2, b3, b4, b5, b6, b7, b8⟩ := id hB
  obtain ⟨s1, o', a1, a2, a3, a4, a5⟩ := append_ok b1 hr.1 b2 hx
  have okd := app_okD b2 hx
  obtain ⟨s2, c1, c2⟩ := sound_ok (but := -1) (bt := fun _ => false) (show bN B + 1 ≤ 41 by omega) a2 okd a3 (fun e he => propext ⟨fun q => absurd q (m1_ne e (by omega)), fun q => by cases q⟩)
  have hrun0 : runS (app (bD B) (bN B) x) o' (fun e => !(fun _ => false) e) (bN B + 1) = runS (app (bD B) (bN B) x) o' (fun _ => true) (bN B + 1) := rfl
  rw [hrun0] at c2
  have r2 : repBd 1 s2 (bN B + 1) (app (bD B) (bN B) x) o' := a2.kept (fun j g1 g2 => (c1 j (by unfold inH; omega)).1)
  have sl2 : ∀ y, y ≠ 7 → s2.1 1 y = σ.1 1 y := fun y hy => by rw [(c1 1 (by unfold inH; omega)).1]; exact a4 y hy
  have f2 : fr inE σ s2 := (a5.mono (fun j hj => Or.inr (Or.inl hj))).tr (c1.mono (fun j hj => Or.inr (Or.inr hj)))
  have z2 : s2.1 0 = σ.1 0 := by rw [(c1 0 (by unfold inH; omega)).1, (a5 0 (by unfold inB; omega)).1]
  obtain ⟨s3, o3, d1, d2, d3, d4, d5⟩ := strike_ok (b := 1) (n := bN B + 1) (d := bN B) (by omega) (by omega) r2 okd
  have rb := rem_back hB d2 d3
  have back : repB 1 s3 B := ⟨rb, slots_of hr (fun y hy => (d4 y hy).trans (sl2 y hy))⟩
  have z3 : s3.1 0 = σ.1 0 := by rw [(d5 0 (by unfold inB; omega)).1, z2]
  have f3 : fr inE σ s3 := f2.tr (d5.mono (fun j hj => Or.inr (Or.inl hj)))
  have n2 : s2.1 1 7 - 1 = nI (bN B) := by rw [r2.1, li1, c_sub (by omega), Nat.add_sub_cancel]
  unfold f_X6_enter
  rw [a1, Option.bind_some]
  cases hrun : runS (app (bD B) (bN B) x) o' (fun _ => true) (bN B + 1) with
  | none =>
    rw [hrun] at c2
    refine ⟨s3, -5, o', a3, ?_, f3, Or.inl ⟨hrun, rfl, back, z3⟩⟩
    rw [c2, Option.bind_some, if_pos rfl]
    show Option.bind (f_X0_strike 1 (s2.1 1 7 - 1) s2) _ = _
    rw [n2, d1]
    rfl
  | some H =>
    rw [hrun] at c2
    by_cases c : bN B + 1 ≤ 40
    · obtain ⟨s4, g1, g2, g3, g4, g5⟩ := changed_ok s2
      have r4 : repB 1 s4 (appB B x o') := ⟨r2.kept (fun j h1 h2 => (g5 j (by omega)).1), by
        rw [(g5 1 (by omega)).1]
        exact slots_of (B := B) hr sl2⟩
      refine ⟨s4, nI (bN B + 1), o', a3, ?_, f2.tr (g5.mono (fun j hj => Or.inl hj)), Or.inr ⟨H, hrun, Or.inl ⟨c, rfl, r4, g2, g3, fun y h1 h2 => by rw [g4 y h1 h2, z2]⟩⟩⟩
      rw [c2.1, Option.bind_some, if_neg n10]
      show (if s2.1 1 7 ≤ 40 then Option.bind (f_X6_allIsChanged s2) _ else _) = _
      rw [r2.1, if_pos (by rw [li40, c_le (by omega) (by omega)]; exact c), g1, Option.bind_some, r4.1.1]
    · refine ⟨s3, -4, o', a3, ?_, f3, Or.inr ⟨H, hrun, Or.inr ⟨c, rfl, back, z3⟩⟩⟩
      rw [c2.1, Option.bind_some, if_neg n10]
      show (if s2.1 1 7 ≤ 40 then _ else Option.bind (f_X0_strike 1 (s2.1 1 7 - 1) s2) _) = _
      rw [n2, r2.1, if_neg (by rw [li40, c_le (by omega) (by omega)]; exact c), d1]
      rfl
