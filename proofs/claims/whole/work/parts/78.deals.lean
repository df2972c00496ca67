/-! SELLING, AND VETOES -/
def trS (B B' : Bk) : Prop := bN B' = bN B ∧ bD B' = bD B ∧ bO B' = bO B ∧ bH B' = bH B ∧ bM B' = bM B
def inOP (j : Nat) : Prop := j = 0 ∨ inB 1 j ∨ (25 < j ∧ j ≤ 87) ∨ (132 ≤ j ∧ j < 149)
def OP (B : Bk) (σ : Sg) (F : Option (Int32 × Sg)) (M : Sg → Option (Int32 × Sg)) : Prop := ∃ r σ1 σ2 B', F = some (r, σ1) ∧ M σ1 = some (r, σ2) ∧ okB B' ∧ repB 1 σ2 B' ∧ repMB σ2 B' ∧ cacheOK σ2 B' ∧ fr inOP σ σ2 ∧ (∀ y, y ≠ 8 → y ≠ 10 → σ2.1 0 y = σ.1 0 y) ∧ ((trS B B' ∧ σ2.1 0 10 = σ.1 0 10) ∨ σ2.1 0 10 = nI 0)
theorem OP.same {B : Bk} {σ : Sg} {F : Option (Int32 × Sg)} {M : Sg → Option (Int32 × Sg)} (hB : okB B) (hr : repB 1 σ B) (hM : repMB σ B) (hc : cacheOK σ B) {r : Int32} (h1 : F = some (r, σ)) (h2 : M σ = some (r, σ)) : OP B σ F M := ⟨r, σ, σ, B, h1, h2, hB, hr, hM, hc, fr.rf, fun _ _ _ => rfl, Or.inl ⟨⟨rfl, rfl, rfl, rfl, rfl⟩, rfl⟩⟩
theorem OP.of {B : Bk} {σ : Sg} {F : Option (Int32 × Sg)} {M : Sg → Option (Int32 × Sg)} (hB : okB B) (hr : repB 1 σ B) (hM : repMB σ B) (h : QQ B σ F M) : OP B σ F M := by
  obtain ⟨r, s1, s2, h1, h2, h3, h4, h5⟩ := h
  refine ⟨r, s1, s2, B, h1, h2, hB, hr.kept (fun j a b => ?_), (hM.kc h3).kp h5, h4.kp h5, ?_, fun y hy _ => ?_, Or.inl ⟨⟨rfl, rfl, rfl, rfl, rfl⟩, ?_⟩⟩
  · rw [(h5.1 j (by unfold inKM; omega)).1, (h3.1 j (by unfold inKC; omega)).1]
  · exact (h3.1.mono (fun j hj => by unfold inKC at hj; unfold inOP; omega)).tr (h5.1.mono (fun j hj => by unfold inKM at hj; unfold inOP; omega))
  · rw [(h5.1 0 (by unfold inKM; omega)).1]; exact h3.2 y hy
  · rw [(h5.1 0 (by unfold inKM; omega)).1]; exact h3.2 10 (by omega)
theorem fr.cache {σ σ' : Sg} {B : Bk} (h : cacheOK σ B) (hf : ∀ j, 25 < j → j ≤ 87 → ¬ inH 39 j → σ'.1 j = σ.1 j ∧ σ'.2 j = σ.2 j) (h0 : σ'.1 0 = σ.1 0) : cacheOK σ' B := by
  unfold cacheOK
  rw [h0]
  rcases h with h | ⟨h, H, g1, g2⟩
  · exact Or.inl h
  · exact Or.inr ⟨h, H, g1, g2.kp (fun j a b c _ => hf j a b (by unfold inH; omega))⟩
theorem repMB.app {σ σ' : Sg} {B B' : Bk} (h : repMB σ B) (hf : fr inA σ σ') (hy : ∀ y, y ≠ 6 → σ'.1 132 y = σ.1 132 y) (hd : repMd σ' (bN B') (bD B')) (e1 : bL B' = bL B) (e2 : bH B' = bH B) (e3 : bM B' = bM B) (e4 : bW B' = bW B) : repMB σ' B' := by
  obtain ⟨h1, h2, h3, h4, h5⟩ := h
  refine ⟨hd, by rw [hy 7 (by omega), e1]; exact h2, ?_, ?_, ?_⟩ <;> rw [(hf 139 (by unfold inA; omega)).1]
  · rw [e2]; exact h3
  · rw [e3]; exact h4
  · rw [e4]; exact h5
theorem enter_both {B : Bk} {σ : Sg} {x : Dl} (hB : okB B) (hr : repB 1 σ B) (hM : repMB σ B) (hc : cacheOK σ B) (hx : okD x) {F : Option (Int32 × Sg)} {M : Sg → Option (Int32 × Sg)} (hF : F = f_X6_enter (nI (dDay x)) (nI (dKind x)) (nI (dFirm x)) (frmD x) (nI (dTo x)) (nI (dAmt x)) σ) (hMM : ∀ τ, M τ = Option.bind (f_X7_put (τ.1 132 6) (nI (dDay x)) (nI (dFirm x)) (nI (dKind x)) (nI (dFrom x)) (nI (dTo x)) (nI (dAmt x)) τ) f_X7_add) : OP B σ F M := by
  obtain ⟨b1, b2, b3, b4, b5, b6, b7, b8⟩ := id hB
  obtain ⟨s1, r, o', e0, e1, e2, e3⟩ := enterC hB hr hx
  have w : ∀ j, 132 ≤ j → s1.1 j = σ.1 j := fun j hj => (e2 j (by unfold inE inB inH; omega)).1
  have hM1 : repMB s1 B := ⟨hM.1.kept (fun j a _ => w j a), by rw [w 132 (by omega)]; exact hM.2.1, by rw [w 139 (by omega)]; exact hM.2.2⟩
  obtain ⟨s2, r', g1, g2, g3, g4⟩ := addM (x := x) b1 hM1.1 b2 hx e0
  have v : ∀ j, j < 132 → s2.1 j = s1.1 j ∧ s2.2 j = s1.2 j := fun j hj => g2 j (by unfold inA; omega)
  have hfr : fr inOP σ s2 := (e2.mono (fun j hj => by unfold inE inB inH at hj; unfold inOP inB; omega)).tr (g2.mono (fun j hj => by unfold inA at hj; unfold inOP; omega))
  have same : r' = r → repB 1 s1 B → s1.1 0 = σ.1 0 → repMd s2 (bN B) (bD B) → OP B σ F M := fun q1 q2 q3 q4 => by
    refine ⟨r, s1, s2, B, hF.trans e1, by rw [hMM, g1, q1], hB, q2.kept (fun j a b => (v j (by omega)).1), hM1.app g2 g3 q4 rfl rfl rfl rfl, ?_, hfr, fun y _ _ => by rw [(v 0 (by omega)).1, q3], Or.inl ⟨⟨rfl, rfl, rfl, rfl, rfl⟩, by rw [(v 0 (by omega)).1, q3]⟩⟩
    refine fr.cache (σ := σ) hc ?_ (by rw [(v 0 (by omega)).1, q3])
    intro j h1 h2 h3
    unfold inH at h3
    have a := e2 j (by unfold inE inB inH; omega)
    have b := v j (by omega)
    exact ⟨b.1.trans a.1, b.2.trans a.2⟩
  rcases e3 with ⟨k1, k2, k3, k4⟩ | ⟨H, k1, k2⟩
  · rcases g4 with ⟨j1, j2, j3⟩ | ⟨H', j1, _⟩
    · exact same (j2.trans k2.symm) k3 k4 j3
    · rw [k1] at j1; cases j1
  · rcases g4 with ⟨j1, j2, j3⟩ | ⟨H', j1, j2⟩
    · rw [k1] at j1; cases j1
    · rcases k2 with ⟨c1, c2, c3, c4, c5, c6⟩ | ⟨c1, c2, c3, c4⟩
      · rcases j2 with ⟨d1, d2, d3⟩ | ⟨d1, _⟩
        · refine ⟨r, s1, s2, appB B x o', hF.trans e1, by rw [hMM, g1, d2, c2], ⟨c1, app_okD b2 hx, e0, b4, b5, b6, b7, H, k1⟩, c3.kept (fun j a b => (v j (by omega)).1), hM1.app g2 g3 d3 rfl rfl rfl rfl, Or.inl (by rw [(v 0 (by omega)).1]; exact c4), hfr, fun y h1 h2 => by rw [(v 0 (by omega)).1]; exact c6 y h1 h2, Or.inr (by rw [(v 0 (by omega)).1]; exact c5)⟩
        · exact absurd c1 d1
      · rcases j2 with ⟨d1, _⟩ | ⟨d1, d2, d3⟩
        · exact absurd d1 c1
        · exact same (d2.trans c2.symm) c3 c4 d3
