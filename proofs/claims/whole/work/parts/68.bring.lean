/-! WHAT HOLDS AT A DAY: the component brings itself up to date, the reference lays the deals -/
def upOK (σ : Sg) (B : Bk) (H : Hd) : Prop := repC 25 σ H ∧ (∀ x, x < 9 → rowOK 53 σ H (bH B) (bM B) x 5) ∧ stakOK σ H ∧ reachOK σ H
def holdB (B : Bk) (L : Nat) (H : Hd) : Prop := runS (bD B) (bO B) (byL (bD B) L) (bN B) = some H ∧ okH H
theorem holdB_ex {B : Bk} (h : okB B) (L : Nat) : ∃ H, holdB B L H := by
  obtain ⟨H, h1, _, h3⟩ := hold_some h L
  exact ⟨H, h1, h3⟩
theorem holdB_un {B : Bk} {L : Nat} {H H' : Hd} (h : holdB B L H) (h' : holdB B L H') : H = H' := by
  have := h.1.symm.trans h'.1
  cases this
  rfl
def cacheOK (σ : Sg) (B : Bk) : Prop := σ.1 0 8 = nI 0 ∨ (σ.1 0 8 = nI 1 ∧ ∃ H, holdB B (bL B) H ∧ upOK σ B H)
def inUp (j : Nat) : Prop := j = 0 ∨ (25 < j ∧ j ≤ 38) ∨ (53 < j ∧ j ≤ 65) ∨ (79 ≤ j ∧ j ≤ 87)
theorem bring32 {B : Bk} {σ : Sg} (hB : okB B) (hr : repB 1 σ B) {c : Nat} (hc : c ≤ bN B) (h0 : repC 25 σ H0) : ∃ σ' H, L_X6_bringUpToDate_32 (nI c) FU 0 σ = some (nI c, σ') ∧ runS (bD B) (bO B) (fun _ => true) c = some H ∧ repC 25 σ' H ∧ okH H ∧ fr (inH 25) σ σ' := by
  obtain ⟨h1, h2, h3, h4, h5, h6, h7, HH, h8⟩ := hB
  refine ex_use (loop_inv (fun m k (a : Sg) => L_X6_bringUpToDate_32 (nI c) m (nI k) a) (fun k a => ∃ H, runS (bD B) (bO B) (fun _ => true) k = some H ∧ repC 25 a H ∧ fr (inH 25) σ a) c (fun a => (nI c, a)) (by omega) (fun k hk m a ha => ?_) (fun m a ha => ?_) σ ⟨H0, rfl, h0, fr.rf⟩) (fun σ' i1 i2 => ?_)
  · obtain ⟨H, i1, i2, i3⟩ := ha
    have iH := runS_ok (n := bN B) (fun k hk => h2 _ (h3 k hk).1) (show k ≤ bN B by omega) i1
    have hr' : repB 1 a B := hr.kept (fun j g1 g2 => (i3 j (by unfold inH; omega)).1)
    have ok1 := (h3 k (by omega)).1
    have w1 : a.1 8 k = nI (bO B k) := hr'.1.2.2 k (by omega)
    obtain ⟨H', e⟩ := runS_pre h8 (show k + 1 ≤ bN B by omega)
    have e' : doD (bD B (bO B k)) H = some H' := by
      have : runS (bD B) (bO B) (fun _ => true) (k + 1) = (runS (bD B) (bO B) (fun _ => true) k).bind (fun H => if (true : Bool) = true then doD (bD B (bO B k)) H else some H) := rfl
      rw [this, i1, Option.bind_some, if_pos rfl] at e
      exact e
    obtain ⟨σ1, g1, g2, g3⟩ := carry_some (b := 1) (h := 25) (σ := a) (show bO B k < 41 by omega) (hr'.1.2.1 _ ok1) (h2 _ ok1) i2 iH e'
    refine ⟨σ1, ?_, H', e, g2, i3.tr g3⟩
    rw [L_X6_bringUpToDate_32]
    simp (disch := omega) only [li0, li1, li2, li3, li4, li5, li6, li7, li8, li9, li10, li15, li31, li32, li40, li41, li49, li50, li99, li100, li999, c_le, c_lt, c_eq, c_tn, c_inb, c_add, show ¬ c ≤ k by omega, show k < 41 by omega, w1, g1, Option.bind_some, if_true, if_false, ite_true, ite_false, ↓reduceIte, Nat.le_refl, Nat.lt_irrefl, Nat.reduceAdd, Nat.reduceLeDiff, Nat.reduceLT, Nat.reduceEqDiff, Bool.false_eq_true]
  · rw [L_X6_bringUpToDate_32]
    simp (disch := omega) only [li0, li1, li2, li3, li4, li5, li6, li7, li8, li9, li10, li15, li31, li32, li40, li41, li49, li50, li99, li100, li999, c_le, c_lt, c_eq, c_tn, c_inb, c_add, if_true, if_false, ite_true, ite_false, ↓reduceIte, Nat.le_refl, Nat.lt_irrefl, Nat.reduceAdd, Nat.reduceLeDiff, Nat.reduceLT, Nat.reduceEqDiff, Bool.false_eq_true]
  · obtain ⟨H, j1, j2, j3⟩ := i1
    exact ⟨σ', H, i2, j1, j2, runS_ok (n := bN B) (fun k hk => h2 _ (h3 k hk).1) hc j1, j3⟩
theorem bring_ok {B : Bk} {σ : Sg} (hB : okB B) (hr : repB 1 σ B) (hc : cacheOK σ B) : ∃ σ' H, f_X6_bringUpToDate σ = some σ' ∧ holdB B (bL B) H ∧ upOK σ' B H ∧ σ'.1 0 8 = nI 1 ∧ (∀ y, y ≠ 8 → σ'.1 0 y = σ.1 0 y) ∧ fr inUp σ σ' := by
  rcases hc with hc | ⟨hc, H, g1, g2⟩
  · obtain ⟨s1, e1, e2, e3⟩ := begin_ok 25 σ
    have r1 : repB 1 s1 B := hr.kept (fun j g1 g2 => (e3 j (by unfold inH; omega)).1)
    obtain ⟨HL, k1, k2, k3⟩ := hold_some hB (bL B)
    have hle : dnN (bD B) (bN B) (bL B) ≤ bN B := cnt_le
    obtain ⟨b1, b2, b3, b4, b5, b6, b7, b8⟩ := id hB
    have hdn := doneC_ok (L := bL B) (by omega) (by omega) r1.1 b2
    obtain ⟨s2, H, f1, f2, f3, f4, f5⟩ := bring32 hB r1 hle e2
    rw [k2] at f2
    cases f2
    have r2 : repB 1 s2 B := r1.kept (fun j g1 g2 => (f5 j (by unfold inH; omega)).1)
    obtain ⟨s3, p1, p2, p3⟩ := woAll_ok (c := 53) (h := 25) (b := 1) (by unfold apC; omega) f3 f4 r2.2.2.1 r2.2.2.2.1 (by omega) (by omega)
    have c3 : repC 25 s3 HL := f3.kept (fun j g1 g2 => (p3 j (by unfold inCC; omega)).1)
    obtain ⟨s4, q1, q2, q3⟩ := stak_ok (by omega) c3 f4
    have c4 : repC 25 s4 HL := c3.kept (fun j g1 g2 => (q3 j (by unfold inSt inS; omega)).1)
    obtain ⟨s5, v1, v2, v3⟩ := reach_ok (by omega) c4 f4
    have m0 : ∀ (j : Nat), j ≤ 24 → s5.1 j = σ.1 j := fun j hj => by
      rw [(v3 j (by omega)).1, (q3 j (by unfold inSt inS; omega)).1, (p3 j (by unfold inCC; omega)).1, (f5 j (by unfold inH; omega)).1, (e3 j (by unfold inH; omega)).1]
    refine ⟨setR s5 0 (upd (s5.1 0) 8 (nI 1)), HL, ?_, ⟨k1, k3⟩, ⟨?_, fun x hx => ?_, ⟨?_, fun f hf c hc => ?_⟩, fun g hg => ?_⟩, by rw [sR_s, up_s], fun y hy => by rw [sR_s, up_n _ _ hy, m0 0 (by omega)], ?_⟩
    · unfold f_X6_bringUpToDate
      rw [hc, if_pos (show nI 0 = 0 from rfl), e1, Option.bind_some, r1.2.1, hdn, Option.bind_some, f1, Option.bind_some]
      show Option.bind (f_X1_workOutAll 53 25 1 s2) _ = _
      rw [p1, Option.bind_some, q1, Option.bind_some, v1, Option.bind_some]
      rfl
    · exact c4.kept (fun j g1 g2 => by rw [sR_n _ _ (by omega), (v3 j (by omega)).1])
    · have w : ∀ j, 53 < j → j ≤ 65 → (setR s5 0 (upd (s5.1 0) 8 (nI 1))).1 j = s3.1 j := fun j g1 g2 => by
        rw [sR_n _ _ (by omega), (v3 j (by omega)).1, (q3 j (by unfold inSt inS; omega)).1]
      have := p2 x hx
      unfold rowOK at this ⊢
      rw [w (53 + 1) (by omega) (by omega), w (53 + 12) (by omega) (by omega), w (53 + 2 + 1 + x) (by omega) (by omega)]
      exact this
    · rw [sR_n _ _ (by omega), (v3 79 (by omega)).1]
      exact q2.1
    · rw [sR_2, (v3 (80 + 1 + f) (by omega)).2]
      exact q2.2 f hf c hc
    · rw [sR_n _ _ (by omega)]
      exact v2 g hg
    · refine ((e3.mono ?_).tr ((f5.mono ?_).tr ((p3.mono ?_).tr ((q3.mono ?_).tr (v3.mono ?_))))).tr (fr.setR (Or.inl rfl))
      · intro j hj; unfold inH at hj; unfold inUp; omega
      · intro j hj; unfold inH at hj; unfold inUp; omega
      · intro j hj; unfold inCC at hj; unfold inUp; omega
      · intro j hj; unfold inSt inS at hj; unfold inUp; omega
      · intro j hj; unfold inUp; omega
  · refine ⟨σ, H, ?_, g1, g2, hc, fun _ _ => rfl, fr.rf⟩
    unfold f_X6_bringUpToDate
    rw [hc, if_neg (by decide)]
theorem m6_ne : ∀ e, e < 41 → ¬ nI e = -6 := by decide +kernel
theorem layL_ok {B : Bk} {σ : Sg} {L : Nat} {H : Hd} (hB : okB B) (hL : L < 2000) (hr : repMd σ (bN B) (bD B)) (hH : holdB B L H) : ∃ σ', f_X7_lay (nI L) (-6) σ = some (1, σ') ∧ repM σ' H ∧ fr inO σ σ' := by
  obtain ⟨b1, b2, b3, b4, b5, b6, b7, b8⟩ := hB
  obtain ⟨σ', h1, h2⟩ := lay_ok (but := -6) (bt := fun _ => false) (last := L) (by omega) hL hr b2 b3 (fun e he => propext ⟨fun q => absurd q (m6_ne e (by omega)), fun q => by cases q⟩)
  have e : runS (bD B) (bO B) (fun e => !(fun _ => false) e && decide (dDay (bD B e) ≤ L)) (bN B) = some H := by
    have : (fun e => !(fun _ : Nat => false) e && decide (dDay (bD B e) ≤ L)) = byL (bD B) L := by
      funext e
      simp [byL]
    rw [this]
    exact hH.1
  rw [e] at h2
  exact ⟨σ', h2.1, h2.2.1, h1⟩
