/-! QUESTIONS: what is held, what is controlled -/
def QQ {α : Type} (B : Bk) (σ : Sg) (F : Option (α × Sg)) (M : Sg → Option (α × Sg)) : Prop := ∃ r σ1 σ2, F = some (r, σ1) ∧ M σ1 = some (r, σ2) ∧ kpC σ σ1 ∧ cacheOK σ1 B ∧ kpM σ1 σ2
theorem QQ.same {α : Type} {B : Bk} {σ : Sg} {F : Option (α × Sg)} {M : Sg → Option (α × Sg)} (hc : cacheOK σ B) {r : α} (h1 : F = some (r, σ)) (h2 : M σ = some (r, σ)) : QQ B σ F M := ⟨r, σ, σ, h1, h2, kpC.rf, hc, kpM.rf⟩
theorem has9 : ∀ s, s < 512 → ∀ k, k < 10 → f_X6_has (nI s) (nI k) = b2i (s.testBit k) := by decide +kernel
theorem b2i_as (b : Bool) : f_X6_asNumber (b2i b) = b2i b := by cases b <;> rfl
theorem ne_of_in {x : Int32} {k : Nat} (hk : k < 2000) (h : f_X7_in x 0 (nI k) = 0) {m : Nat} (hm : m ≤ k) : ¬ x = nI m := fun q => by
  rw [in_z hk hm q] at h
  exact absurd h (by decide)
theorem n10 : ¬ (1 : Int32) = 0 := by decide
theorem in_c (x : Int32) (k : Nat) (hk : k < 2000) {p q : Int32} (hp : p = f_X7_in x 0 (nI k)) (hq : q = f_X7_in x 0 (nI k)) : (p = 0 ∧ q = 0 ∧ ∀ m, m ≤ k → ¬ x = nI m) ∨ (¬ p = 0 ∧ ¬ q = 0 ∧ ∃ m, m < k + 1 ∧ x = nI m) := by
  subst hp
  subst hq
  rcases in_0 (x := x) hk with h | ⟨h, m, hm, e⟩
  · exact Or.inl ⟨h, h, fun m hm => ne_of_in hk h hm⟩
  · exact Or.inr ⟨by rw [h]; exact n10, by rw [h]; exact n10, m, by omega, e⟩
theorem firm_c (x : Int32) : (f_X6_isFirm x = 0 ∧ f_X7_isFirm x = 0 ∧ ∀ m, m ≤ 4 → ¬ x = nI m) ∨ (¬ f_X6_isFirm x = 0 ∧ ¬ f_X7_isFirm x = 0 ∧ ∃ m, m < 5 ∧ x = nI m) := in_c x 4 (by omega) (isFirm_in x) rfl
theorem ctl_c (x : Int32) : (f_X6_isController x = 0 ∧ f_X7_isOne x = 0 ∧ ∀ m, m ≤ 8 → ¬ x = nI m) ∨ (¬ f_X6_isController x = 0 ∧ ¬ f_X7_isOne x = 0 ∧ ∃ m, m < 9 ∧ x = nI m) := in_c x 8 (by omega) (isCtl_in x) rfl
theorem hold_c (x : Int32) : (f_X6_isHolder x = 0 ∧ f_X7_in x 0 9 = 0 ∧ ∀ m, m ≤ 9 → ¬ x = nI m) ∨ (¬ f_X6_isHolder x = 0 ∧ ¬ f_X7_in x 0 9 = 0 ∧ ∃ m, m < 10 ∧ x = nI m) := in_c x 9 (by omega) (isHolder_in x) rfl
theorem pers_c (x : Int32) : (f_X6_isPerson x = 0 ∧ f_X7_in x 0 3 = 0 ∧ ∀ m, m ≤ 3 → ¬ x = nI m) ∨ (¬ f_X6_isPerson x = 0 ∧ ¬ f_X7_in x 0 3 = 0 ∧ ∃ m, m < 4 ∧ x = nI m) := in_c x 3 (by omega) (isPers_in x) rfl
theorem yn_c (x : Int32) : (f_X6_isYesOrNo x = 0 ∧ f_X7_in x 0 1 = 0 ∧ ∀ m, m ≤ 1 → ¬ x = nI m) ∨ (¬ f_X6_isYesOrNo x = 0 ∧ ¬ f_X7_in x 0 1 = 0 ∧ ∃ m, m < 2 ∧ x = nI m) := in_c x 1 (by omega) (isYN_in x) rfl
theorem day_c (x : Int32) : (f_X6_isDay x = 0 ∧ f_X7_in x 0 999 = 0 ∧ ∀ m, m ≤ 999 → ¬ x = nI m) ∨ (¬ f_X6_isDay x = 0 ∧ ¬ f_X7_in x 0 999 = 0 ∧ ∃ m, m < 1000 ∧ x = nI m) := in_c x 999 (by omega) (isDay_in x) rfl
theorem q_holds {B : Bk} {σ : Sg} (hB : okB B) (hr : repB 1 σ B) (hM : repMB σ B) (hc : cacheOK σ B) (x1 x2 x3 : Int32) : QQ B σ (f_X6_holds x1 x2 x3 σ) (f_X7_holds x1 x2 x3) := by
  rcases hold_c x1 with ⟨u1, v1, _⟩ | ⟨u1, v1, a, ha, rfl⟩
  · refine QQ.same hc (r := -1) ?_ ?_
    · unfold f_X6_holds; rw [if_pos u1]
    · unfold f_X7_holds; rw [if_pos v1]
  rcases firm_c x2 with ⟨u2, v2, _⟩ | ⟨u2, v2, f, hf, rfl⟩
  · refine QQ.same hc (r := -1) ?_ ?_
    · unfold f_X6_holds; rw [if_neg u1, if_pos u2]
    · unfold f_X7_holds; rw [if_neg v1, if_pos v2]
  obtain ⟨s1, H, e1, e2, e3, e4, e5, e6⟩ := bringQ hB hr hc
  have hL : bL B < 2000 := by have := hB.2.2.2.1; omega
  have hM1 := hM.kc e4
  rcases in_c x3 2 (by omega) rfl rfl with ⟨v3, _, n3⟩ | ⟨v3, _, k, hk, rfl⟩
  · refine ⟨-2, s1, s1, ?_, ?_, e4, e5, kpM.rf⟩
    · unfold f_X6_holds
      rw [if_neg u1, if_neg u2, e1, Option.bind_some, if_neg (show ¬ x3 = 0 from n3 0 (by omega)), if_neg (show ¬ x3 = 1 from n3 1 (by omega)), if_neg (show ¬ x3 = 2 from n3 2 (by omega))]
    · unfold f_X7_holds
      rw [if_neg v1, if_neg v2, if_pos (show f_X7_in x3 0 2 = 0 from v3)]
  · obtain ⟨s2, g1, g2, g3, g4⟩ := layQ hB hL hM1 e2
    have hm := g2.1 f (by omega) a (by omega)
    have hs := e3.1.1 f (by omega) a (by omega)
    have hs1 : s1.1 (27 + f) a = nI (H.1 f a) := hs.1
    have hs2 : s1.1 (33 + f) a = nI (H.2.1 f a) := hs.2
    obtain ⟨mm, w1, w2, w3⟩ := e3.1.2 f (by omega)
    have w2' : s1.1 38 f = nI mm := w2
    have hbit : mm.testBit a = H.2.2 f a := by
      by_cases c : a < 9
      · exact w3 a c
      · rw [show a = 9 by omega, (e2.2 f (by omega)).2.2]
        exact Nat.testBit_lt_two_pow (Nat.lt_of_lt_of_le w1 (by decide))
    have hh := has9 mm w1 a (by omega)
    rw [hbit] at hh
    rcases (show k = 0 ∨ k = 1 ∨ k = 2 by omega) with rfl | rfl | rfl
    · refine ⟨nI (H.1 f a), s1, s2, ?_, ?_, e4, e5, g4⟩
      · unfold f_X6_holds
        rw [if_neg u1, if_neg u2, e1, Option.bind_some]
        simp (disch := omega) only [li0, li1, li2, li3, li4, li5, li6, li7, li8, li9, li10, li15, li31, li32, li40, li41, li49, li50, li99, li100, li999, c_le, c_lt, c_eq, c_tn, c_inb, c_add, show f < 5 by omega, show a < 10 by omega, hs1, if_true, if_false, ite_true, ite_false, ↓reduceIte, Nat.le_refl, Nat.lt_irrefl, Nat.reduceAdd, Nat.reduceLeDiff, Nat.reduceLT, Nat.reduceEqDiff, Bool.false_eq_true]
      · unfold f_X7_holds
        rw [if_neg v1, if_neg v2, if_neg (show ¬ f_X7_in (nI 0) 0 2 = 0 from v3), hM1.2.1, g1, Option.bind_some]
        simp (disch := omega) only [li0, li1, li2, li3, li4, li5, li6, li7, li8, li9, li10, li15, li31, li32, li40, li41, li49, li50, li99, li100, li999, c_le, c_lt, c_eq, c_tn, c_inb, c_add, at_ok, show 5 * a + f < 50 by omega, hm.1, if_true, if_false, ite_true, ite_false, ↓reduceIte, Nat.le_refl, Nat.lt_irrefl, Nat.reduceAdd, Nat.reduceLeDiff, Nat.reduceLT, Nat.reduceEqDiff, Bool.false_eq_true]
    · refine ⟨nI (H.2.1 f a), s1, s2, ?_, ?_, e4, e5, g4⟩
      · unfold f_X6_holds
        rw [if_neg u1, if_neg u2, e1, Option.bind_some]
        simp (disch := omega) only [li0, li1, li2, li3, li4, li5, li6, li7, li8, li9, li10, li15, li31, li32, li40, li41, li49, li50, li99, li100, li999, c_le, c_lt, c_eq, c_tn, c_inb, c_add, show f < 5 by omega, show a < 10 by omega, hs2, Nat.one_ne_zero, if_true, if_false, ite_true, ite_false, ↓reduceIte, Nat.le_refl, Nat.lt_irrefl, Nat.reduceAdd, Nat.reduceLeDiff, Nat.reduceLT, Nat.reduceEqDiff, Bool.false_eq_true]
      · unfold f_X7_holds
        rw [if_neg v1, if_neg v2, if_neg (show ¬ f_X7_in (nI 1) 0 2 = 0 from v3), hM1.2.1, g1, Option.bind_some]
        simp (disch := omega) only [li0, li1, li2, li3, li4, li5, li6, li7, li8, li9, li10, li15, li31, li32, li40, li41, li49, li50, li99, li100, li999, c_le, c_lt, c_eq, c_tn, c_inb, c_add, at_ok, show 5 * a + f < 50 by omega, hm.2.1, Nat.one_ne_zero, if_true, if_false, ite_true, ite_false, ↓reduceIte, Nat.le_refl, Nat.lt_irrefl, Nat.reduceAdd, Nat.reduceLeDiff, Nat.reduceLT, Nat.reduceEqDiff, Bool.false_eq_true]
    · refine ⟨b2i (H.2.2 f a), s1, s2, ?_, ?_, e4, e5, g4⟩
      · unfold f_X6_holds
        rw [if_neg u1, if_neg u2, e1, Option.bind_some]
        simp (disch := omega) only [li0, li1, li2, li3, li4, li5, li6, li7, li8, li9, li10, li15, li31, li32, li40, li41, li49, li50, li99, li100, li999, c_le, c_lt, c_eq, c_tn, c_inb, c_add, show f < 5 by omega, w2', hh, b2i_as, if_true, if_false, ite_true, ite_false, ↓reduceIte, Nat.le_refl, Nat.lt_irrefl, Nat.reduceAdd, Nat.reduceLeDiff, Nat.reduceLT, Nat.reduceEqDiff, Bool.false_eq_true]
      · unfold f_X7_holds
        rw [if_neg v1, if_neg v2, if_neg (show ¬ f_X7_in (nI 2) 0 2 = 0 from v3), hM1.2.1, g1, Option.bind_some]
        cases q : H.2.2 f a with
        | true =>
          rw [q] at hm
          simp (disch := omega) only [li0, li1, li2, li3, li4, li5, li6, li7, li8, li9, li10, li15, li31, li32, li40, li41, li49, li50, li99, li100, li999, c_le, c_lt, c_eq, c_tn, c_inb, c_add, at_ok, show 5 * a + f < 50 by omega, hm.2.2, b2i_t, Nat.one_ne_zero, if_true, if_false, ite_true, ite_false, ↓reduceIte, Nat.le_refl, Nat.lt_irrefl, Nat.reduceAdd, Nat.reduceLeDiff, Nat.reduceLT, Nat.reduceEqDiff, Bool.false_eq_true]
        | false =>
          rw [q] at hm
          simp (disch := omega) only [li0, li1, li2, li3, li4, li5, li6, li7, li8, li9, li10, li15, li31, li32, li40, li41, li49, li50, li99, li100, li999, c_le, c_lt, c_eq, c_tn, c_inb, c_add, at_ok, show 5 * a + f < 50 by omega, hm.2.2, b2i_f, if_true, if_false, ite_true, ite_false, ↓reduceIte, Nat.le_refl, Nat.lt_irrefl, Nat.reduceAdd, Nat.reduceLeDiff, Nat.reduceLT, Nat.reduceEqDiff, Bool.false_eq_true]
theorem q_controls {B : Bk} {σ : Sg} (hB : okB B) (hr : repB 1 σ B) (hM : repMB σ B) (hc : cacheOK σ B) (x1 : Int32) : QQ B σ (f_X6_controls x1 σ) (f_X7_controls x1) := by
  rcases ctl_c x1 with ⟨u1, v1, _⟩ | ⟨u1, v1, a, ha, rfl⟩
  · refine QQ.same hc (r := -1) ?_ ?_
    · unfold f_X6_controls; rw [if_pos u1]
    · unfold f_X7_controls; rw [if_pos v1]
  obtain ⟨s1, H, e1, e2, e3, e4, e5, e6⟩ := bringQ hB hr hc
  have hL : bL B < 2000 := by have := hB.2.2.2.1; omega
  have hM1 := hM.kc e4
  obtain ⟨b1, b2, b3, b4, b5, b6, b7, b8⟩ := id hB
  obtain ⟨s2, g1, g2, g3, g4⟩ := layQ hB hL hM1 e2
  obtain ⟨s3, k1, k2, k3, k4⟩ := ctlM_ok (x := a) g2 e2.2 (by omega) (by omega) (by omega)
  have hrow : s1.1 54 a = nI (ctl H (bH B) (bM B) a 5) := (e3.2.1 a (by omega)).1
  refine ⟨nI (ctl H (bH B) (bM B) a 5), s1, s3, ?_, ?_, e4, e5, g4.tr (kpM.off k4)⟩
  · unfold f_X6_controls
    rw [if_neg u1, e1, Option.bind_some]
    simp (disch := omega) only [li0, li1, li2, li3, li4, li5, li6, li7, li8, li9, li10, li15, li31, li32, li40, li41, li49, li50, li99, li100, li999, c_le, c_lt, c_eq, c_tn, c_inb, c_add, show a < 9 by omega, hrow, if_true, if_false, ite_true, ite_false, ↓reduceIte, Nat.le_refl, Nat.lt_irrefl, Nat.reduceAdd, Nat.reduceLeDiff, Nat.reduceLT, Nat.reduceEqDiff, Bool.false_eq_true]
  · unfold f_X7_controls
    rw [if_neg v1, hM1.2.1, g1, Option.bind_some]
    show Option.bind (f_X7_control (nI a) s2) _ = _
    rw [k1]
    rfl
theorem known_c {a f : Int32} (v1 : ¬ f_X7_isOne a = 0) (v2 : ¬ f_X7_isFirm f = 0) : ¬ f_X7_areKnown a f = 0 := by
  unfold f_X7_areKnown
  rw [if_neg v1, if_neg v2]
  exact n10
theorem q_how {B : Bk} {σ : Sg} (hB : okB B) (hr : repB 1 σ B) (hM : repMB σ B) (hc : cacheOK σ B) (x1 x2 x3 : Int32) : QQ B σ (f_X6_how x1 x2 x3 σ) (f_X7_how x1 x2 x3) := by
  rcases ctl_c x1 with ⟨u1, v1, _⟩ | ⟨u1, v1, a, ha, rfl⟩
  · refine QQ.same hc (r := -1) ?_ ?_
    · unfold f_X6_how; rw [if_pos u1]
    · unfold f_X7_how; rw [if_pos (by unfold f_X7_areKnown; rw [if_pos v1])]
  rcases firm_c x2 with ⟨u2, v2, _⟩ | ⟨u2, v2, f, hf, rfl⟩
  · refine QQ.same hc (r := -1) ?_ ?_
    · unfold f_X6_how; rw [if_neg u1, if_pos u2]
    · unfold f_X7_how; rw [if_pos (by unfold f_X7_areKnown; rw [if_neg v1, if_pos v2])]
  have hkn := known_c v1 v2
  obtain ⟨s1, H, e1, e2, e3, e4, e5, e6⟩ := bringQ hB hr hc
  have hL : bL B < 2000 := by have := hB.2.2.2.1; omega
  have hM1 := hM.kc e4
  rcases in_c x3 4 (by omega) rfl rfl with ⟨v3, _, n3⟩ | ⟨v3, _, k, hk, rfl⟩
  · refine ⟨-2, s1, s1, ?_, ?_, e4, e5, kpM.rf⟩
    · unfold f_X6_how
      rw [if_neg u1, if_neg u2, e1, Option.bind_some, if_neg (show ¬ x3 = 0 from n3 0 (by omega)), if_neg (show ¬ x3 = 1 from n3 1 (by omega)), if_neg (show ¬ x3 = 2 from n3 2 (by omega)), if_neg (show ¬ x3 = 3 from n3 3 (by omega)), if_neg (show ¬ x3 = 4 from n3 4 (by omega))]
    · unfold f_X7_how
      rw [if_neg hkn, if_pos (show f_X7_in x3 0 4 = 0 from v3)]
  · obtain ⟨b1, b2, b3, b4, b5, b6, b7, b8⟩ := id hB
    obtain ⟨s2, g1, g2, g3, g4⟩ := layQ hB hL hM1 e2
    obtain ⟨s3, k1, k2, k3, k4⟩ := ctlM_ok (x := a) g2 e2.2 (by omega) (by omega) (by omega)
    have g5 : repR s3 H (bH B) (bM B) := g2.kept (fun j w1 w2 => (k4.1 j (by omega)).1)
    have hs := ctl_lt H (bH B) (bM B) a 5
    have kb := blockM_ok (x := a) (f := f) (s := ctl H (bH B) (bM B) a 5) g5.1 hf ha hs
    have cb := block_ok (x := a) (f := f) (s := ctl H (bH B) (bM B) a 5) e3.1 e2.2 hf ha hs
    have hrow := e3.2.1 a ha
    have hrow1 : s1.1 54 a = nI (ctl H (bH B) (bM B) a 5) := hrow.1
    have hrow3 : s1.1 (56 + a) f = rd H (bH B) (bM B) a f 5 := hrow.2.2 f hf
    have hw := has_ok _ hs f hf
    have hwM := hasM_ok _ hs f hf
    have hbit := ctl_bit (H := H) (hf := bH B) (dm := bM B) (x := a) hf 5
    have hbd := blk_bd e2.2 (x := a) (s := ctl H (bH B) (bM B) a 5) (m := 9) hf (by omega)
    have hh9 : s1.1 1 9 = nI (bH B) := e6.2.2.1
    have hh139 : s3.1 139 0 = nI (bH B) := g5.2.1
    have hfin : f_X6_finalBlock (nI a) (nI f) s1 = some (nI (blk H f a (ctl H (bH B) (bM B) a 5) 9)) := by
      unfold f_X6_finalBlock
      simp (disch := omega) only [li0, li1, li2, li3, li4, li5, li6, li7, li8, li9, li10, li15, li31, li32, li40, li41, li49, li50, li99, li100, li999, c_le, c_lt, c_eq, c_tn, c_inb, c_add, ha, hrow1, al_ok a ha _ hs, cb, Option.bind_some, if_true, if_false, ite_true, ite_false, ↓reduceIte, Nat.le_refl, Nat.lt_irrefl, Nat.reduceAdd, Nat.reduceLeDiff, Nat.reduceLT, Nat.reduceEqDiff, Bool.false_eq_true]
    have hkk := g4.tr (kpM.off k4)
    have pre : ∀ (Z : Int32 × Sg → Option (Int32 × Sg)), (f_X7_lay (s1.1 132 7) (-6) s1).bind (fun q3 => (f_X7_control (nI a) q3.2).bind Z) = Z (nI (ctl H (bH B) (bM B) a 5), s3) := fun Z => by
      rw [hM1.2.1, g1, Option.bind_some]
      show (f_X7_control (nI a) s2).bind Z = _
      rw [k1]
      rfl
    rcases (show k = 0 ∨ k = 1 ∨ k = 2 ∨ k = 3 ∨ k = 4 by omega) with rfl | rfl | rfl | rfl | rfl
    · by_cases c : rdN H (bH B) (bM B) a f 5 = 0
      · have hz : (ctl H (bH B) (bM B) a 5).testBit f = false := by rw [hbit]; simp [c]
        rw [hz] at hw hwM
        refine ⟨nI 0, s1, s3, ?_, ?_, e4, e5, hkk⟩
        · unfold f_X6_how f_X6_wayOfControl
          rw [if_neg u1, if_neg u2, e1, Option.bind_some]
          simp (disch := omega) only [li0, li1, li2, li3, li4, li5, li6, li7, li8, li9, li10, li15, li31, li32, li40, li41, li49, li50, li99, li100, li999, c_le, c_lt, c_eq, c_tn, c_inb, c_add, ha, hrow1, hw, b2i_f, Option.bind_some, if_true, if_false, ite_true, ite_false, ↓reduceIte, Nat.le_refl, Nat.lt_irrefl, Nat.reduceAdd, Nat.reduceLeDiff, Nat.reduceLT, Nat.reduceEqDiff, Bool.false_eq_true]
        · unfold f_X7_how
          rw [if_neg hkn, if_neg (show ¬ f_X7_in (nI 0) 0 4 = 0 from v3), pre]
          simp (disch := omega) only [li0, li1, li2, li3, li4, li5, li6, li7, li8, li9, li10, li15, li31, li32, li40, li41, li49, li50, li99, li100, li999, c_le, c_lt, c_eq, c_tn, c_inb, c_add, kb, hwM, b2i_f, Option.bind_some, if_true, if_false, ite_true, ite_false, ↓reduceIte, Nat.le_refl, Nat.lt_irrefl, Nat.reduceAdd, Nat.reduceLeDiff, Nat.reduceLT, Nat.reduceEqDiff, Bool.false_eq_true]
      · have hz : (ctl H (bH B) (bM B) a 5).testBit f = true := by rw [hbit]; simp [c]
        rw [hz] at hw hwM
        refine ⟨if blk H f a (ctl H (bH B) (bM B) a 5) 9 ≤ bH B then nI 2 else nI 1, s1, s3, ?_, ?_, e4, e5, hkk⟩
        · unfold f_X6_how f_X6_wayOfControl
          rw [if_neg u1, if_neg u2, e1, Option.bind_some]
          by_cases cc : blk H f a (ctl H (bH B) (bM B) a 5) 9 ≤ bH B
          · simp (disch := omega) only [li0, li1, li2, li3, li4, li5, li6, li7, li8, li9, li10, li15, li31, li32, li40, li41, li49, li50, li99, li100, li999, c_le, c_lt, c_eq, c_tn, c_inb, c_add, ha, hrow1, hw, b2i_t, hfin, hh9, cc, Option.bind_some, Nat.one_ne_zero, if_true, if_false, ite_true, ite_false, ↓reduceIte, Nat.le_refl, Nat.lt_irrefl, Nat.reduceAdd, Nat.reduceLeDiff, Nat.reduceLT, Nat.reduceEqDiff, Bool.false_eq_true]
          · simp (disch := omega) only [li0, li1, li2, li3, li4, li5, li6, li7, li8, li9, li10, li15, li31, li32, li40, li41, li49, li50, li99, li100, li999, c_le, c_lt, c_eq, c_tn, c_inb, c_add, ha, hrow1, hw, b2i_t, hfin, hh9, cc, Option.bind_some, Nat.one_ne_zero, if_true, if_false, ite_true, ite_false, ↓reduceIte, Nat.le_refl, Nat.lt_irrefl, Nat.reduceAdd, Nat.reduceLeDiff, Nat.reduceLT, Nat.reduceEqDiff, Bool.false_eq_true]
        · unfold f_X7_how
          rw [if_neg hkn, if_neg (show ¬ f_X7_in (nI 0) 0 4 = 0 from v3), pre]
          by_cases cc : blk H f a (ctl H (bH B) (bM B) a 5) 9 ≤ bH B
          · simp (disch := omega) only [li0, li1, li2, li3, li4, li5, li6, li7, li8, li9, li10, li15, li31, li32, li40, li41, li49, li50, li99, li100, li999, c_le, c_lt, c_eq, c_tn, c_inb, c_add, kb, hwM, b2i_t, hh139, cc, Option.bind_some, Nat.one_ne_zero, show (0 : Nat) < 3 by decide, if_true, if_false, ite_true, ite_false, ↓reduceIte, Nat.le_refl, Nat.lt_irrefl, Nat.reduceAdd, Nat.reduceLeDiff, Nat.reduceLT, Nat.reduceEqDiff, Bool.false_eq_true]
          · simp (disch := omega) only [li0, li1, li2, li3, li4, li5, li6, li7, li8, li9, li10, li15, li31, li32, li40, li41, li49, li50, li99, li100, li999, c_le, c_lt, c_eq, c_tn, c_inb, c_add, kb, hwM, b2i_t, hh139, cc, Option.bind_some, Nat.one_ne_zero, show (0 : Nat) < 3 by decide, if_true, if_false, ite_true, ite_false, ↓reduceIte, Nat.le_refl, Nat.lt_irrefl, Nat.reduceAdd, Nat.reduceLeDiff, Nat.reduceLT, Nat.reduceEqDiff, Bool.false_eq_true]
    · refine ⟨rd H (bH B) (bM B) a f 5, s1, s3, ?_, ?_, e4, e5, hkk⟩
      · unfold f_X6_how
        rw [if_neg u1, if_neg u2, e1, Option.bind_some]
        simp (disch := omega) only [li0, li1, li2, li3, li4, li5, li6, li7, li8, li9, li10, li15, li31, li32, li40, li41, li49, li50, li99, li100, li999, c_le, c_lt, c_eq, c_tn, c_inb, c_add, ha, hf, hrow3, Nat.one_ne_zero, if_true, if_false, ite_true, ite_false, ↓reduceIte, Nat.le_refl, Nat.lt_irrefl, Nat.reduceAdd, Nat.reduceLeDiff, Nat.reduceLT, Nat.reduceEqDiff, Bool.false_eq_true]
      · unfold f_X7_how
        rw [if_neg hkn, if_neg (show ¬ f_X7_in (nI 1) 0 4 = 0 from v3), pre]
        simp (disch := omega) only [li0, li1, li2, li3, li4, li5, li6, li7, li8, li9, li10, li15, li31, li32, li40, li41, li49, li50, li99, li100, li999, c_le, c_lt, c_eq, c_tn, c_inb, c_add, kb, hf, k2 f hf, Option.bind_some, Nat.one_ne_zero, if_true, if_false, ite_true, ite_false, ↓reduceIte, Nat.le_refl, Nat.lt_irrefl, Nat.reduceAdd, Nat.reduceLeDiff, Nat.reduceLT, Nat.reduceEqDiff, Bool.false_eq_true]
    · refine ⟨nI (blk H f a (ctl H (bH B) (bM B) a 5) 9), s1, s3, ?_, ?_, e4, e5, hkk⟩
      · unfold f_X6_how
        rw [if_neg u1, if_neg u2, e1, Option.bind_some]
        simp (disch := omega) only [li0, li1, li2, li3, li4, li5, li6, li7, li8, li9, li10, li15, li31, li32, li40, li41, li49, li50, li99, li100, li999, c_le, c_lt, c_eq, c_tn, c_inb, c_add, hfin, Option.bind_some, if_true, if_false, ite_true, ite_false, ↓reduceIte, Nat.le_refl, Nat.lt_irrefl, Nat.reduceAdd, Nat.reduceLeDiff, Nat.reduceLT, Nat.reduceEqDiff, Bool.false_eq_true]
      · unfold f_X7_how
        rw [if_neg hkn, if_neg (show ¬ f_X7_in (nI 2) 0 4 = 0 from v3), pre]
        simp (disch := omega) only [li0, li1, li2, li3, li4, li5, li6, li7, li8, li9, li10, li15, li31, li32, li40, li41, li49, li50, li99, li100, li999, c_le, c_lt, c_eq, c_tn, c_inb, c_add, kb, Option.bind_some, if_true, if_false, ite_true, ite_false, ↓reduceIte, Nat.le_refl, Nat.lt_irrefl, Nat.reduceAdd, Nat.reduceLeDiff, Nat.reduceLT, Nat.reduceEqDiff, Bool.false_eq_true]
    · have wc := wit_ok (c := 53) (h := 25) (b := 1) ha hf hrow e3.1 e2.2 e6.2.2.1 e6.2.2.2.1 (by omega) (by omega)
      by_cases c : rdN H (bH B) (bM B) a f 5 = 0
      · have hz : (ctl H (bH B) (bM B) a 5).testBit f = false := by rw [hbit]; simp [c]
        rw [hz] at hwM
        rw [if_pos c] at wc
        refine ⟨-6, s1, s3, ?_, ?_, e4, e5, hkk⟩
        · unfold f_X6_how
          rw [if_neg u1, if_neg u2, e1, Option.bind_some]
          simp (disch := omega) only [li0, li1, li2, li3, li4, li5, li6, li7, li8, li9, li10, li15, li31, li32, li40, li41, li49, li50, li99, li100, li999, c_le, c_lt, c_eq, c_tn, c_inb, c_add, wc, Option.bind_some, if_true, if_false, ite_true, ite_false, ↓reduceIte, Nat.le_refl, Nat.lt_irrefl, Nat.reduceAdd, Nat.reduceLeDiff, Nat.reduceLT, Nat.reduceEqDiff, Bool.false_eq_true]
        · unfold f_X7_how
          rw [if_neg hkn, if_neg (show ¬ f_X7_in (nI 3) 0 4 = 0 from v3), pre]
          simp (disch := omega) only [li0, li1, li2, li3, li4, li5, li6, li7, li8, li9, li10, li15, li31, li32, li40, li41, li49, li50, li99, li100, li999, c_le, c_lt, c_eq, c_tn, c_inb, c_add, kb, hwM, b2i_f, Option.bind_some, if_true, if_false, ite_true, ite_false, ↓reduceIte, Nat.le_refl, Nat.lt_irrefl, Nat.reduceAdd, Nat.reduceLeDiff, Nat.reduceLT, Nat.reduceEqDiff, Bool.false_eq_true]
      · have hz : (ctl H (bH B) (bM B) a 5).testBit f = true := by rw [hbit]; simp [c]
        rw [hz] at hwM
        rw [if_neg c] at wc
        have wm := witM_ok (x := a) (f := f) ha hf k2 g5 e2.2 (by omega) (by omega) c
        refine ⟨nI (wit H (bH B) (bM B) a f), s1, s3, ?_, ?_, e4, e5, hkk⟩
        · unfold f_X6_how
          rw [if_neg u1, if_neg u2, e1, Option.bind_some]
          simp (disch := omega) only [li0, li1, li2, li3, li4, li5, li6, li7, li8, li9, li10, li15, li31, li32, li40, li41, li49, li50, li99, li100, li999, c_le, c_lt, c_eq, c_tn, c_inb, c_add, wc, Option.bind_some, if_true, if_false, ite_true, ite_false, ↓reduceIte, Nat.le_refl, Nat.lt_irrefl, Nat.reduceAdd, Nat.reduceLeDiff, Nat.reduceLT, Nat.reduceEqDiff, Bool.false_eq_true]
        · unfold f_X7_how
          rw [if_neg hkn, if_neg (show ¬ f_X7_in (nI 3) 0 4 = 0 from v3), pre]
          simp (disch := omega) only [li0, li1, li2, li3, li4, li5, li6, li7, li8, li9, li10, li15, li31, li32, li40, li41, li49, li50, li99, li100, li999, c_le, c_lt, c_eq, c_tn, c_inb, c_add, kb, hwM, b2i_t, wm, Option.bind_some, Nat.one_ne_zero, if_true, if_false, ite_true, ite_false, ↓reduceIte, Nat.le_refl, Nat.lt_irrefl, Nat.reduceAdd, Nat.reduceLeDiff, Nat.reduceLT, Nat.reduceEqDiff, Bool.false_eq_true]
    · have wc := chain_ok (c := 53) (h := 25) (b := 1) ha hf hrow e3.1 e2.2 e6.2.2.1 e6.2.2.2.1 (by omega) (by omega)
      by_cases c : rdN H (bH B) (bM B) a f 5 = 0
      · have hz : (ctl H (bH B) (bM B) a 5).testBit f = false := by rw [hbit]; simp [c]
        rw [hz] at hwM
        rw [if_pos c] at wc
        refine ⟨-6, s1, s3, ?_, ?_, e4, e5, hkk⟩
        · unfold f_X6_how
          rw [if_neg u1, if_neg u2, e1, Option.bind_some]
          simp (disch := omega) only [li0, li1, li2, li3, li4, li5, li6, li7, li8, li9, li10, li15, li31, li32, li40, li41, li49, li50, li99, li100, li999, c_le, c_lt, c_eq, c_tn, c_inb, c_add, wc, Option.bind_some, if_true, if_false, ite_true, ite_false, ↓reduceIte, Nat.le_refl, Nat.lt_irrefl, Nat.reduceAdd, Nat.reduceLeDiff, Nat.reduceLT, Nat.reduceEqDiff, Bool.false_eq_true]
        · unfold f_X7_how
          rw [if_neg hkn, if_neg (show ¬ f_X7_in (nI 4) 0 4 = 0 from v3), pre]
          simp (disch := omega) only [li0, li1, li2, li3, li4, li5, li6, li7, li8, li9, li10, li15, li31, li32, li40, li41, li49, li50, li99, li100, li999, c_le, c_lt, c_eq, c_tn, c_inb, c_add, kb, hwM, b2i_f, Option.bind_some, if_true, if_false, ite_true, ite_false, ↓reduceIte, Nat.le_refl, Nat.lt_irrefl, Nat.reduceAdd, Nat.reduceLeDiff, Nat.reduceLT, Nat.reduceEqDiff, Bool.false_eq_true]
      · have hz : (ctl H (bH B) (bM B) a 5).testBit f = true := by rw [hbit]; simp [c]
        rw [hz] at hwM
        rw [if_neg c] at wc
        have wm := chainM_ok (x := a) (f := f) ha hf k2 g5 e2.2 (by omega) (by omega) c
        refine ⟨nI (chn H (bH B) (bM B) a f), s1, s3, ?_, ?_, e4, e5, hkk⟩
        · unfold f_X6_how
          rw [if_neg u1, if_neg u2, e1, Option.bind_some]
          simp (disch := omega) only [li0, li1, li2, li3, li4, li5, li6, li7, li8, li9, li10, li15, li31, li32, li40, li41, li49, li50, li99, li100, li999, c_le, c_lt, c_eq, c_tn, c_inb, c_add, wc, Option.bind_some, if_true, if_false, ite_true, ite_false, ↓reduceIte, Nat.le_refl, Nat.lt_irrefl, Nat.reduceAdd, Nat.reduceLeDiff, Nat.reduceLT, Nat.reduceEqDiff, Bool.false_eq_true]
        · unfold f_X7_how
          rw [if_neg hkn, if_neg (show ¬ f_X7_in (nI 4) 0 4 = 0 from v3), pre]
          simp (disch := omega) only [li0, li1, li2, li3, li4, li5, li6, li7, li8, li9, li10, li15, li31, li32, li40, li41, li49, li50, li99, li100, li999, c_le, c_lt, c_eq, c_tn, c_inb, c_add, kb, hwM, b2i_t, wm, Option.bind_some, Nat.one_ne_zero, if_true, if_false, ite_true, ite_false, ↓reduceIte, Nat.le_refl, Nat.lt_irrefl, Nat.reduceAdd, Nat.reduceLeDiff, Nat.reduceLT, Nat.reduceEqDiff, Bool.false_eq_true]
