/-! IMAGES: the reference writes one down, and goes back to it -/
def imgD (σ : Sg) (k d : Nat) (x : Dl) : Prop := σ.1 149 (245 * k + 6 * d) = nI (dDay x) ∧ σ.1 149 (245 * k + 6 * d + 1) = nI (dFirm x) ∧ σ.1 149 (245 * k + 6 * d + 2) = nI (dKind x) ∧ σ.1 149 (245 * k + 6 * d + 3) = nI (dFrom x) ∧ σ.1 149 (245 * k + 6 * d + 4) = nI (dTo x) ∧ σ.1 149 (245 * k + 6 * d + 5) = nI (dAmt x)
def imgM (σ : Sg) (k : Nat) (I : Bk) : Prop := (∀ d, d < bN I → imgD σ k d (bD I d)) ∧ σ.1 149 (245 * k + 240) = nI (bN I) ∧ σ.1 149 (245 * k + 241) = nI (bL I) ∧ σ.1 149 (245 * k + 242) = nI (bH I) ∧ σ.1 149 (245 * k + 243) = nI (bM I) ∧ σ.1 149 (245 * k + 244) = nI (bW I)
theorem li490 : (490 : Nat) = 490 := rfl
theorem img20 {σ : Sg} {n k : Nat} {ds : Nat → Dl} {y : Int32} (hk : k < 2) (hn : n ≤ 40) (hr : repMd σ n ds) : ∃ σ', L_X7_image_20 y (nI (245 * k)) FU 0 σ = some (nI n, σ') ∧ (∀ d, d < n → imgD σ' k d (ds d)) ∧ (∀ i, (i < 245 * k ∨ 245 * k + 245 ≤ i) → σ'.1 149 i = σ.1 149 i) ∧ fr (fun j => j = 149) σ σ' := by
  refine ex_use (loop_inv (fun m d (a : Sg) => L_X7_image_20 y (nI (245 * k)) m (nI d) a) (fun d a => (∀ e, e < d → imgD a k e (ds e)) ∧ (∀ i, (i < 245 * k ∨ 245 * k + 245 ≤ i) → a.1 149 i = σ.1 149 i) ∧ fr (fun j => j = 149) σ a) n (fun a => (nI n, a)) (by omega) (fun d hd m a ha => ?_) (fun m a ha => ?_) σ ⟨fun e he => absurd he (by omega), fun _ _ => rfl, fr.rf⟩) (fun σ' h1 h2 => ⟨σ', h2, h1⟩)
  · obtain ⟨i1, i2, i3⟩ := ha
    have w : ∀ j, j ≠ 149 → a.1 j = σ.1 j := fun j hj => (i3 j hj).1
    obtain ⟨m1, m2, m3, m4, m5, m6⟩ := hr.2 d hd
    rw [← w 133 (by omega)] at m1
    rw [← w 134 (by omega)] at m2
    rw [← w 135 (by omega)] at m3
    rw [← w 136 (by omega)] at m4
    rw [← w 137 (by omega)] at m5
    rw [← w 138 (by omega)] at m6
    have hs : a.1 132 6 = nI n := by rw [w 132 (by omega)]; exact hr.1
    obtain ⟨T, hT⟩ : ∃ T, T = upd (upd (upd (upd (upd (upd (a.1 149) (245 * k + 6 * d) (nI (dDay (ds d)))) (245 * k + 6 * d + 1) (nI (dFirm (ds d)))) (245 * k + 6 * d + 2) (nI (dKind (ds d)))) (245 * k + 6 * d + 3) (nI (dFrom (ds d)))) (245 * k + 6 * d + 4) (nI (dTo (ds d)))) (245 * k + 6 * d + 5) (nI (dAmt (ds d))) := ⟨_, rfl⟩
    obtain ⟨τ, hτ⟩ : ∃ τ, τ = setR (setR (setR (setR (setR (setR a 149 (upd (a.1 149) (245 * k + 6 * d) (nI (dDay (ds d))))) 149 (upd (upd (a.1 149) (245 * k + 6 * d) (nI (dDay (ds d)))) (245 * k + 6 * d + 1) (nI (dFirm (ds d))))) 149 (upd (upd (upd (a.1 149) (245 * k + 6 * d) (nI (dDay (ds d)))) (245 * k + 6 * d + 1) (nI (dFirm (ds d)))) (245 * k + 6 * d + 2) (nI (dKind (ds d))))) 149 (upd (upd (upd (upd (a.1 149) (245 * k + 6 * d) (nI (dDay (ds d)))) (245 * k + 6 * d + 1) (nI (dFirm (ds d)))) (245 * k + 6 * d + 2) (nI (dKind (ds d)))) (245 * k + 6 * d + 3) (nI (dFrom (ds d))))) 149 (upd (upd (upd (upd (upd (a.1 149) (245 * k + 6 * d) (nI (dDay (ds d)))) (245 * k + 6 * d + 1) (nI (dFirm (ds d)))) (245 * k + 6 * d + 2) (nI (dKind (ds d)))) (245 * k + 6 * d + 3) (nI (dFrom (ds d)))) (245 * k + 6 * d + 4) (nI (dTo (ds d))))) 149 T := ⟨_, rfl⟩
    have t149 : τ.1 149 = T := by rw [hτ, sR_s]
    refine ⟨τ, ?_, fun e he => ?_, fun i hi => ?_, ?_⟩
    · rw [L_X7_image_20]
      simp (disch := omega) only [li0, li1, li2, li3, li4, li5, li6, li7, li8, li9, li10, li15, li31, li32, li40, li41, li49, li50, li99, li100, li999, c_le, c_lt, c_eq, c_tn, c_inb, c_add, hs, show ¬ n ≤ d by omega, show d < 41 by omega, c_mul, show 245 * k + 6 * d < 490 by omega, show 245 * k + 6 * d + 1 < 490 by omega, show 245 * k + 6 * d + 2 < 490 by omega, show 245 * k + 6 * d + 3 < 490 by omega, show 245 * k + 6 * d + 4 < 490 by omega, show 245 * k + 6 * d + 5 < 490 by omega, jn, sR_s, sR_n, m1, m2, m3, m4, m5, m6, if_true, if_false, ite_true, ite_false, ↓reduceIte, Nat.le_refl, Nat.lt_irrefl, Nat.reduceAdd, Nat.reduceLeDiff, Nat.reduceLT, Nat.reduceEqDiff, Bool.false_eq_true]
      rw [hτ, hT]
    · unfold imgD
      rw [t149, hT]
      by_cases q : e = d
      · subst q
        refine ⟨?_, ?_, ?_, ?_, ?_, ?_⟩ <;> simp (disch := omega) only [sR_s, sR_n, sL_s, sL_n, sR_2, sL_1, up_s, up_n]
      · have := i1 e (by omega)
        unfold imgD at this
        simp (disch := omega) only [up_n]
        exact this
    · rw [t149, hT]
      simp (disch := omega) only [up_n]
      exact i2 i hi
    · rw [hτ]
      exact fr.tr (fr.tr (fr.tr (fr.tr (fr.tr (fr.tr i3 (fr.setR rfl)) (fr.setR rfl)) (fr.setR rfl)) (fr.setR rfl)) (fr.setR rfl)) (fr.setR rfl)
  · rw [L_X7_image_20]
    have hs : a.1 132 6 = nI n := by rw [(ha.2.2 132 (by omega)).1]; exact hr.1
    simp (disch := omega) only [li0, li1, li2, li3, li4, li5, li6, li7, li8, li9, li10, li15, li31, li32, li40, li41, li49, li50, li99, li100, li999, c_le, c_lt, c_eq, c_tn, c_inb, c_add, hs, if_true, if_false, ite_true, ite_false, ↓reduceIte, Nat.le_refl, Nat.lt_irrefl, Nat.reduceAdd, Nat.reduceLeDiff, Nat.reduceLT, Nat.reduceEqDiff, Bool.false_eq_true]
theorem img176 {σ : Sg} {k : Nat} {y : Int32} (hk : k < 2) : ∃ σ', L_X7_image_176 y (nI (245 * k)) FU 0 σ = some (nI 3, σ') ∧ (∀ c, c < 3 → σ'.1 149 (245 * k + 242 + c) = σ.1 139 c) ∧ (∀ i, (i < 245 * k + 242 ∨ 245 * k + 245 ≤ i) → σ'.1 149 i = σ.1 149 i) ∧ fr (fun j => j = 149) σ σ' := by
  refine ex_use (loop_inv (fun m d (a : Sg) => L_X7_image_176 y (nI (245 * k)) m (nI d) a) (fun d a => (∀ c, c < d → a.1 149 (245 * k + 242 + c) = σ.1 139 c) ∧ (∀ i, (i < 245 * k + 242 ∨ 245 * k + 245 ≤ i) → a.1 149 i = σ.1 149 i) ∧ fr (fun j => j = 149) σ a) 3 (fun a => (nI 3, a)) (by omega) (fun d hd m a ha => ?_) (fun m a ha => ?_) σ ⟨fun e he => absurd he (by omega), fun _ _ => rfl, fr.rf⟩) (fun σ' h1 h2 => ⟨σ', h2, h1⟩)
  · obtain ⟨i1, i2, i3⟩ := ha
    refine ⟨setR a 149 (upd (a.1 149) (245 * k + 242 + d) (a.1 139 d)), ?_, fun c hc => ?_, fun i hi => ?_, fr.tr i3 (fr.setR rfl)⟩
    · rw [L_X7_image_176]
      simp (disch := omega) only [li0, li1, li2, li3, li4, li5, li6, li7, li8, li9, li10, li15, li31, li32, li40, li41, li49, li50, li99, li100, li999, c_le, c_lt, c_eq, c_tn, c_inb, c_add, show (242 : Int32) = nI 242 from rfl, show ¬ 3 ≤ d by omega, hd, show 245 * k + 242 + d < 490 by omega, jn, if_true, if_false, ite_true, ite_false, ↓reduceIte, Nat.le_refl, Nat.lt_irrefl, Nat.reduceAdd, Nat.reduceLeDiff, Nat.reduceLT, Nat.reduceEqDiff, Bool.false_eq_true]
    · rw [sR_s]
      by_cases q : c = d
      · subst q; rw [up_s, (i3 139 (by omega)).1]
      · rw [up_n _ _ (by omega)]; exact i1 c (by omega)
    · rw [sR_s, up_n _ _ (by omega)]
      exact i2 i hi
  · rw [L_X7_image_176]
    simp (disch := omega) only [li0, li1, li2, li3, li4, li5, li6, li7, li8, li9, li10, li15, li31, li32, li40, li41, li49, li50, li99, li100, li999, c_le, c_lt, c_eq, c_tn, c_inb, c_add, if_true, if_false, ite_true, ite_false, ↓reduceIte, Nat.le_refl, Nat.lt_irrefl, Nat.reduceAdd, Nat.reduceLeDiff, Nat.reduceLT, Nat.reduceEqDiff, Bool.false_eq_true]
theorem imageM_ok {B : Bk} {σ : Sg} {k : Nat} (hk : k < 2) (hB : okB B) (hM : repMB σ B) : ∃ σ', f_X7_image (nI k) σ = some (nI 1, σ') ∧ imgM σ' k B ∧ (∀ i, (i < 245 * k ∨ 245 * k + 245 ≤ i) → σ'.1 149 i = σ.1 149 i) ∧ σ'.1 150 = upd (σ.1 150) k (nI 1) ∧ fr (fun j => j = 149 ∨ j = 150) σ σ' := by
  obtain ⟨m1, m2, m3, m4, m5⟩ := hM
  have b1 := hB.1
  obtain ⟨s1, e1, e2, e3, e4⟩ := img20 (y := nI k) hk b1 m1
  obtain ⟨s2, hs2⟩ : ∃ s2, s2 = setR (setR s1 149 (upd (s1.1 149) (245 * k + 240) (nI (bN B)))) 149 (upd (upd (s1.1 149) (245 * k + 240) (nI (bN B))) (245 * k + 241) (nI (bL B))) := ⟨_, rfl⟩
  have t2 : s2.1 149 = upd (upd (s1.1 149) (245 * k + 240) (nI (bN B))) (245 * k + 241) (nI (bL B)) := by rw [hs2, sR_s]
  have f2 : fr (fun j => j = 149) σ s2 := by rw [hs2]; exact fr.tr e4 (fr.tr (fr.setR rfl) (fr.setR rfl))
  obtain ⟨s3, g1, g2, g3, g4⟩ := img176 (σ := s2) (y := nI k) hk
  have h139 : s2.1 139 = σ.1 139 := (f2 139 (by omega)).1
  have f3 : fr (fun j => j = 149) σ s3 := f2.tr g4
  refine ⟨setR s3 150 (upd (s3.1 150) k (nI 1)), ?_, ?_, fun i hi => ?_, ?_, ?_⟩
  · have hv : ¬ f_X7_in (nI k) 0 1 = 0 := by
      have := in_z (x := nI k) (k := 1) (by omega) (m := k) (by omega) rfl
      rw [show f_X7_in (nI k) 0 1 = 1 from this]
      exact n10
    have a1 : s1.1 132 6 = nI (bN B) := by rw [(e4 132 (by omega)).1]; exact m1.1
    have a2 : s1.1 132 7 = nI (bL B) := by rw [(e4 132 (by omega)).1]; exact m2
    unfold f_X7_image
    rw [if_neg hv, show (245 : Int32) * nI k = nI (245 * k) by rw [show (245 : Int32) = nI 245 from rfl, c_mul], e1, Option.bind_some]
    simp (disch := omega) only [li0, li1, li2, li3, li4, li5, li6, li7, li8, li9, li10, li15, li31, li32, li40, li41, li49, li50, li99, li100, li999, c_le, c_lt, c_eq, c_tn, c_inb, c_add, show (240 : Int32) = nI 240 from rfl, show (241 : Int32) = nI 241 from rfl, show 245 * k + 240 < 490 by omega, show 245 * k + 241 < 490 by omega, jn, a1, a2, sR_s, sR_n, if_true, if_false, ite_true, ite_false, ↓reduceIte, Nat.le_refl, Nat.lt_irrefl, Nat.reduceAdd, Nat.reduceLeDiff, Nat.reduceLT, Nat.reduceEqDiff, Bool.false_eq_true]
    rw [← hs2, show L_X7_image_176 (nI k) (nI (245 * k)) FU (nI 0) s2 = _ from g1, Option.bind_some]
    simp (disch := omega) only [li0, li1, li2, li3, li4, li5, li6, li7, li8, li9, li10, li15, li31, li32, li40, li41, li49, li50, li99, li100, li999, c_le, c_lt, c_eq, c_tn, c_inb, c_add, hk, if_true, if_false, ite_true, ite_false, ↓reduceIte, Nat.le_refl, Nat.lt_irrefl, Nat.reduceAdd, Nat.reduceLeDiff, Nat.reduceLT, Nat.reduceEqDiff, Bool.false_eq_true]
    rfl
  · refine ⟨fun d hd => ?_, ?_, ?_, ?_, ?_, ?_⟩
    · have := e2 d hd
      unfold imgD at this ⊢
      have w : ∀ i, i < 245 * k + 240 → (setR s3 150 (upd (s3.1 150) k (nI 1))).1 149 i = s1.1 149 i := fun i hi => by
        rw [sR_n _ _ (by omega), g3 i (by omega), t2, up_n _ _ (by omega), up_n _ _ (by omega)]
      rw [w _ (by omega), w _ (by omega), w _ (by omega), w _ (by omega), w _ (by omega), w _ (by omega)]
      exact this
    · rw [sR_n _ _ (by omega), g3 _ (by omega), t2, up_n _ _ (by omega), up_s]
    · rw [sR_n _ _ (by omega), g3 _ (by omega), t2, up_s]
    · have := g2 0 (by omega)
      rw [sR_n _ _ (by omega), show 245 * k + 242 = 245 * k + 242 + 0 by omega, this, h139]; exact m3
    · have := g2 1 (by omega)
      rw [sR_n _ _ (by omega), show 245 * k + 243 = 245 * k + 242 + 1 by omega, this, h139]; exact m4
    · have := g2 2 (by omega)
      rw [sR_n _ _ (by omega), show 245 * k + 244 = 245 * k + 242 + 2 by omega, this, h139]; exact m5
  · rw [sR_n _ _ (by omega), g3 i (by omega), t2, up_n _ _ (by omega), up_n _ _ (by omega)]
    exact e3 i hi
  · rw [sR_s, (f3 150 (by omega)).1]
  · exact (f3.mono (fun j hj => Or.inl hj)).tr (fr.setR (Or.inr rfl))
