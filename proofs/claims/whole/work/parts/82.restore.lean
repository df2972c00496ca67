/-! GOING BACK TO AN IMAGE -/
theorem res60 {σ : Sg} {I : Bk} {k : Nat} (hk : k < 2) (hI : okB I) (hi : imgM σ k I) (h6 : σ.1 132 6 = nI (bN I)) : ∃ σ', L_X7_restore_60 (nI (245 * k)) FU 0 σ = some (nI (bN I), σ') ∧ (∀ d, d < bN I → repDM σ' d (bD I d)) ∧ fr (fun j => 133 ≤ j ∧ j ≤ 138) σ σ' := by
  have b1 := hI.1
  refine ex_use (loop_inv (fun m d (a : Sg) => L_X7_restore_60 (nI (245 * k)) m (nI d) a) (fun d a => (∀ e, e < d → repDM a e (bD I e)) ∧ fr (fun j => 133 ≤ j ∧ j ≤ 138) σ a) (bN I) (fun a => (nI (bN I), a)) (by omega) (fun d hd m a ha => ?_) (fun m a ha => ?_) σ ⟨fun e he => absurd he (by omega), fr.rf⟩) (fun σ' h1 h2 => ⟨σ', h2, h1⟩)
  · obtain ⟨i1, i3⟩ := ha
    have w : a.1 149 = σ.1 149 := (i3 149 (by omega)).1
    have hs : a.1 132 6 = nI (bN I) := by rw [(i3 132 (by omega)).1]; exact h6
    obtain ⟨m1, m2, m3, m4, m5, m6⟩ := hi.1 d hd
    rw [← w] at m1 m2 m3 m4 m5 m6
    obtain ⟨s1, e1, t1, t2, t3, t4, t5, t6, e2⟩ := put_ok (d := d) (by omega) (nI (dDay (bD I d))) (nI (dFirm (bD I d))) (nI (dKind (bD I d))) (nI (dFrom (bD I d))) (nI (dTo (bD I d))) (nI (dAmt (bD I d))) a
    refine ⟨s1, ?_, fun e he => ?_, i3.tr e2⟩
    · rw [L_X7_restore_60]
      simp (disch := omega) only [li0, li1, li2, li3, li4, li5, li6, li7, li8, li9, li10, li15, li31, li32, li40, li41, li49, li50, li99, li100, li999, c_le, c_lt, c_eq, c_tn, c_inb, c_add, hs, show ¬ bN I ≤ d by omega, c_mul, show 245 * k + 6 * d < 490 by omega, show 245 * k + 6 * d + 1 < 490 by omega, show 245 * k + 6 * d + 2 < 490 by omega, show 245 * k + 6 * d + 3 < 490 by omega, show 245 * k + 6 * d + 4 < 490 by omega, show 245 * k + 6 * d + 5 < 490 by omega, m1, m2, m3, m4, m5, m6, e1, Option.bind_some, if_true, if_false, ite_true, ite_false, ↓reduceIte, Nat.le_refl, Nat.lt_irrefl, Nat.reduceAdd, Nat.reduceLeDiff, Nat.reduceLT, Nat.reduceEqDiff, Bool.false_eq_true]
    · unfold repDM
      rw [t1, t2, t3, t4, t5, t6]
      by_cases q : e = d
      · subst q
        rw [up_s, up_s, up_s, up_s, up_s, up_s]
        exact ⟨rfl, rfl, rfl, rfl, rfl, rfl⟩
      · rw [up_n _ _ q, up_n _ _ q, up_n _ _ q, up_n _ _ q, up_n _ _ q, up_n _ _ q]
        exact i1 e (by omega)
  · rw [L_X7_restore_60]
    have hs : a.1 132 6 = nI (bN I) := by rw [(ha.2 132 (by omega)).1]; exact h6
    simp (disch := omega) only [li0, li1, li2, li3, li4, li5, li6, li7, li8, li9, li10, li15, li31, li32, li40, li41, li49, li50, li99, li100, li999, c_le, c_lt, c_eq, c_tn, c_inb, c_add, hs, if_true, if_false, ite_true, ite_false, ↓reduceIte, Nat.le_refl, Nat.lt_irrefl, Nat.reduceAdd, Nat.reduceLeDiff, Nat.reduceLT, Nat.reduceEqDiff, Bool.false_eq_true]
theorem res141 {σ : Sg} {k : Nat} (hk : k < 2) : ∃ σ', L_X7_restore_141 (nI (245 * k)) FU 0 σ = some (nI 3, σ') ∧ (∀ c, c < 3 → σ'.1 139 c = σ.1 149 (245 * k + 242 + c)) ∧ fr (fun j => j = 139) σ σ' := by
  refine ex_use (loop_inv (fun m d (a : Sg) => L_X7_restore_141 (nI (245 * k)) m (nI d) a) (fun d a => (∀ c, c < d → a.1 139 c = σ.1 149 (245 * k + 242 + c)) ∧ fr (fun j => j = 139) σ a) 3 (fun a => (nI 3, a)) (by omega) (fun d hd m a ha => ?_) (fun m a ha => ?_) σ ⟨fun e he => absurd he (by omega), fr.rf⟩) (fun σ' h1 h2 => ⟨σ', h2, h1⟩)
  · obtain ⟨i1, i3⟩ := ha
    refine ⟨setR a 139 (upd (a.1 139) d (a.1 149 (245 * k + 242 + d))), ?_, fun c hc => ?_, fr.tr i3 (fr.setR rfl)⟩
    · rw [L_X7_restore_141]
      simp (disch := omega) only [li0, li1, li2, li3, li4, li5, li6, li7, li8, li9, li10, li15, li31, li32, li40, li41, li49, li50, li99, li100, li999, c_le, c_lt, c_eq, c_tn, c_inb, c_add, show (242 : Int32) = nI 242 from rfl, show ¬ 3 ≤ d by omega, hd, show 245 * k + 242 + d < 490 by omega, jn, if_true, if_false, ite_true, ite_false, ↓reduceIte, Nat.le_refl, Nat.lt_irrefl, Nat.reduceAdd, Nat.reduceLeDiff, Nat.reduceLT, Nat.reduceEqDiff, Bool.false_eq_true]
    · rw [sR_s]
      by_cases q : c = d
      · subst q; rw [up_s, (i3 149 (by omega)).1]
      · rw [up_n _ _ (by omega)]; exact i1 c (by omega)
  · rw [L_X7_restore_141]
    simp (disch := omega) only [li0, li1, li2, li3, li4, li5, li6, li7, li8, li9, li10, li15, li31, li32, li40, li41, li49, li50, li99, li100, li999, c_le, c_lt, c_eq, c_tn, c_inb, c_add, if_true, if_false, ite_true, ite_false, ↓reduceIte, Nat.le_refl, Nat.lt_irrefl, Nat.reduceAdd, Nat.reduceLeDiff, Nat.reduceLT, Nat.reduceEqDiff, Bool.false_eq_true]
theorem in1_ne {k : Nat} (hk : k < 2) : ¬ f_X7_in (nI k) 0 1 = 0 := by
  have := in_z (x := nI k) (k := 1) (by omega) (m := k) (by omega) rfl
  rw [show f_X7_in (nI k) 0 1 = 1 from this]
  exact n10
theorem restoreM_ok {I : Bk} {σ : Sg} {k : Nat} (hk : k < 2) (hI : okB I) (hi : imgM σ k I) (h150 : σ.1 150 k = nI 1) : ∃ σ', f_X7_restore (nI k) σ = some (nI 1, σ') ∧ repMB σ' I ∧ fr (fun j => 132 ≤ j ∧ j ≤ 139) σ σ' := by
  obtain ⟨i1, i2, i3, i4, i5, i6⟩ := id hi
  obtain ⟨s1, hs1⟩ : ∃ s1, s1 = setR (setR σ 132 (upd (σ.1 132) 6 (nI (bN I)))) 132 (upd (upd (σ.1 132) 6 (nI (bN I))) 7 (nI (bL I))) := ⟨_, rfl⟩
  have f1 : fr (fun j => j = 132) σ s1 := by rw [hs1]; exact fr.tr (fr.setR rfl) (fr.setR rfl)
  have t1 : s1.1 132 = upd (upd (σ.1 132) 6 (nI (bN I))) 7 (nI (bL I)) := by rw [hs1, sR_s]
  have w149 : s1.1 149 = σ.1 149 := (f1 149 (by omega)).1
  obtain ⟨s2, e1, e2, e3⟩ := res60 (σ := s1) hk hI (by unfold imgM imgD; rw [w149]; exact hi) (by rw [t1, up_n _ _ (by omega), up_s])
  obtain ⟨s3, g1, g2, g3⟩ := res141 (σ := s2) hk
  have v149 : s2.1 149 = σ.1 149 := by rw [(e3 149 (by omega)).1, w149]
  refine ⟨s3, ?_, ⟨⟨?_, fun d hd => ?_⟩, ?_, ?_, ?_, ?_⟩, ?_⟩
  · unfold f_X7_restore
    rw [if_neg (in1_ne hk), show (245 : Int32) * nI k = nI (245 * k) by rw [show (245 : Int32) = nI 245 from rfl, c_mul]]
    simp (disch := omega) only [li0, li1, li2, li3, li4, li5, li6, li7, li8, li9, li10, li15, li31, li32, li40, li41, li49, li50, li99, li100, li999, c_le, c_lt, c_eq, c_tn, c_inb, c_add, show (240 : Int32) = nI 240 from rfl, show (241 : Int32) = nI 241 from rfl, hk, h150, Nat.one_ne_zero, show 245 * k + 240 < 490 by omega, show 245 * k + 241 < 490 by omega, jn, i2, i3, sR_s, sR_n, if_true, if_false, ite_true, ite_false, ↓reduceIte, Nat.le_refl, Nat.lt_irrefl, Nat.reduceAdd, Nat.reduceLeDiff, Nat.reduceLT, Nat.reduceEqDiff, Bool.false_eq_true]
    rw [← hs1, show L_X7_restore_60 (nI (245 * k)) FU (nI 0) s1 = _ from e1, Option.bind_some]
    show Option.bind (L_X7_restore_141 (nI (245 * k)) FU 0 s2) _ = _
    rw [g1]
    rfl
  · rw [(g3 132 (by omega)).1, (e3 132 (by omega)).1, t1, up_n _ _ (by omega), up_s]
  · have := e2 d hd
    unfold repDM at this ⊢
    rw [(g3 133 (by omega)).1, (g3 134 (by omega)).1, (g3 135 (by omega)).1, (g3 136 (by omega)).1, (g3 137 (by omega)).1, (g3 138 (by omega)).1]
    exact this
  · rw [(g3 132 (by omega)).1, (e3 132 (by omega)).1, t1, up_s]
  · rw [g2 0 (by omega), v149]; exact i4
  · rw [g2 1 (by omega), v149]; exact i5
  · rw [g2 2 (by omega), v149]; exact i6
  · exact (f1.mono (fun j hj => by omega)).tr ((e3.mono (fun j hj => by omega)).tr (g3.mono (fun j hj => by omega)))
/-- which images are kept -/
def keptOK (σ : Sg) (k0 k1 : Bool) : Prop := σ.1 0 3 = nI (k0.toNat + 2 * k1.toNat) ∧ σ.1 150 0 = b2i k0 ∧ σ.1 150 1 = b2i k1
abbrev kb (k0 k1 : Bool) (k : Nat) : Bool := if k = 0 then k0 else k1
def imgOK (σ : Sg) (k0 : Bool) (k : Nat) (I : Bk) : Prop := k0 = true → okB I ∧ repB (9 + 8 * k) σ I ∧ imgM σ k I
theorem kept_has : ∀ (k0 k1 : Bool) (k : Nat), k < 2 → f_X6_has (nI (k0.toNat + 2 * k1.toNat)) (nI k) = b2i (kb k0 k1 k) := by decide
theorem kept_or : ∀ (k0 k1 : Bool) (k : Nat), k < 2 → nI (k0.toNat + 2 * k1.toNat) ||| ((1 : Int32) <<< (nI k &&& 31)) = nI ((k0 || decide (k = 0)).toNat + 2 * (k1 || decide (k = 1)).toNat) := by decide
theorem imAt : ∀ k, k < 2 → f_X6_imageAt (nI k) = 9 + 8 * k := by decide
theorem q_restore {B : Bk} {σ : Sg} {k0 k1 : Bool} {I0 I1 : Bk} (hB : okB B) (hr : repB 1 σ B) (hM : repMB σ B) (hc : cacheOK σ B) (hk : keptOK σ k0 k1) (h0 : imgOK σ k0 0 I0) (h1 : imgOK σ k1 1 I1) (x1 : Int32) : OP B σ (f_X6_restore x1 σ) (f_X7_restore x1) := by
  rcases yn_c x1 with ⟨u1, v1, _⟩ | ⟨u1, v1, k, hk2, rfl⟩
  · refine OP.same hB hr hM hc (r := -2) ?_ ?_
    · unfold f_X6_restore; rw [if_pos u1]
    · unfold f_X7_restore; rw [if_pos v1]
  have h150 : σ.1 150 k = b2i (kb k0 k1 k) := by
    rcases (show k = 0 ∨ k = 1 by omega) with rfl | rfl
    · exact hk.2.1
    · exact hk.2.2
  have hh : f_X6_has (σ.1 0 3) (nI k) = b2i (kb k0 k1 k) := by rw [hk.1]; exact kept_has k0 k1 k hk2
  rcases Bool.eq_false_or_eq_true (kb k0 k1 k) with c | c
  · rw [c] at h150 hh
    have hI : ∃ I, okB I ∧ repB (9 + 8 * k) σ I ∧ imgM σ k I := by
      rcases (show k = 0 ∨ k = 1 by omega) with rfl | rfl
      · exact ⟨I0, h0 c⟩
      · exact ⟨I1, h1 c⟩
    obtain ⟨I, o1, o2, o3⟩ := hI
    obtain ⟨s1, e1, e2, e3⟩ := copy_ok (b := 1) (b' := 9 + 8 * k) (Or.inl (by omega)) (by have := o1.1; omega) o2
    obtain ⟨s2, g1, g2, g3, g4, g5⟩ := changed_ok s1
    have w : ∀ j, 9 ≤ j → s2.1 j = σ.1 j := fun j hj => by rw [(g5 j (by omega)).1, (e3 j (by unfold inB; omega)).1]
    obtain ⟨s3, p1, p2, p3⟩ := restoreM_ok (σ := s2) hk2 o1 (by unfold imgM imgD; rw [w 149 (by omega)]; exact o3) (by rw [w 150 (by omega)]; exact h150)
    have v : ∀ j, j < 132 → s3.1 j = s2.1 j := fun j hj => (p3 j (by omega)).1
    refine ⟨nI 1, s2, s3, I, ?_, p1, o1, e2.kept (fun j a b => by rw [v j (by omega), (g5 j (by omega)).1]), p2, Or.inl (by rw [v 0 (by omega)]; exact g2), ?_, fun y a b => by rw [v 0 (by omega), g4 y a b, (e3 0 (by unfold inB; omega)).1], Or.inr (by rw [v 0 (by omega)]; exact g3)⟩
    · unfold f_X6_restore
      rw [if_neg u1, hh, if_neg (show ¬ b2i true = 0 by decide), imAt k hk2, e1, Option.bind_some, g1]
      rfl
    · exact (e3.mono (fun j hj => Or.inr (Or.inl hj))).tr ((g5.mono (fun j hj => Or.inl hj)).tr (p3.mono (fun j hj => Or.inr (Or.inr (Or.inr ⟨by omega, by omega⟩)))))
  · rw [c] at h150 hh
    refine OP.same hB hr hM hc (r := -3) ?_ ?_
    · unfold f_X6_restore
      rw [if_neg u1, hh, if_pos (show b2i false = 0 from rfl)]
    · unfold f_X7_restore
      rw [if_neg v1, if_pos (show inb (nI k) 2 by rw [c_inb (by omega)]; exact hk2), c_tn (by omega), h150, if_pos (show b2i false = 0 from rfl)]
