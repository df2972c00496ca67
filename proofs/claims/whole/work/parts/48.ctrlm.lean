/-! CONTROL by rounds, by the reference -/
/-- what of the reference's state control needs -/
def repR (σ : Sg) (H : Hd) (hf dm : Nat) : Prop := repM σ H ∧ σ.1 139 0 = nI hf ∧ σ.1 139 1 = nI dm
theorem repR.kept {σ σ' : Sg} {H : Hd} {hf dm : Nat} (h : repR σ H hf dm) (h2 : ∀ j, 138 < j → j < 144 → σ'.1 j = σ.1 j) : repR σ' H hf dm := by
  refine ⟨fun f hf k hk => ?_, ?_, ?_⟩
  · rw [h2 141 (by omega) (by omega), h2 142 (by omega) (by omega), h2 143 (by omega) (by omega)]
    exact h.1 f hf k hk
  · rw [h2 139 (by omega) (by omega)]; exact h.2.1
  · rw [h2 139 (by omega) (by omega)]; exact h.2.2
/-- control writes row 144 and one number of row 132 -/
def offR (σ σ' : Sg) : Prop := fr (fun j => j = 144 ∨ j = 132) σ σ' ∧ ∀ y, y ≠ 14 → σ'.1 132 y = σ.1 132 y
theorem offR.rf {σ : Sg} : offR σ σ := ⟨fr.rf, fun _ _ => rfl⟩
theorem offR.tr {a b c : Sg} (h1 : offR a b) (h2 : offR b c) : offR a c := ⟨h1.1.tr h2.1, fun y hy => (h2.2 y hy).trans (h1.2 y hy)⟩
theorem cm_9 {x y : Int32} (σ : Sg) : ∃ σ', L_X7_control_9 x y FU 0 σ = some (nI 5, σ') ∧ (∀ f, f < 5 → σ'.1 144 f = -6) ∧ fr (fun j => j = 144) σ σ' := by
  refine ex_use (loop_inv (fun m k a => L_X7_control_9 x y m (nI k) a) (fun k a => (∀ f, f < k → a.1 144 f = -6) ∧ fr (fun j => j = 144) σ a) 5 (fun a => (nI 5, a)) (by decide) (fun k hk m a ha => ?_) (fun m a ha => ?_) σ ⟨fun j hj => absurd hj (by omega), fr.rf⟩) (fun σ' h1 h2 => ⟨σ', h2, h1⟩)
  · refine ⟨_, (by rw [L_X7_control_9]; simp (disch := omega) only [li0, li1, li2, li3, li4, li5, li6, li7, li8, li9, li10, li15, li31, li32, li40, li41, li49, li50, li99, li100, li999, c_le, c_lt, c_eq, c_tn, c_inb, c_add, hk, show ¬ 5 ≤ k by omega, jn, if_true, if_false, ite_true, ite_false, ↓reduceIte, Nat.le_refl, Nat.lt_irrefl, Nat.reduceAdd, Nat.reduceLeDiff, Nat.reduceLT, Nat.reduceEqDiff, Bool.false_eq_true]; rfl), fun f hf => ?_, ha.2.tr (fr.setR rfl)⟩
    by_cases e : f = k
    · subst e; simp (disch := omega) only [sR_s, sR_n, sL_s, sL_n, sR_2, sL_1, up_s, up_n]; rfl
    · simp (disch := omega) only [sR_s, sR_n, sL_s, sL_n, sR_2, sL_1, up_s, up_n]
      exact ha.1 f (by omega)
  · rw [L_X7_control_9]
    simp (disch := omega) only [li0, li1, li2, li3, li4, li5, li6, li7, li8, li9, li10, li15, li31, li32, li40, li41, li49, li50, li99, li100, li999, c_le, c_lt, c_eq, c_tn, c_inb, c_add, if_true, if_false, ite_true, ite_false, ↓reduceIte, Nat.le_refl, Nat.lt_irrefl, Nat.reduceAdd, Nat.reduceLeDiff, Nat.reduceLT, Nat.reduceEqDiff, Bool.false_eq_true]
theorem or_eq0 {a b : Nat} : (a ||| b = 0) = (a = 0 ∧ b = 0) := propext Nat.or_eq_zero_iff
theorem cm_41 {x s r hf dm : Nat} {σ : Sg} {H : Hd} (hr : repR σ H hf dm) (hH : okH H) (hhf : hf < 1000) (hdm : dm < 1000) (hx : x < 9) (hs : s < 32) : ∃ σ', L_X7_control_41 (nI x) (nI s) (nI r) FU 0 0 σ = some (nI (nw H hf dm x s), nI 5, σ') ∧ (∀ f, f < 5 → σ'.1 144 f = if (nw H hf dm x s).testBit f then nI r else σ.1 144 f) ∧ (σ'.1 132 14 = if nw H hf dm x s = 0 then σ.1 132 14 else nI r) ∧ offR σ σ' := by
  refine ex_use (loop_inv (fun m k (a : Sg) => L_X7_control_41 (nI x) (nI s) (nI r) m (nI (newN (fun f => fallsN H hf dm f x s) s k)) (nI k) a) (fun k a => (∀ f, f < 5 → a.1 144 f = if (newN (fun f => fallsN H hf dm f x s) s k).testBit f then nI r else σ.1 144 f) ∧ (a.1 132 14 = if newN (fun f => fallsN H hf dm f x s) s k = 0 then σ.1 132 14 else nI r) ∧ offR σ a) 5 (fun a => (nI (nw H hf dm x s), nI 5, a)) (by decide) (fun k hk m a ha => ?_) (fun m a ha => ?_) σ ⟨fun j hj => by simp [newN], by simp [newN], offR.rf⟩) (fun σ' h1 h2 => ⟨σ', h2, h1.1, h1.2.1, h1.2.2⟩)
  · obtain ⟨i1, i2, i3⟩ := ha
    have hr' : repR a H hf dm := hr.kept (fun j g1 g2 => (i3.1 j (by omega)).1)
    have hw := hasM_ok s hs k hk
    have hfa := fallsM_ok hr'.1 hH hr'.2.1 hr'.2.2 hhf hdm hk hx hs
    have hor : nI (newN (fun f => fallsN H hf dm f x s) s k) ||| (nI 1 <<< (nI k &&& nI 31)) = nI (newN (fun f => fallsN H hf dm f x s) s k ||| (1 <<< k)) := or_ok _ (Nat.lt_of_lt_of_le (newN_lt (fun f => fallsN H hf dm f x s) s k (by omega)) (by decide : 32 ≤ 512)) k (by omega)
    cases hb : s.testBit k with
    | true =>
      rw [hb] at hw
      have e : newN (fun f => fallsN H hf dm f x s) s (k + 1) = newN (fun f => fallsN H hf dm f x s) s k := by simp [newN, hb]
      refine ⟨a, (by rw [L_X7_control_41]; simp (disch := omega) only [li0, li1, li2, li3, li4, li5, li6, li7, li8, li9, li10, li15, li31, li32, li40, li41, li49, li50, li99, li100, li999, c_le, c_lt, c_eq, c_tn, c_inb, c_add, hw, b2i_t, show ¬ 5 ≤ k by omega, Nat.one_ne_zero, e, if_true, if_false, ite_true, ite_false, ↓reduceIte, Nat.le_refl, Nat.lt_irrefl, Nat.reduceAdd, Nat.reduceLeDiff, Nat.reduceLT, Nat.reduceEqDiff, Bool.false_eq_true]), ?_⟩
      rw [e]
      exact ⟨i1, i2, i3⟩
    | false =>
      rw [hb] at hw
      cases hz : fallsN H hf dm k x s with
      | false =>
        rw [hz] at hfa
        have e : newN (fun f => fallsN H hf dm f x s) s (k + 1) = newN (fun f => fallsN H hf dm f x s) s k := by simp [newN, hb, hz]
        refine ⟨a, (by rw [L_X7_control_41]; simp (disch := omega) only [li0, li1, li2, li3, li4, li5, li6, li7, li8, li9, li10, li15, li31, li32, li40, li41, li49, li50, li99, li100, li999, c_le, c_lt, c_eq, c_tn, c_inb, c_add, hw, b2i_f, show ¬ 5 ≤ k by omega, hfa, Option.bind_some, e, if_true, if_false, ite_true, ite_false, ↓reduceIte, Nat.le_refl, Nat.lt_irrefl, Nat.reduceAdd, Nat.reduceLeDiff, Nat.reduceLT, Nat.reduceEqDiff, Bool.false_eq_true]), ?_⟩
        rw [e]
        exact ⟨i1, i2, i3⟩
      | true =>
        rw [hz] at hfa
        have e : newN (fun f => fallsN H hf dm f x s) s (k + 1) = newN (fun f => fallsN H hf dm f x s) s k ||| (1 <<< k) := by simp [newN, hb, hz]
        refine ⟨_, (by rw [L_X7_control_41]; simp (disch := omega) only [li0, li1, li2, li3, li4, li5, li6, li7, li8, li9, li10, li15, li31, li32, li40, li41, li49, li50, li99, li100, li999, c_le, c_lt, c_eq, c_tn, c_inb, c_add, hw, b2i_t, b2i_f, show ¬ 5 ≤ k by omega, hfa, Option.bind_some, e, Nat.one_ne_zero, hk, hor, jn, if_true, if_false, ite_true, ite_false, ↓reduceIte, Nat.le_refl, Nat.lt_irrefl, Nat.reduceAdd, Nat.reduceLeDiff, Nat.reduceLT, Nat.reduceEqDiff, Bool.false_eq_true]; rfl), ?_⟩
        rw [e]
        refine ⟨fun f hf => ?_, ?_, i3.tr ⟨fr.tr (fr.setR (Or.inl rfl)) (fr.setR (Or.inr rfl)), fun y hy => by simp (disch := omega) only [sR_s, sR_n, sL_s, sL_n, sR_2, sL_1, up_s, up_n, hy]⟩⟩
        · rw [tb_or]
          by_cases e2 : f = k
          · subst e2; simp (disch := omega) only [sR_s, sR_n, sL_s, sL_n, sR_2, sL_1, up_s, up_n]; simp
          · simp (disch := omega) only [sR_s, sR_n, sL_s, sL_n, sR_2, sL_1, up_s, up_n]
            rw [i1 f hf]
            simp [e2]
        · simp (disch := omega) only [sR_s, sR_n, sL_s, sL_n, sR_2, sL_1, up_s, up_n]
          have : ¬ (newN (fun f => fallsN H hf dm f x s) s k ||| (1 <<< k)) = 0 := by
            intro q
            have := congrArg (fun z => z.testBit k) q
            simp only [tb_or] at this
            simp at this
          rw [if_neg this]
  · rw [L_X7_control_41]
    simp (disch := omega) only [li0, li1, li2, li3, li4, li5, li6, li7, li8, li9, li10, li15, li31, li32, li40, li41, li49, li50, li99, li100, li999, c_le, c_lt, c_eq, c_tn, c_inb, c_add, if_true, if_false, ite_true, ite_false, ↓reduceIte, Nat.le_refl, Nat.lt_irrefl, Nat.reduceAdd, Nat.reduceLeDiff, Nat.reduceLT, Nat.reduceEqDiff, Bool.false_eq_true]
    rfl
theorem ctlM_ok {x hf dm : Nat} {σ : Sg} {H : Hd} (hr : repR σ H hf dm) (hH : okH H) (hhf : hf < 1000) (hdm : dm < 1000) (hx : x < 9) : ∃ σ', f_X7_control (nI x) σ = some (nI (ctl H hf dm x 5), σ') ∧ (∀ f, f < 5 → σ'.1 144 f = rd H hf dm x f 5) ∧ σ'.1 132 14 = nI (rs H hf dm x 5) ∧ offR σ σ' := by
  obtain ⟨σ1, e1, e2, e3⟩ := cm_9 (x := nI x) (y := nI 0) (setR σ 132 (upd (σ.1 132) 14 (nI 0)))
  have hoff : offR σ σ1 := by
    refine ⟨fr.tr (fr.setR (Or.inr rfl)) (e3.mono (fun j hj => Or.inl hj)), fun y hy => ?_⟩
    rw [(e3 132 (by omega)).1]
    simp (disch := omega) only [sR_s, sR_n, sL_s, sL_n, sR_2, sL_1, up_s, up_n, hy]
  refine ex_use (loop_inv (fun m k (a : Sg) => L_X7_control_30 (nI x) m (nI (ctl H hf dm x k)) (nI (k + 1)) a) (fun k a => (∀ f, f < 5 → a.1 144 f = rd H hf dm x f k) ∧ a.1 132 14 = nI (rs H hf dm x k) ∧ offR σ a) 5 (fun a => (nI (ctl H hf dm x 5), nI 6, a)) (by decide) (fun k hk m a ha => ?_) (fun m a ha => ?_) σ1 ⟨e2, ?_, hoff⟩) (fun σ' h1 h2 => ⟨σ', ?_, h1.1, h1.2.1, h1.2.2⟩)
  · obtain ⟨i1, i2, i3⟩ := ha
    obtain ⟨σ2, c1, c2, c3, c4⟩ := cm_41 (r := k + 1) (hr.kept (fun j g1 g2 => (i3.1 j (by omega)).1)) hH hhf hdm hx (ctl_lt H hf dm x k)
    have hor := oror_ok _ (ctl_lt H hf dm x k) _ (nw_lt H hf dm x (ctl H hf dm x k))
    refine ⟨σ2, ?_, fun f hf => ?_, ?_, i3.tr c4⟩
    · show L_X7_control_30 (nI x) (m + 1) _ _ a = _
      rw [L_X7_control_30]
      simp (disch := omega) only [li0, li1, li2, li3, li4, li5, li6, li7, li8, li9, li10, li15, li31, li32, li40, li41, li49, li50, li99, li100, li999, c_le, c_lt, c_eq, c_tn, c_inb, c_add, show ¬ 5 < k + 1 by omega, if_true, if_false, ite_true, ite_false, ↓reduceIte, Nat.le_refl, Nat.lt_irrefl, Nat.reduceAdd, Nat.reduceLeDiff, Nat.reduceLT, Nat.reduceEqDiff, Bool.false_eq_true]
      rw [show L_X7_control_41 (nI x) (nI (ctl H hf dm x k)) (nI (k + 1)) FU (nI 0) (nI 0) a = _ from c1]
      simp only [Option.bind_some, hor]
      rfl
    · rw [c2 f hf, i1 f hf]; rfl
    · rw [c3, i2]
      simp only [rs]
      split <;> rfl
  · show L_X7_control_30 (nI x) (m + 1) _ _ a = _
    rw [L_X7_control_30]
    simp (disch := omega) only [li0, li1, li2, li3, li4, li5, li6, li7, li8, li9, li10, li15, li31, li32, li40, li41, li49, li50, li99, li100, li999, c_le, c_lt, c_eq, c_tn, c_inb, c_add, if_true, if_false, ite_true, ite_false, ↓reduceIte, Nat.le_refl, Nat.lt_irrefl, Nat.reduceAdd, Nat.reduceLeDiff, Nat.reduceLT, Nat.reduceEqDiff, Bool.false_eq_true]
  · rw [(e3 132 (by omega)).1]; simp (disch := omega) only [sR_s, sR_n, sL_s, sL_n, sR_2, sL_1, up_s, up_n]; rfl
  · unfold f_X7_control
    simp (disch := omega) only [li0, li1, li2, li3, li4, li5, li6, li7, li8, li9, li10, li15, li31, li32, li40, li41, li49, li50, li99, li100, li999, c_le, c_lt, c_eq, c_tn, c_inb, c_add, jn, if_true, if_false, ite_true, ite_false, ↓reduceIte, Nat.le_refl, Nat.lt_irrefl, Nat.reduceAdd, Nat.reduceLeDiff, Nat.reduceLT, Nat.reduceEqDiff, Bool.false_eq_true]
    rw [show L_X7_control_9 (nI x) (nI 0) FU (nI 0) _ = _ from e1]
    simp only [Option.bind_some]
    rw [show L_X7_control_30 (nI x) FU (nI 0) (nI 1) σ1 = _ from h2]
    rfl
