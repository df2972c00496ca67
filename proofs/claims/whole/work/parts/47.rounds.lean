/-! CONTROL by rounds: sets, rounds, of one holder -/
def newN (fl : Nat → Bool) (s : Nat) : Nat → Nat
  | 0 => 0
  | m + 1 => newN fl s m ||| (if !s.testBit m && fl m then 1 <<< m else 0)
theorem or_lt5 : ∀ s, s < 32 → ∀ t, t < 32 → s ||| t < 32 := by decide +kernel
theorem sh_lt5 : ∀ f, f < 5 → 1 <<< f < 32 := by decide +kernel
theorem newN_lt (fl : Nat → Bool) (s : Nat) : ∀ m, m ≤ 5 → newN fl s m < 32
  | 0, _ => by show 0 < 32; decide
  | m + 1, h => by
    simp only [newN]
    refine or_lt5 _ (newN_lt fl s m (by omega)) _ ?_
    split
    · exact sh_lt5 m (by omega)
    · decide
theorem newN_bit (fl : Nat → Bool) (s : Nat) : ∀ m j, (newN fl s m).testBit j = (decide (j < m) && (!s.testBit j && fl j))
  | 0, j => by simp [newN]
  | m + 1, j => by
    simp only [newN]
    by_cases c : (!s.testBit m && fl m) = true
    · rw [if_pos c, tb_or, newN_bit fl s m j]
      by_cases e : j = m
      · subst e
        simp only [Nat.lt_irrefl, decide_false, Bool.false_and, decide_true, Bool.or_true, show j < j + 1 by omega, c, Bool.and_true]
      · simp only [e, decide_false, Bool.or_false, show (j < m + 1) = (j < m) from propext ⟨fun h => by omega, fun h => by omega⟩]
    · rw [if_neg c, Nat.or_zero, newN_bit fl s m j]
      by_cases e : j = m
      · subst e
        simp only [Bool.not_eq_true] at c
        simp only [c, Bool.and_false]
      · simp only [show (j < m + 1) = (j < m) from propext ⟨fun h => by omega, fun h => by omega⟩]
/-- the firms that are new to x, which controls s already -/
def nw (H : Hd) (hf dm x s : Nat) : Nat := newN (fun f => fallsN H hf dm f x s) s 5
theorem nw_lt (H : Hd) (hf dm x s : Nat) : nw H hf dm x s < 32 := newN_lt _ _ 5 (by omega)
def ctl (H : Hd) (hf dm x : Nat) : Nat → Nat
  | 0 => 0
  | r + 1 => ctl H hf dm x r ||| nw H hf dm x (ctl H hf dm x r)
theorem ctl_lt (H : Hd) (hf dm x : Nat) : ∀ r, ctl H hf dm x r < 32
  | 0 => by show 0 < 32; decide
  | r + 1 => or_lt5 _ (ctl_lt H hf dm x r) _ (nw_lt _ _ _ _ _)
def rd (H : Hd) (hf dm x f : Nat) : Nat → Int32
  | 0 => -6
  | r + 1 => if (nw H hf dm x (ctl H hf dm x r)).testBit f then nI (r + 1) else rd H hf dm x f r
def rs (H : Hd) (hf dm x : Nat) : Nat → Nat
  | 0 => 0
  | r + 1 => if nw H hf dm x (ctl H hf dm x r) = 0 then rs H hf dm x r else r + 1
theorem ctl_stop {H : Hd} {hf dm x r : Nat} (h : nw H hf dm x (ctl H hf dm x r) = 0) : ∀ j, ctl H hf dm x (r + j) = ctl H hf dm x r ∧ rs H hf dm x (r + j) = rs H hf dm x r ∧ ∀ f, rd H hf dm x f (r + j) = rd H hf dm x f r
  | 0 => ⟨rfl, rfl, fun _ => rfl⟩
  | j + 1 => by
    obtain ⟨i1, i2, i3⟩ := ctl_stop h j
    have e : nw H hf dm x (ctl H hf dm x (r + j)) = 0 := by rw [i1]; exact h
    refine ⟨?_, ?_, fun f => ?_⟩
    · show ctl H hf dm x (r + j) ||| nw H hf dm x (ctl H hf dm x (r + j)) = _
      rw [e, Nat.or_zero, i1]
    · show (if nw H hf dm x (ctl H hf dm x (r + j)) = 0 then rs H hf dm x (r + j) else r + j + 1) = _
      rw [if_pos e, i2]
    · show (if (nw H hf dm x (ctl H hf dm x (r + j))).testBit f then nI (r + j + 1) else rd H hf dm x f (r + j)) = _
      rw [e, i3 f]
      simp
theorem newF_ok {c h b x s hf dm : Nat} {σ : Sg} {H : Hd} (hr : repC h σ H) (hH : okH H) (h1 : σ.1 b 9 = nI hf) (h2 : σ.1 b 10 = nI dm) (hhf : hf < 1000) (hdm : dm < 1000) (hx : x < 9) (hs : s < 32) (hc : σ.1 (c + 1) x = nI s) : f_X1_newFirms c (nI x) h b σ = some (nI (nw H hf dm x s)) := by
  have hrun := run_FU (fun m k => L_X1_newFirms_6 c (nI x) h b σ m (nI (newN (fun f => fallsN H hf dm f x s) s k)) (nI k)) 5 (some (nI (nw H hf dm x s), nI 5)) (by omega) (fun k hk m => by
    have hw := has_ok s hs k hk
    have hfa := falls_ok hr hH h1 h2 hhf hdm hk hx hs
    have hor := or_ok _ (Nat.lt_of_lt_of_le (newN_lt (fun f => fallsN H hf dm f x s) s k (by omega)) (by decide : 32 ≤ 512)) k (by omega)
    have hor' : nI (newN (fun f => fallsN H hf dm f x s) s k) ||| (nI 1 <<< (nI k &&& nI 31)) = nI (newN (fun f => fallsN H hf dm f x s) s k ||| (1 <<< k)) := hor
    show L_X1_newFirms_6 c (nI x) h b σ (m + 1) _ (nI k) = _
    rw [L_X1_newFirms_6]
    cases hb : s.testBit k with
    | true =>
      rw [hb] at hw
      simp (disch := omega) only [li0, li1, li2, li3, li4, li5, li6, li7, li8, li9, li10, li15, li31, li32, li40, li41, li49, li50, li99, li100, li999, c_le, c_lt, c_eq, c_tn, c_inb, c_add, hc, hx, hw, b2i_t, show ¬ 5 ≤ k by omega, Nat.one_ne_zero, newN, hb, Bool.not_true, Bool.false_and, Nat.or_zero, if_true, if_false, ite_true, ite_false, ↓reduceIte, Nat.le_refl, Nat.lt_irrefl, Nat.reduceAdd, Nat.reduceLeDiff, Nat.reduceLT, Nat.reduceEqDiff, Bool.false_eq_true]
    | false =>
      rw [hb] at hw
      cases hz : fallsN H hf dm k x s with
      | true =>
        rw [hz] at hfa
        simp (disch := omega) only [li0, li1, li2, li3, li4, li5, li6, li7, li8, li9, li10, li15, li31, li32, li40, li41, li49, li50, li99, li100, li999, c_le, c_lt, c_eq, c_tn, c_inb, c_add, hc, hx, hw, b2i_t, b2i_f, show ¬ 5 ≤ k by omega, Nat.one_ne_zero, newN, hb, hz, hfa, Option.bind_some, Bool.not_false, Bool.true_and, hor', if_true, if_false, ite_true, ite_false, ↓reduceIte, Nat.le_refl, Nat.lt_irrefl, Nat.reduceAdd, Nat.reduceLeDiff, Nat.reduceLT, Nat.reduceEqDiff, Bool.false_eq_true]
      | false =>
        rw [hz] at hfa
        simp (disch := omega) only [li0, li1, li2, li3, li4, li5, li6, li7, li8, li9, li10, li15, li31, li32, li40, li41, li49, li50, li99, li100, li999, c_le, c_lt, c_eq, c_tn, c_inb, c_add, hc, hx, hw, b2i_f, show ¬ 5 ≤ k by omega, newN, hb, hz, hfa, Option.bind_some, Bool.and_false, Nat.or_zero, if_true, if_false, ite_true, ite_false, ↓reduceIte, Nat.le_refl, Nat.lt_irrefl, Nat.reduceAdd, Nat.reduceLeDiff, Nat.reduceLT, Nat.reduceEqDiff, Bool.false_eq_true]) (fun m => by
    show L_X1_newFirms_6 c (nI x) h b σ (m + 1) _ (nI 5) = _
    rw [L_X1_newFirms_6]
    simp (disch := omega) only [li0, li1, li2, li3, li4, li5, li6, li7, li8, li9, li10, li15, li31, li32, li40, li41, li49, li50, li99, li100, li999, c_le, c_lt, c_eq, c_tn, c_inb, c_add, if_true, if_false, ite_true, ite_false, ↓reduceIte, Nat.le_refl, Nat.lt_irrefl, Nat.reduceAdd, Nat.reduceLeDiff, Nat.reduceLT, Nat.reduceEqDiff, Bool.false_eq_true]
    rfl)
  unfold f_X1_newFirms
  rw [show L_X1_newFirms_6 c (nI x) h b σ FU 0 0 = _ from hrun]
  rfl
/-- the rows of one holder in a Control -/
def rowOK (c : Nat) (σ : Sg) (H : Hd) (hf dm x r : Nat) : Prop := σ.1 (c + 1) x = nI (ctl H hf dm x r) ∧ σ.1 (c + 12) x = nI (rs H hf dm x r) ∧ ∀ f, f < 5 → σ.1 (c + 2 + 1 + x) f = rd H hf dm x f r
def inC (c x j : Nat) : Prop := j = c + 1 ∨ j = c + 2 + 1 + x ∨ j = c + 12
def offC (c x : Nat) (σ σ' : Sg) : Prop := fr (inC c x) σ σ' ∧ ∀ y, y ≠ x → σ'.1 (c + 1) y = σ.1 (c + 1) y ∧ σ'.1 (c + 12) y = σ.1 (c + 12) y
theorem offC.rf {c x : Nat} {σ : Sg} : offC c x σ σ := ⟨fr.rf, fun _ _ => ⟨rfl, rfl⟩⟩
theorem offC.tr {c x : Nat} {a b d : Sg} (h1 : offC c x a b) (h2 : offC c x b d) : offC c x a d := ⟨h1.1.tr h2.1, fun y hy => ⟨(h2.2 y hy).1.trans (h1.2 y hy).1, (h2.2 y hy).2.trans (h1.2 y hy).2⟩⟩
theorem wo_17 {c x h b : Nat} (hx : x < 9) (σ : Sg) : ∃ σ', L_X1_workOut_17 c (nI x) h b FU 0 σ = some (nI 5, σ') ∧ (∀ f, f < 5 → σ'.1 (c + 2 + 1 + x) f = -6) ∧ fr (fun j => j = c + 2 + 1 + x) σ σ' := by
  refine ex_use (loop_inv (fun m k a => L_X1_workOut_17 c (nI x) h b m (nI k) a) (fun k a => (∀ f, f < k → a.1 (c + 2 + 1 + x) f = -6) ∧ fr (fun j => j = c + 2 + 1 + x) σ a) 5 (fun a => (nI 5, a)) (by decide) (fun k hk m a ha => ?_) (fun m a ha => ?_) σ ⟨fun j hj => absurd hj (by omega), fr.rf⟩) (fun σ' h1 h2 => ⟨σ', h2, h1⟩)
  · refine ⟨_, (by rw [L_X1_workOut_17]; simp (disch := omega) only [li0, li1, li2, li3, li4, li5, li6, li7, li8, li9, li10, li15, li31, li32, li40, li41, li49, li50, li99, li100, li999, c_le, c_lt, c_eq, c_tn, c_inb, c_add, hk, hx, show ¬ 5 ≤ k by omega, jn, if_true, if_false, ite_true, ite_false, ↓reduceIte, Nat.le_refl, Nat.lt_irrefl, Nat.reduceAdd, Nat.reduceLeDiff, Nat.reduceLT, Nat.reduceEqDiff, Bool.false_eq_true]; rfl), fun f hf => ?_, ha.2.tr (fr.setR rfl)⟩
    by_cases e : f = k
    · subst e; simp (disch := omega) only [sR_s, sR_n, sL_s, sL_n, sR_2, sL_1, up_s, up_n]; rfl
    · simp (disch := omega) only [sR_s, sR_n, sL_s, sL_n, sR_2, sL_1, up_s, up_n]
      exact ha.1 f (by omega)
  · rw [L_X1_workOut_17]
    simp (disch := omega) only [li0, li1, li2, li3, li4, li5, li6, li7, li8, li9, li10, li15, li31, li32, li40, li41, li49, li50, li99, li100, li999, c_le, c_lt, c_eq, c_tn, c_inb, c_add, if_true, if_false, ite_true, ite_false, ↓reduceIte, Nat.le_refl, Nat.lt_irrefl, Nat.reduceAdd, Nat.reduceLeDiff, Nat.reduceLT, Nat.reduceEqDiff, Bool.false_eq_true]
theorem wo_86 {c x h b r w : Nat} (hx : x < 9) (hw : w < 32) (σ : Sg) : ∃ σ', L_X1_workOut_86 c (nI x) h b (nI r) (nI w) FU 0 σ = some (nI 5, σ') ∧ (∀ f, f < 5 → σ'.1 (c + 2 + 1 + x) f = if w.testBit f then nI r else σ.1 (c + 2 + 1 + x) f) ∧ fr (fun j => j = c + 2 + 1 + x) σ σ' := by
  refine ex_use (loop_inv (fun m k a => L_X1_workOut_86 c (nI x) h b (nI r) (nI w) m (nI k) a) (fun k a => (∀ f, f < 5 → a.1 (c + 2 + 1 + x) f = if w.testBit f && decide (f < k) then nI r else σ.1 (c + 2 + 1 + x) f) ∧ fr (fun j => j = c + 2 + 1 + x) σ a) 5 (fun a => (nI 5, a)) (by decide) (fun k hk m a ha => ?_) (fun m a ha => ?_) σ ⟨fun j hj => by simp, fr.rf⟩) (fun σ' h1 h2 => ⟨σ', h2, fun f hf => by rw [h1.1 f hf]; simp [hf], h1.2⟩)
  · have hb := has_ok w hw k hk
    cases e : w.testBit k with
    | false =>
      rw [e] at hb
      refine ⟨a, (by rw [L_X1_workOut_86]; simp (disch := omega) only [li0, li1, li2, li3, li4, li5, li6, li7, li8, li9, li10, li15, li31, li32, li40, li41, li49, li50, li99, li100, li999, c_le, c_lt, c_eq, c_tn, c_inb, c_add, hb, b2i_f, show ¬ 5 ≤ k by omega, if_true, if_false, ite_true, ite_false, ↓reduceIte, Nat.le_refl, Nat.lt_irrefl, Nat.reduceAdd, Nat.reduceLeDiff, Nat.reduceLT, Nat.reduceEqDiff, Bool.false_eq_true]), fun f hf => ?_, ha.2⟩
      rw [ha.1 f hf]
      by_cases e2 : f = k
      · subst e2; simp [e]
      · simp only [show (f < k + 1) = (f < k) from propext ⟨fun h => by omega, fun h => by omega⟩]
    | true =>
      rw [e] at hb
      refine ⟨_, (by rw [L_X1_workOut_86]; simp (disch := omega) only [li0, li1, li2, li3, li4, li5, li6, li7, li8, li9, li10, li15, li31, li32, li40, li41, li49, li50, li99, li100, li999, c_le, c_lt, c_eq, c_tn, c_inb, c_add, hb, b2i_t, hk, hx, show ¬ 5 ≤ k by omega, Nat.one_ne_zero, jn, if_true, if_false, ite_true, ite_false, ↓reduceIte, Nat.le_refl, Nat.lt_irrefl, Nat.reduceAdd, Nat.reduceLeDiff, Nat.reduceLT, Nat.reduceEqDiff, Bool.false_eq_true]; rfl), fun f hf => ?_, ha.2.tr (fr.setR rfl)⟩
      by_cases e2 : f = k
      · subst e2; simp (disch := omega) only [sR_s, sR_n, sL_s, sL_n, sR_2, sL_1, up_s, up_n]; simp [e]
      · simp (disch := omega) only [sR_s, sR_n, sL_s, sL_n, sR_2, sL_1, up_s, up_n]
        rw [ha.1 f hf]
        simp only [show (f < k + 1) = (f < k) from propext ⟨fun h => by omega, fun h => by omega⟩]
  · rw [L_X1_workOut_86]
    simp (disch := omega) only [li0, li1, li2, li3, li4, li5, li6, li7, li8, li9, li10, li15, li31, li32, li40, li41, li49, li50, li99, li100, li999, c_le, c_lt, c_eq, c_tn, c_inb, c_add, if_true, if_false, ite_true, ite_false, ↓reduceIte, Nat.le_refl, Nat.lt_irrefl, Nat.reduceAdd, Nat.reduceLeDiff, Nat.reduceLT, Nat.reduceEqDiff, Bool.false_eq_true]
theorem repC.kept {h : Nat} {σ σ' : Sg} {H : Hd} (hr : repC h σ H) (h2 : ∀ j, h < j → j ≤ h + 13 → σ'.1 j = σ.1 j) : repC h σ' H := by
  refine ⟨fun f hf k hk => ?_, fun f hf => ?_⟩
  · rw [h2 (h + 1 + 1 + f) (by omega) (by omega), h2 (h + 7 + 1 + f) (by omega) (by omega)]
    exact hr.1 f hf k hk
  · rw [h2 (h + 13) (by omega) (by omega)]
    exact hr.2 f hf
/-- a Control lies apart from a Holdings and a Book -/
def apC (c h b : Nat) : Prop := (h + 13 < c ∨ c + 12 < h) ∧ (b < c ∨ c + 12 < b)
theorem wo_43 {c h b x hf dm : Nat} {σ : Sg} {H : Hd} (hap : apC c h b) (hr : repC h σ H) (hH : okH H) (h1 : σ.1 b 9 = nI hf) (h2 : σ.1 b 10 = nI dm) (hhf : hf < 1000) (hdm : dm < 1000) (hx : x < 9) (h0 : rowOK c σ H hf dm x 0) : ∃ σ', (L_X1_workOut_43 c (nI x) h b FU 1 σ = some (.inl σ') ∨ ∃ z, L_X1_workOut_43 c (nI x) h b FU 1 σ = some (.inr (z, σ'))) ∧ rowOK c σ' H hf dm x 5 ∧ offC c x σ σ' := by
  refine run_invFU (fun m k a => L_X1_workOut_43 c (nI x) h b m (nI (k + 1)) a) (fun k a => rowOK c a H hf dm x k ∧ offC c x σ a) 5
    (fun q => ∃ σ', (q = some (.inl σ') ∨ ∃ z, q = some (.inr (z, σ'))) ∧ rowOK c σ' H hf dm x 5 ∧ offC c x σ σ') (by decide) (fun k hk m a ha => ?_) (fun m a ha => ?_) σ ⟨h0, offC.rf⟩
  · obtain ⟨⟨i1, i2, i3⟩, i4⟩ := ha
    have hr' : repC h a H := hr.kept (fun j g1 g2 => (i4.1 j (by unfold inC; unfold apC at hap; omega)).1)
    have hb1 : a.1 b = σ.1 b := (i4.1 b (by unfold inC; unfold apC at hap; omega)).1
    have hnf := newF_ok (c := c) (b := b) hr' hH (by rw [hb1]; exact h1) (by rw [hb1]; exact h2) hhf hdm hx (ctl_lt H hf dm x k) i1
    have hnl := nw_lt H hf dm x (ctl H hf dm x k)
    by_cases c0 : nw H hf dm x (ctl H hf dm x k) = 0
    · right
      obtain ⟨s1, s2, s3⟩ := ctl_stop c0 (5 - k)
      rw [show k + (5 - k) = 5 by omega] at s1 s2 s3
      refine ⟨a, Or.inl ?_, ⟨by rw [s1]; exact i1, by rw [s2]; exact i2, fun f hf => by rw [s3 f]; exact i3 f hf⟩, i4⟩
      show L_X1_workOut_43 c (nI x) h b (m + 1) (nI (k + 1)) a = _
      rw [L_X1_workOut_43]
      simp (disch := omega) only [li0, li1, li2, li3, li4, li5, li6, li7, li8, li9, li10, li15, li31, li32, li40, li41, li49, li50, li99, li100, li999, c_le, c_lt, c_eq, c_tn, c_inb, c_add, hnf, Option.bind_some, c0, show ¬ 5 < k + 1 by omega, if_true, if_false, ite_true, ite_false, ↓reduceIte, Nat.le_refl, Nat.lt_irrefl, Nat.reduceAdd, Nat.reduceLeDiff, Nat.reduceLT, Nat.reduceEqDiff, Bool.false_eq_true]
    · left
      obtain ⟨σ1, e1, e2, e3⟩ := wo_86 (c := c) (h := h) (b := b) (r := k + 1) hx hnl (setR (setR a (c + 1) (upd (a.1 (c + 1)) x (nI (ctl H hf dm x k) ||| nI (nw H hf dm x (ctl H hf dm x k))))) (c + 12) (upd (a.1 (c + 12)) x (nI (k + 1))))
      refine ⟨σ1, ⟨⟨?_, ?_, fun f hf => ?_⟩, i4.tr ⟨?_, fun y hy => ?_⟩⟩, ?_⟩
      · rw [(e3 (c + 1) (by omega)).1]
        simp (disch := omega) only [sR_s, sR_n, sL_s, sL_n, sR_2, sL_1, up_s, up_n]
        exact oror_ok _ (ctl_lt H hf dm x k) _ hnl
      · rw [(e3 (c + 12) (by omega)).1]
        simp (disch := omega) only [sR_s, sR_n, sL_s, sL_n, sR_2, sL_1, up_s, up_n]
        simp only [rs, c0, if_false]
      · rw [e2 f hf]
        simp (disch := omega) only [sR_s, sR_n, sL_s, sL_n, sR_2, sL_1, up_s, up_n]
        simp only [rd]
        rw [i3 f hf]
      · exact fr.tr (fr.tr (fr.setR (Or.inl rfl)) (fr.setR (Or.inr (Or.inr rfl)))) (e3.mono (fun j hj => Or.inr (Or.inl hj)))
      · rw [(e3 (c + 1) (by omega)).1, (e3 (c + 12) (by omega)).1]
        simp (disch := omega) only [sR_s, sR_n, sL_s, sL_n, sR_2, sL_1, up_s, up_n, hy]
        exact ⟨trivial, trivial⟩
      · show L_X1_workOut_43 c (nI x) h b (m + 1) (nI (k + 1)) a = _
        rw [L_X1_workOut_43]
        simp (disch := omega) only [li0, li1, li2, li3, li4, li5, li6, li7, li8, li9, li10, li15, li31, li32, li40, li41, li49, li50, li99, li100, li999, c_le, c_lt, c_eq, c_tn, c_inb, c_add, hnf, Option.bind_some, c0, show ¬ 5 < k + 1 by omega, hx, jn, i1, sR_n, sR_s, if_true, if_false, ite_true, ite_false, ↓reduceIte, Nat.le_refl, Nat.lt_irrefl, Nat.reduceAdd, Nat.reduceLeDiff, Nat.reduceLT, Nat.reduceEqDiff, Bool.false_eq_true]
        rw [show L_X1_workOut_86 c (nI x) h b (nI (k + 1)) (nI (nw H hf dm x (ctl H hf dm x k))) FU (nI 0) _ = _ from e1]
        rfl
  · obtain ⟨i1, i4⟩ := ha
    refine ⟨a, Or.inr ⟨nI 6, ?_⟩, i1, i4⟩
    show L_X1_workOut_43 c (nI x) h b (m + 1) (nI (5 + 1)) a = _
    rw [L_X1_workOut_43]
    simp (disch := omega) only [li0, li1, li2, li3, li4, li5, li6, li7, li8, li9, li10, li15, li31, li32, li40, li41, li49, li50, li99, li100, li999, c_le, c_lt, c_eq, c_tn, c_inb, c_add, if_true, if_false, ite_true, ite_false, ↓reduceIte, Nat.le_refl, Nat.lt_irrefl, Nat.reduceAdd, Nat.reduceLeDiff, Nat.reduceLT, Nat.reduceEqDiff, Bool.false_eq_true]
theorem wo_ok {c h b x hf dm : Nat} {σ : Sg} {H : Hd} (hap : apC c h b) (hr : repC h σ H) (hH : okH H) (h1 : σ.1 b 9 = nI hf) (h2 : σ.1 b 10 = nI dm) (hhf : hf < 1000) (hdm : dm < 1000) (hx : x < 9) : ∃ σ', f_X1_workOut c (nI x) h b σ = some σ' ∧ rowOK c σ' H hf dm x 5 ∧ offC c x σ σ' := by
  obtain ⟨σ1, e1, e2, e3⟩ := wo_17 (c := c) (h := h) (b := b) hx (setR (setR σ (c + 1) (upd (σ.1 (c + 1)) x (nI 0))) (c + 12) (upd (σ.1 (c + 12)) x (nI 0)))
  have hoff : offC c x σ σ1 := by
    refine ⟨fr.tr (fr.tr (fr.setR (Or.inl rfl)) (fr.setR (Or.inr (Or.inr rfl)))) (e3.mono (fun j hj => Or.inr (Or.inl hj))), fun y hy => ?_⟩
    rw [(e3 (c + 1) (by omega)).1, (e3 (c + 12) (by omega)).1]
    simp (disch := omega) only [sR_s, sR_n, sL_s, sL_n, sR_2, sL_1, up_s, up_n, hy]
    exact ⟨trivial, trivial⟩
  have h0 : rowOK c σ1 H hf dm x 0 := by
    refine ⟨?_, ?_, fun f hf => e2 f hf⟩
    · rw [(e3 (c + 1) (by omega)).1]; simp (disch := omega) only [sR_s, sR_n, sL_s, sL_n, sR_2, sL_1, up_s, up_n]; rfl
    · rw [(e3 (c + 12) (by omega)).1]; simp (disch := omega) only [sR_s, sR_n, sL_s, sL_n, sR_2, sL_1, up_s, up_n]; rfl
  have hb1 : σ1.1 b = σ.1 b := (hoff.1 b (by unfold inC; unfold apC at hap; omega)).1
  obtain ⟨σ', k1, k2, k3⟩ := wo_43 (b := b) hap (hr.kept (fun j g1 g2 => (hoff.1 j (by unfold inC; unfold apC at hap; omega)).1)) hH (by rw [hb1]; exact h1) (by rw [hb1]; exact h2) hhf hdm hx h0
  refine ⟨σ', ?_, k2, hoff.tr k3⟩
  unfold f_X1_workOut
  simp (disch := omega) only [li0, li1, li2, li3, li4, li5, li6, li7, li8, li9, li10, li15, li31, li32, li40, li41, li49, li50, li99, li100, li999, c_le, c_lt, c_eq, c_tn, c_inb, c_add, hx, jn, sR_n, if_true, if_false, ite_true, ite_false, ↓reduceIte, Nat.le_refl, Nat.lt_irrefl, Nat.reduceAdd, Nat.reduceLeDiff, Nat.reduceLT, Nat.reduceEqDiff, Bool.false_eq_true]
  rw [show L_X1_workOut_17 c (nI x) h b FU (nI 0) _ = _ from e1, Option.bind_some]
  rcases k1 with k1 | ⟨z, k1⟩
  · rw [show L_X1_workOut_43 c (nI x) h b FU (nI 1) σ1 = _ from k1]; rfl
  · rw [show L_X1_workOut_43 c (nI x) h b FU (nI 1) σ1 = _ from k1]; rfl
theorem rowOK.off {c x y : Nat} {σ σ' : Sg} {H : Hd} {hf dm r : Nat} (h : rowOK c σ H hf dm y r) (ho : offC c x σ σ') (hxy : y ≠ x) (hx : x < 9) (hy : y < 9) : rowOK c σ' H hf dm y r := by
  refine ⟨by rw [(ho.2 y hxy).1]; exact h.1, by rw [(ho.2 y hxy).2]; exact h.2.1, fun f hf => ?_⟩
  rw [(ho.1 (c + 2 + 1 + y) (by unfold inC; omega)).1]
  exact h.2.2 f hf
def inCC (c j : Nat) : Prop := c < j ∧ j ≤ c + 12
theorem woAll_ok {c h b hf dm : Nat} {σ : Sg} {H : Hd} (hap : apC c h b) (hr : repC h σ H) (hH : okH H) (h1 : σ.1 b 9 = nI hf) (h2 : σ.1 b 10 = nI dm) (hhf : hf < 1000) (hdm : dm < 1000) : ∃ σ', f_X1_workOutAll c h b σ = some σ' ∧ (∀ x, x < 9 → rowOK c σ' H hf dm x 5) ∧ fr (inCC c) σ σ' := by
  refine ex_use (loop_inv (fun m k a => L_X1_workOutAll_2 c h b m (nI k) a) (fun k a => (∀ x, x < k → rowOK c a H hf dm x 5) ∧ fr (inCC c) σ a) 9 (fun a => (nI 9, a)) (by decide) (fun k hk m a ha => ?_) (fun m a ha => ?_) σ ⟨fun j hj => absurd hj (by omega), fr.rf⟩) (fun σ' h1 h2 => ⟨σ', ?_, h1.1, h1.2⟩)
  · have hb1 : a.1 b = σ.1 b := (ha.2 b (by unfold inCC; unfold apC at hap; omega)).1
    obtain ⟨σ1, e1, e2, e3⟩ := wo_ok (c := c) (h := h) (b := b) (x := k) (σ := a) hap (hr.kept (fun j g1 g2 => (ha.2 j (by unfold inCC; unfold apC at hap; omega)).1)) hH (by rw [hb1]; exact h1) (by rw [hb1]; exact h2) hhf hdm hk
    refine ⟨σ1, (by rw [L_X1_workOutAll_2]; simp (disch := omega) only [li0, li1, li2, li3, li4, li5, li6, li7, li8, li9, li10, li15, li31, li32, li40, li41, li49, li50, li99, li100, li999, c_le, c_lt, c_eq, c_tn, c_inb, c_add, e1, Option.bind_some, show ¬ 9 ≤ k by omega, if_true, if_false, ite_true, ite_false, ↓reduceIte, Nat.le_refl, Nat.lt_irrefl, Nat.reduceAdd, Nat.reduceLeDiff, Nat.reduceLT, Nat.reduceEqDiff, Bool.false_eq_true]), fun x hx => ?_, ha.2.tr (e3.1.mono (fun j hj => by unfold inC at hj; unfold inCC; omega))⟩
    by_cases e : x = k
    · subst e; exact e2
    · exact (ha.1 x (by omega)).off e3 e hk (by omega)
  · rw [L_X1_workOutAll_2]
    simp (disch := omega) only [li0, li1, li2, li3, li4, li5, li6, li7, li8, li9, li10, li15, li31, li32, li40, li41, li49, li50, li99, li100, li999, c_le, c_lt, c_eq, c_tn, c_inb, c_add, if_true, if_false, ite_true, ite_false, ↓reduceIte, Nat.le_refl, Nat.lt_irrefl, Nat.reduceAdd, Nat.reduceLeDiff, Nat.reduceLT, Nat.reduceEqDiff, Bool.false_eq_true]
  · unfold f_X1_workOutAll
    rw [show L_X1_workOutAll_2 c h b FU 0 σ = _ from h2]
    rfl
