/-! CHAIN, who is above, most rounds: by the component and by the reference -/
def chn (H : Hd) (hf dm x f : Nat) : Nat := chR (fun g => wit H hf dm x g) (wit H hf dm x f) 5
theorem wit_dec (H : Hd) (hf dm x : Nat) : ∀ g, g < 5 → ∀ e, e < 5 → rdN H hf dm x g 5 ≠ 0 → (wit H hf dm x g).testBit e = true → rdN H hf dm x e 5 < rdN H hf dm x g 5 ∧ rdN H hf dm x e 5 ≠ 0 := by
  intro g hg e he h0 hb
  have h1 := sb_iff _ (wit_lt H hf dm x g) _ (bfo_lt H hf dm x g) (wit_sub H hf dm x g) e he hb
  have h5 := rdN_le (H := H) (hf := hf) (dm := dm) (x := x) g 5
  have := (ctl_iff (k := rdN H hf dm x g 5 - 1) he (by omega)).mp h1
  omega
theorem chn_C {H : Hd} {hf dm x f : Nat} (hfi : f < 5) (h0 : rdN H hf dm x f 5 ≠ 0) : chC (fun g => wit H hf dm x g) (fun g => rdN H hf dm x g 5) (wit H hf dm x f) (rdN H hf dm x f 5 - 1) (rdN H hf dm x f 5 - 1) = chn H hf dm x f :=
  ch_eq (fun g => wit_lt H hf dm x g) (wit_dec H hf dm x) (wit_lt H hf dm x f) (fun g hg hb => by
    have := wit_dec H hf dm x f hfi g hg h0 hb
    omega)
theorem chain_in {c h b x ρ s hf dm : Nat} {σ : Sg} {H : Hd} (hx : x < 9) (hs : s < 32) (hsr : ∀ g, g < 5 → s.testBit g = true → rdN H hf dm x g 5 ≠ 0) (hρ : ρ < 10) (hr : rowOK c σ H hf dm x 5) (hC : repC h σ H) (hH : okH H) (h1 : σ.1 b 9 = nI hf) (h2 : σ.1 b 10 = nI dm) (hhf : hf < 1000) (hdm : dm < 1000) : L_X1_chainOf_31 c (nI x) h b (nI ρ) σ FU (nI s) 0 = some (nI (pas (fun g => wit H hf dm x g) (fun g => decide (rdN H hf dm x g 5 = ρ)) s 5), nI 5) := by
  have hrun := run_FU (fun m k => L_X1_chainOf_31 c (nI x) h b (nI ρ) σ m (nI (pas (fun g => wit H hf dm x g) (fun g => decide (rdN H hf dm x g 5 = ρ)) s k)) (nI k)) 5 (some (nI (pas (fun g => wit H hf dm x g) (fun g => decide (rdN H hf dm x g 5 = ρ)) s 5), nI 5)) (by omega) (fun k hk m => by
    have hl := pas_lt (w := fun g => wit H hf dm x g) (p := fun g => decide (rdN H hf dm x g 5 = ρ)) (fun g => wit_lt H hf dm x g) hs k
    have hw := has_ok _ hl k hk
    have hrd := hr.2.2 k hk
    rw [rd_eq] at hrd
    have hk5 := rdN_le (H := H) (hf := hf) (dm := dm) (x := x) k 5
    have hor := oror_ok _ hl _ (wit_lt H hf dm x k)
    have hwi := wit_ok (c := c) hx hk hr hC hH h1 h2 hhf hdm
    show L_X1_chainOf_31 c (nI x) h b (nI ρ) σ (m + 1) _ (nI k) = _
    rw [L_X1_chainOf_31]
    rcases Bool.eq_false_or_eq_true ((pas (fun g => wit H hf dm x g) (fun g => decide (rdN H hf dm x g 5 = ρ)) s k).testBit k) with hb | hb
    · rw [hb] at hw
      have hk0 : rdN H hf dm x k 5 ≠ 0 := by
        rcases pas_new (ρ := ρ) (wit_dec H hf dm x) hsr k (by omega) k hk hb with q | q
        · exact hsr k hk q
        · exact q.2
      rw [if_neg hk0] at hrd hwi
      by_cases c2 : rdN H hf dm x k 5 = ρ
      · simp (disch := omega) only [li0, li1, li2, li3, li4, li5, li6, li7, li8, li9, li10, li15, li31, li32, li40, li41, li49, li50, li99, li100, li999, c_le, c_lt, c_eq, c_tn, c_inb, c_add, hw, b2i_t, hx, hk, hrd, c2, Nat.one_ne_zero, show ¬ 5 ≤ k by omega, pas, hb, decide_true, Bool.and_self, hwi, Option.bind_some, hor, if_true, if_false, ite_true, ite_false, ↓reduceIte, Nat.le_refl, Nat.lt_irrefl, Nat.reduceAdd, Nat.reduceLeDiff, Nat.reduceLT, Nat.reduceEqDiff, Bool.false_eq_true]
      · simp (disch := omega) only [li0, li1, li2, li3, li4, li5, li6, li7, li8, li9, li10, li15, li31, li32, li40, li41, li49, li50, li99, li100, li999, c_le, c_lt, c_eq, c_tn, c_inb, c_add, hw, b2i_t, hx, hk, hrd, c2, Nat.one_ne_zero, show ¬ 5 ≤ k by omega, pas, decide_false, Bool.and_false, Nat.or_zero, if_true, if_false, ite_true, ite_false, ↓reduceIte, Nat.le_refl, Nat.lt_irrefl, Nat.reduceAdd, Nat.reduceLeDiff, Nat.reduceLT, Nat.reduceEqDiff, Bool.false_eq_true]
    · rw [hb] at hw
      simp (disch := omega) only [li0, li1, li2, li3, li4, li5, li6, li7, li8, li9, li10, li15, li31, li32, li40, li41, li49, li50, li99, li100, li999, c_le, c_lt, c_eq, c_tn, c_inb, c_add, hw, b2i_f, show ¬ 5 ≤ k by omega, pas, hb, Bool.false_and, Nat.or_zero, if_true, if_false, ite_true, ite_false, ↓reduceIte, Nat.le_refl, Nat.lt_irrefl, Nat.reduceAdd, Nat.reduceLeDiff, Nat.reduceLT, Nat.reduceEqDiff, Bool.false_eq_true]) (fun m => by
    show L_X1_chainOf_31 c (nI x) h b (nI ρ) σ (m + 1) _ (nI 5) = _
    rw [L_X1_chainOf_31]
    simp (disch := omega) only [li0, li1, li2, li3, li4, li5, li6, li7, li8, li9, li10, li15, li31, li32, li40, li41, li49, li50, li99, li100, li999, c_le, c_lt, c_eq, c_tn, c_inb, c_add, if_true, if_false, ite_true, ite_false, ↓reduceIte, Nat.le_refl, Nat.lt_irrefl, Nat.reduceAdd, Nat.reduceLeDiff, Nat.reduceLT, Nat.reduceEqDiff, Bool.false_eq_true])
  exact hrun
theorem chain_ok {c h b x f hf dm : Nat} {σ : Sg} {H : Hd} (hx : x < 9) (hfi : f < 5) (hr : rowOK c σ H hf dm x 5) (hC : repC h σ H) (hH : okH H) (h1 : σ.1 b 9 = nI hf) (h2 : σ.1 b 10 = nI dm) (hhf : hf < 1000) (hdm : dm < 1000) : f_X1_chainOf c (nI x) (nI f) h b σ = if rdN H hf dm x f 5 = 0 then some (-6) else some (nI (chn H hf dm x f)) := by
  have hwi := wit_ok (c := c) hx hfi hr hC hH h1 h2 hhf hdm
  have hrd := hr.2.2 f hfi
  rw [rd_eq] at hrd
  have h5 := rdN_le (H := H) (hf := hf) (dm := dm) (x := x) f 5
  unfold f_X1_chainOf
  by_cases c1 : rdN H hf dm x f 5 = 0
  · rw [if_pos c1] at hrd hwi
    rw [hwi, if_pos c1, Option.bind_some]
    have e : L_X1_chainOf_23 c (nI x) h b σ FU (-6) ((-6 : Int32) - 1) = some (-6, (-6 : Int32) - 1) := by
      rw [show FU = 3999 + 1 from rfl, L_X1_chainOf_23, if_pos (by decide)]
    simp (disch := omega) only [li0, li1, li2, li3, li4, li5, li6, li7, li8, li9, li10, li15, li31, li32, li40, li41, li49, li50, li99, li100, li999, c_le, c_lt, c_eq, c_tn, c_inb, c_add, hx, hfi, if_true, if_false, ite_true, ite_false, ↓reduceIte, Nat.le_refl, Nat.lt_irrefl, Nat.reduceAdd, Nat.reduceLeDiff, Nat.reduceLT, Nat.reduceEqDiff, Bool.false_eq_true]
    rw [hrd, show L_X1_chainOf_23 c (nI x) h b σ FU (-nI 6) (-6 - nI 1) = _ from e]
    rfl
  · rw [if_neg c1] at hrd hwi
    rw [hwi, if_neg c1, Option.bind_some]
    have hs : ∀ g, g < 5 → (wit H hf dm x f).testBit g = true → rdN H hf dm x g 5 ≠ 0 ∧ rdN H hf dm x g 5 ≤ rdN H hf dm x f 5 - 1 := fun g hg hb => by
      have := wit_dec H hf dm x f hfi g hg c1 hb
      omega
    have hrun := run_FU (fun m k => L_X1_chainOf_23 c (nI x) h b σ m (nI (chC (fun g => wit H hf dm x g) (fun g => rdN H hf dm x g 5) (wit H hf dm x f) k (rdN H hf dm x f 5 - 1))) (nI (rdN H hf dm x f 5 - 1 - k))) (rdN H hf dm x f 5 - 1) (some (nI (chn H hf dm x f), nI 0)) (by omega) (fun k hk m => by
      have hcl := chC_clo (wit_dec H hf dm x) hs k (by omega)
      have hin := chain_in (c := c) (h := h) (b := b) (ρ := rdN H hf dm x f 5 - 1 - k) (s := chC (fun g => wit H hf dm x g) (fun g => rdN H hf dm x g 5) (wit H hf dm x f) k (rdN H hf dm x f 5 - 1)) hx (chC_lt (fun g => wit_lt H hf dm x g) (wit_lt H hf dm x f) k) (fun g hg hb => (hcl.1 g hg hb).1) (by omega) hr hC hH h1 h2 hhf hdm
      have hd1 : nI (rdN H hf dm x f 5 - 1 - k) + -nI 1 = nI (rdN H hf dm x f 5 - 1 - (k + 1)) := by
        have := c_m1 (rdN H hf dm x f 5 - 1 - (k + 1))
        rw [show rdN H hf dm x f 5 - 1 - (k + 1) + 1 = rdN H hf dm x f 5 - 1 - k by omega] at this
        exact this
      show L_X1_chainOf_23 c (nI x) h b σ (m + 1) _ _ = _
      rw [L_X1_chainOf_23]
      simp (disch := omega) only [li0, li1, li2, li3, li4, li5, li6, li7, li8, li9, li10, li15, li31, li32, li40, li41, li49, li50, li99, li100, li999, c_le, c_lt, c_eq, c_tn, c_inb, c_add, show ¬ rdN H hf dm x f 5 - 1 - k ≤ 0 by omega, hd1, if_true, if_false, ite_true, ite_false, ↓reduceIte, Nat.le_refl, Nat.lt_irrefl, Nat.reduceAdd, Nat.reduceLeDiff, Nat.reduceLT, Nat.reduceEqDiff, Bool.false_eq_true]
      rw [show L_X1_chainOf_31 c (nI x) h b (nI (rdN H hf dm x f 5 - 1 - k)) σ FU _ (nI 0) = _ from hin]
      rfl) (fun m => by
      show L_X1_chainOf_23 c (nI x) h b σ (m + 1) _ _ = _
      rw [L_X1_chainOf_23, chn_C hfi c1]
      simp (disch := omega) only [li0, li1, li2, li3, li4, li5, li6, li7, li8, li9, li10, li15, li31, li32, li40, li41, li49, li50, li99, li100, li999, c_le, c_lt, c_eq, c_tn, c_inb, c_add, show rdN H hf dm x f 5 - 1 - (rdN H hf dm x f 5 - 1) = 0 by omega, if_true, if_false, ite_true, ite_false, ↓reduceIte, Nat.le_refl, Nat.lt_irrefl, Nat.reduceAdd, Nat.reduceLeDiff, Nat.reduceLT, Nat.reduceEqDiff, Bool.false_eq_true])
    have hrun' : L_X1_chainOf_23 c (nI x) h b σ FU (nI (wit H hf dm x f)) (nI (rdN H hf dm x f 5 - 1)) = some (nI (chn H hf dm x f), nI 0) := hrun
    have hm1 : nI (rdN H hf dm x f 5) - nI 1 = nI (rdN H hf dm x f 5 - 1) := c_sub (by omega)
    simp (disch := omega) only [li0, li1, li2, li3, li4, li5, li6, li7, li8, li9, li10, li15, li31, li32, li40, li41, li49, li50, li99, li100, li999, c_le, c_lt, c_eq, c_tn, c_inb, c_add, hx, hfi, hrd, hm1, hrun', Option.bind_some, if_true, if_false, ite_true, ite_false, ↓reduceIte, Nat.le_refl, Nat.lt_irrefl, Nat.reduceAdd, Nat.reduceLeDiff, Nat.reduceLT, Nat.reduceEqDiff, Bool.false_eq_true]
/-! ### by the reference -/
theorem chainM_in {x s hf dm : Nat} {σ : Sg} {H : Hd} {y : Int32} (hx : x < 9) (hs : s < 32) (hsr : ∀ g, g < 5 → s.testBit g = true → rdN H hf dm x g 5 ≠ 0) (hr : rowM σ H hf dm x) (hR : repR σ H hf dm) (hH : okH H) (hhf : hf < 1000) (hdm : dm < 1000) : L_X7_chain_19 (nI x) y σ FU (nI s) 0 = some (nI (pas (fun g => wit H hf dm x g) (fun _ => true) s 5), nI 5) ∧ ∀ g, g < 5 → (pas (fun g => wit H hf dm x g) (fun _ => true) s 5).testBit g = true → rdN H hf dm x g 5 ≠ 0 := by
  have key : ∀ k, k ≤ 5 → ∀ g, g < 5 → (pas (fun g => wit H hf dm x g) (fun _ => true) s k).testBit g = true → rdN H hf dm x g 5 ≠ 0 := by
    intro k
    induction k with
    | zero => intro _ g hg hb; exact hsr g hg hb
    | succ k ih =>
      intro hk g hg hb
      simp only [pas, Nat.testBit_or, Bool.or_eq_true] at hb
      rcases hb with hb | hb
      · exact ih (by omega) g hg hb
      · split at hb
        · rename_i c
          simp only [Bool.and_true] at c
          exact (wit_dec H hf dm x k (by omega) g hg (ih (by omega) k (by omega) c) hb).2
        · simp at hb
  refine ⟨?_, key 5 (Nat.le_refl 5)⟩
  have hrun := run_FU (fun m k => L_X7_chain_19 (nI x) y σ m (nI (pas (fun g => wit H hf dm x g) (fun _ => true) s k)) (nI k)) 5 (some (nI (pas (fun g => wit H hf dm x g) (fun _ => true) s 5), nI 5)) (by omega) (fun k hk m => by
    have hl := pas_lt (w := fun g => wit H hf dm x g) (p := fun _ => true) (fun g => wit_lt H hf dm x g) hs k
    have hw := hasM_ok _ hl k hk
    have hor := oror_ok _ hl _ (wit_lt H hf dm x k)
    have hor0 : nI (pas (fun g => wit H hf dm x g) (fun _ => true) s k) ||| nI 0 = nI (pas (fun g => wit H hf dm x g) (fun _ => true) s k) := by
      have := oror_ok _ hl 0 (by decide)
      rw [Nat.or_zero] at this
      exact this
    show L_X7_chain_19 (nI x) y σ (m + 1) _ (nI k) = _
    rw [L_X7_chain_19]
    rcases Bool.eq_false_or_eq_true ((pas (fun g => wit H hf dm x g) (fun _ => true) s k).testBit k) with hb | hb
    · rw [hb] at hw
      have hwi := witM_ok hx hk hr hR hH hhf hdm (key k (by omega) k hk hb)
      simp (disch := omega) only [li0, li1, li2, li3, li4, li5, li6, li7, li8, li9, li10, li15, li31, li32, li40, li41, li49, li50, li99, li100, li999, c_le, c_lt, c_eq, c_tn, c_inb, c_add, hw, b2i_t, Nat.one_ne_zero, show ¬ 5 ≤ k by omega, pas, hb, Bool.and_self, hwi, Option.bind_some, hor, if_true, if_false, ite_true, ite_false, ↓reduceIte, Nat.le_refl, Nat.lt_irrefl, Nat.reduceAdd, Nat.reduceLeDiff, Nat.reduceLT, Nat.reduceEqDiff, Bool.false_eq_true]
    · rw [hb] at hw
      simp (disch := omega) only [li0, li1, li2, li3, li4, li5, li6, li7, li8, li9, li10, li15, li31, li32, li40, li41, li49, li50, li99, li100, li999, c_le, c_lt, c_eq, c_tn, c_inb, c_add, hw, b2i_f, show ¬ 5 ≤ k by omega, pas, hb, Bool.false_and, Nat.or_zero, Option.bind_some, hor0, if_true, if_false, ite_true, ite_false, ↓reduceIte, Nat.le_refl, Nat.lt_irrefl, Nat.reduceAdd, Nat.reduceLeDiff, Nat.reduceLT, Nat.reduceEqDiff, Bool.false_eq_true]) (fun m => by
    show L_X7_chain_19 (nI x) y σ (m + 1) _ (nI 5) = _
    rw [L_X7_chain_19]
    simp (disch := omega) only [li0, li1, li2, li3, li4, li5, li6, li7, li8, li9, li10, li15, li31, li32, li40, li41, li49, li50, li99, li100, li999, c_le, c_lt, c_eq, c_tn, c_inb, c_add, if_true, if_false, ite_true, ite_false, ↓reduceIte, Nat.le_refl, Nat.lt_irrefl, Nat.reduceAdd, Nat.reduceLeDiff, Nat.reduceLT, Nat.reduceEqDiff, Bool.false_eq_true])
  exact hrun
theorem chainM_ok {x f hf dm : Nat} {σ : Sg} {H : Hd} (hx : x < 9) (hfi : f < 5) (hr : rowM σ H hf dm x) (hR : repR σ H hf dm) (hH : okH H) (hhf : hf < 1000) (hdm : dm < 1000) (h0 : rdN H hf dm x f 5 ≠ 0) : f_X7_chain (nI x) (nI f) σ = some (nI (chn H hf dm x f)) := by
  have key : ∀ k, ∀ g, g < 5 → (chR (fun g => wit H hf dm x g) (wit H hf dm x f) k).testBit g = true → rdN H hf dm x g 5 ≠ 0 := by
    intro k
    induction k with
    | zero => intro g hg hb; exact (wit_dec H hf dm x f hfi g hg h0 hb).2
    | succ k ih =>
      exact (chainM_in (y := 0) hx (chR_lt (fun g => wit_lt H hf dm x g) (wit_lt H hf dm x f) k) ih hr hR hH hhf hdm).2
  have hrun := run_FU (fun m k => L_X7_chain_10 (nI x) σ m (nI (chR (fun g => wit H hf dm x g) (wit H hf dm x f) k)) (nI k)) 5 (some (nI (chn H hf dm x f), nI 5)) (by omega) (fun k hk m => by
    have hin := (chainM_in (y := nI k) hx (chR_lt (fun g => wit_lt H hf dm x g) (wit_lt H hf dm x f) k) (key k) hr hR hH hhf hdm).1
    show L_X7_chain_10 (nI x) σ (m + 1) _ (nI k) = _
    rw [L_X7_chain_10]
    simp (disch := omega) only [li0, li1, li2, li3, li4, li5, li6, li7, li8, li9, li10, li15, li31, li32, li40, li41, li49, li50, li99, li100, li999, c_le, c_lt, c_eq, c_tn, c_inb, c_add, show ¬ 5 ≤ k by omega, if_true, if_false, ite_true, ite_false, ↓reduceIte, Nat.le_refl, Nat.lt_irrefl, Nat.reduceAdd, Nat.reduceLeDiff, Nat.reduceLT, Nat.reduceEqDiff, Bool.false_eq_true]
    rw [show L_X7_chain_19 (nI x) (nI k) σ FU _ (nI 0) = _ from hin]
    rfl) (fun m => by
    show L_X7_chain_10 (nI x) σ (m + 1) _ (nI 5) = _
    rw [L_X7_chain_10]
    simp (disch := omega) only [li0, li1, li2, li3, li4, li5, li6, li7, li8, li9, li10, li15, li31, li32, li40, li41, li49, li50, li99, li100, li999, c_le, c_lt, c_eq, c_tn, c_inb, c_add, if_true, if_false, ite_true, ite_false, ↓reduceIte, Nat.le_refl, Nat.lt_irrefl, Nat.reduceAdd, Nat.reduceLeDiff, Nat.reduceLT, Nat.reduceEqDiff, Bool.false_eq_true]
    rfl)
  unfold f_X7_chain
  rw [witM_ok hx hfi hr hR hH hhf hdm h0, Option.bind_some]
  rw [show L_X7_chain_10 (nI x) σ FU (nI (wit H hf dm x f)) 0 = _ from hrun]
  rfl
/-! ### those over a firm, most rounds -/
def ovr (H : Hd) (hf dm f a : Nat) (i : Nat) : Bool := (ctl H hf dm (a + i) 5).testBit f
theorem over_ok {c f a n hf dm : Nat} {σ : Sg} {H : Hd} (hfi : f < 5) (hn : n ≤ 5) (ha : a + n ≤ 9) (hr : ∀ x, x < 9 → rowOK c σ H hf dm x 5) : f_X1_thoseOver c (nI f) (nI a) (nI n) σ = some (nI (bfN (ovr H hf dm f a) n)) := by
  have hrun := run_FU (fun m k => L_X1_thoseOver_6 c (nI f) (nI a) (nI n) σ m (nI (bfN (ovr H hf dm f a) k)) (nI k)) n (some (nI (bfN (ovr H hf dm f a) n), nI n)) (by omega) (fun k hk m => by
    have hw := has_ok _ (ctl_lt H hf dm (a + k) 5) f hfi
    have hro := (hr (a + k) (by omega)).1
    have hor : nI (bfN (ovr H hf dm f a) k) ||| (nI 1 <<< (nI k &&& nI 31)) = nI (bfN (ovr H hf dm f a) k ||| (1 <<< k)) := or_ok _ (Nat.lt_of_lt_of_le (bfN_lt _ k (by omega)) (by decide : 32 ≤ 512)) k (by omega)
    show L_X1_thoseOver_6 c (nI f) (nI a) (nI n) σ (m + 1) _ (nI k) = _
    rw [L_X1_thoseOver_6]
    rcases Bool.eq_false_or_eq_true (ovr H hf dm f a k) with hb | hb
    · rw [show (ctl H hf dm (a + k) 5).testBit f = true from hb] at hw
      simp (disch := omega) only [li0, li1, li2, li3, li4, li5, li6, li7, li8, li9, li10, li15, li31, li32, li40, li41, li49, li50, li99, li100, li999, c_le, c_lt, c_eq, c_tn, c_inb, c_add, hro, hw, b2i_t, Nat.one_ne_zero, show ¬ n ≤ k by omega, show a + k < 9 by omega, bfN, hb, hor, if_true, if_false, ite_true, ite_false, ↓reduceIte, Nat.le_refl, Nat.lt_irrefl, Nat.reduceAdd, Nat.reduceLeDiff, Nat.reduceLT, Nat.reduceEqDiff, Bool.false_eq_true]
    · rw [show (ctl H hf dm (a + k) 5).testBit f = false from hb] at hw
      simp (disch := omega) only [li0, li1, li2, li3, li4, li5, li6, li7, li8, li9, li10, li15, li31, li32, li40, li41, li49, li50, li99, li100, li999, c_le, c_lt, c_eq, c_tn, c_inb, c_add, hro, hw, b2i_f, show ¬ n ≤ k by omega, show a + k < 9 by omega, bfN, hb, Nat.or_zero, if_true, if_false, ite_true, ite_false, ↓reduceIte, Nat.le_refl, Nat.lt_irrefl, Nat.reduceAdd, Nat.reduceLeDiff, Nat.reduceLT, Nat.reduceEqDiff, Bool.false_eq_true]) (fun m => by
    show L_X1_thoseOver_6 c (nI f) (nI a) (nI n) σ (m + 1) _ (nI n) = _
    rw [L_X1_thoseOver_6]
    simp (disch := omega) only [li0, li1, li2, li3, li4, li5, li6, li7, li8, li9, li10, li15, li31, li32, li40, li41, li49, li50, li99, li100, li999, c_le, c_lt, c_eq, c_tn, c_inb, c_add, if_true, if_false, ite_true, ite_false, ↓reduceIte, Nat.le_refl, Nat.lt_irrefl, Nat.reduceAdd, Nat.reduceLeDiff, Nat.reduceLT, Nat.reduceEqDiff, Bool.false_eq_true])
  unfold f_X1_thoseOver
  rw [show L_X1_thoseOver_6 c (nI f) (nI a) (nI n) σ FU 0 0 = _ from hrun]
  rfl
def mxN (H : Hd) (hf dm : Nat) : Nat → Nat
  | 0 => 0
  | k + 1 => if mxN H hf dm k < rs H hf dm k 5 then rs H hf dm k 5 else mxN H hf dm k
theorem rs_le {H : Hd} {hf dm x : Nat} : ∀ r, rs H hf dm x r ≤ r
  | 0 => Nat.le_refl 0
  | r + 1 => by
    have := rs_le (H := H) (hf := hf) (dm := dm) (x := x) r
    simp only [rs]
    split <;> omega
theorem mxN_le {H : Hd} {hf dm : Nat} : ∀ k, mxN H hf dm k ≤ 5
  | 0 => Nat.zero_le _
  | k + 1 => by
    have := mxN_le (H := H) (hf := hf) (dm := dm) k
    have := rs_le (H := H) (hf := hf) (dm := dm) (x := k) 5
    simp only [mxN]
    split <;> omega
theorem rs_ctl {H : Hd} {hf dm x : Nat} : ∀ r, ctl H hf dm x r = 0 → rs H hf dm x r = 0
  | 0, _ => rfl
  | r + 1, h => by
    simp only [ctl] at h
    rw [or_eq0] at h
    simp only [rs, h.2, if_true]
    exact rs_ctl r h.1
theorem most_ok {c hf dm : Nat} {σ : Sg} {H : Hd} (hr : ∀ x, x < 9 → rowOK c σ H hf dm x 5) : f_X1_mostRounds c σ = some (nI (mxN H hf dm 9)) := by
  have hrun := run_FU (fun m k => L_X1_mostRounds_4 c σ m (nI (mxN H hf dm k)) (nI k)) 9 (some (nI (mxN H hf dm 9), nI 9)) (by omega) (fun k hk m => by
    have h1 := mxN_le (H := H) (hf := hf) (dm := dm) k
    have h2 := rs_le (H := H) (hf := hf) (dm := dm) (x := k) 5
    show L_X1_mostRounds_4 c σ (m + 1) _ (nI k) = _
    rw [L_X1_mostRounds_4]
    simp (disch := omega) only [li0, li1, li2, li3, li4, li5, li6, li7, li8, li9, li10, li15, li31, li32, li40, li41, li49, li50, li99, li100, li999, c_le, c_lt, c_eq, c_tn, c_inb, c_add, hk, show ¬ 9 ≤ k by omega, (hr k hk).2.1, f_max, mxN, if_true, if_false, ite_true, ite_false, ↓reduceIte, Nat.le_refl, Nat.lt_irrefl, Nat.reduceAdd, Nat.reduceLeDiff, Nat.reduceLT, Nat.reduceEqDiff, Bool.false_eq_true]
    split <;> rfl) (fun m => by
    show L_X1_mostRounds_4 c σ (m + 1) _ (nI 9) = _
    rw [L_X1_mostRounds_4]
    simp (disch := omega) only [li0, li1, li2, li3, li4, li5, li6, li7, li8, li9, li10, li15, li31, li32, li40, li41, li49, li50, li99, li100, li999, c_le, c_lt, c_eq, c_tn, c_inb, c_add, if_true, if_false, ite_true, ite_false, ↓reduceIte, Nat.le_refl, Nat.lt_irrefl, Nat.reduceAdd, Nat.reduceLeDiff, Nat.reduceLT, Nat.reduceEqDiff, Bool.false_eq_true])
  unfold f_X1_mostRounds
  rw [show L_X1_mostRounds_4 c σ FU 0 0 = _ from hrun]
  rfl
theorem mostM_ok {hf dm : Nat} {σ : Sg} {H : Hd} (hR : repR σ H hf dm) (hH : okH H) (hhf : hf < 1000) (hdm : dm < 1000) : ∃ σ', f_X7_mostRounds σ = some (nI (mxN H hf dm 9), σ') ∧ offR σ σ' := by
  refine ex_use (loop_inv (fun m k (a : Sg) => L_X7_mostRounds_4 m (nI (mxN H hf dm k)) (nI k) a) (fun k a => offR σ a) 9 (fun a => (nI (mxN H hf dm 9), nI 9, a)) (by decide) (fun k hk m a ha => ?_) (fun m a ha => ?_) σ offR.rf) (fun σ' h1 h2 => ⟨σ', ?_, h1⟩)
  · obtain ⟨σ1, e1, e2, e3, e4⟩ := ctlM_ok (hR.kept (fun j g1 g2 => (ha.1 j (by omega)).1)) hH hhf hdm hk
    have h1 := mxN_le (H := H) (hf := hf) (dm := dm) k
    have h2 := rs_le (H := H) (hf := hf) (dm := dm) (x := k) 5
    have h3 := ctl_lt H hf dm k 5
    refine ⟨σ1, ?_, ha.tr e4⟩
    show L_X7_mostRounds_4 (m + 1) _ (nI k) a = _
    rw [L_X7_mostRounds_4]
    by_cases c1 : ctl H hf dm k 5 ≤ 0
    · have := rs_ctl 5 (show ctl H hf dm k 5 = 0 by omega)
      simp (disch := omega) only [li0, li1, li2, li3, li4, li5, li6, li7, li8, li9, li10, li15, li31, li32, li40, li41, li49, li50, li99, li100, li999, c_le, c_lt, c_eq, c_tn, c_inb, c_add, show ¬ 9 ≤ k by omega, e1, Option.bind_some, jn, c1, mxN, this, Nat.not_lt_zero, if_true, if_false, ite_true, ite_false, ↓reduceIte, Nat.le_refl, Nat.lt_irrefl, Nat.reduceAdd, Nat.reduceLeDiff, Nat.reduceLT, Nat.reduceEqDiff, Bool.false_eq_true]
    · by_cases c2 : rs H hf dm k 5 ≤ mxN H hf dm k
      · simp (disch := omega) only [li0, li1, li2, li3, li4, li5, li6, li7, li8, li9, li10, li15, li31, li32, li40, li41, li49, li50, li99, li100, li999, c_le, c_lt, c_eq, c_tn, c_inb, c_add, show ¬ 9 ≤ k by omega, e1, e3, Option.bind_some, jn, c1, c2, mxN, show ¬ mxN H hf dm k < rs H hf dm k 5 by omega, if_true, if_false, ite_true, ite_false, ↓reduceIte, Nat.le_refl, Nat.lt_irrefl, Nat.reduceAdd, Nat.reduceLeDiff, Nat.reduceLT, Nat.reduceEqDiff, Bool.false_eq_true]
      · simp (disch := omega) only [li0, li1, li2, li3, li4, li5, li6, li7, li8, li9, li10, li15, li31, li32, li40, li41, li49, li50, li99, li100, li999, c_le, c_lt, c_eq, c_tn, c_inb, c_add, show ¬ 9 ≤ k by omega, e1, e3, Option.bind_some, jn, c1, c2, mxN, show mxN H hf dm k < rs H hf dm k 5 by omega, if_true, if_false, ite_true, ite_false, ↓reduceIte, Nat.le_refl, Nat.lt_irrefl, Nat.reduceAdd, Nat.reduceLeDiff, Nat.reduceLT, Nat.reduceEqDiff, Bool.false_eq_true]
  · rw [L_X7_mostRounds_4]
    simp (disch := omega) only [li0, li1, li2, li3, li4, li5, li6, li7, li8, li9, li10, li15, li31, li32, li40, li41, li49, li50, li99, li100, li999, c_le, c_lt, c_eq, c_tn, c_inb, c_add, if_true, if_false, ite_true, ite_false, ↓reduceIte, Nat.le_refl, Nat.lt_irrefl, Nat.reduceAdd, Nat.reduceLeDiff, Nat.reduceLT, Nat.reduceEqDiff, Bool.false_eq_true]
  · unfold f_X7_mostRounds
    rw [show L_X7_mostRounds_4 FU 0 0 σ = _ from h2]
    rfl
