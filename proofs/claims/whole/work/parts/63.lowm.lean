/-! THE REFERENCE'S ROWS -/
theorem hasM (s f : Int32) : f_X7_has s f = f_X6_has s f := rfl
theorem lay14 {f : Nat} {σ : Sg} {H : Hd} (hf : f < 5) (hM : repM σ H) (hH : okH H) : ∃ σ', L_X7_layRows_14 (nI (lkN H)) (nI f) FU 0 σ = some (nI 5, σ') ∧ (∀ c, c < 5 → σ'.2 146 (5 * f + c) = Int64.ofInt (AR H f c)) ∧ (∀ n, n < 5 * f → σ'.2 146 n = σ.2 146 n) ∧ σ'.1 = σ.1 ∧ fr (fun j => j = 146) σ σ' := by
  refine ex_use (loop_inv (fun m k (a : Sg) => L_X7_layRows_14 (nI (lkN H)) (nI f) m (nI k) a) (fun k a => (∀ c, c < k → a.2 146 (5 * f + c) = Int64.ofInt (AR H f c)) ∧ (∀ n, n < 5 * f → a.2 146 n = σ.2 146 n) ∧ a.1 = σ.1 ∧ fr (fun j => j = 146) σ a) 5 (fun a => (nI 5, a)) (by decide) (fun k hk m a ha => ?_) (fun m a ha => ?_) σ ⟨fun c hc => absurd hc (by omega), fun _ _ => rfl, rfl, fr.rf⟩) (fun σ' h1 h2 => ⟨σ', h2, h1⟩)
  · obtain ⟨i1, i0, i2, i3⟩ := ha
    have hb := has_ok _ (lkN_lt H) f hf
    have hv := (hM f hf (4 + k) (by omega)).1
    have hvb := hH.sh hf (show 4 + k < 10 by omega)
    have hn := tl_neg (H.1 f (4 + k)) (by omega)
    have step : L_X7_layRows_14 (nI (lkN H)) (nI f) (m + 1) (nI k) a = L_X7_layRows_14 (nI (lkN H)) (nI f) m (nI (k + 1)) (setL a 146 (vp_updL (a.2 146) (5 * f + k) (Int64.ofInt (AR H f k)))) := by
      rw [L_X7_layRows_14, i2]
      by_cases e : f = k
      · subst e
        simp (disch := omega) only [li0, li1, li2, li3, li4, li5, li6, li7, li8, li9, li10, li15, li31, li32, li40, li41, li49, li50, li99, li100, li999, c_le, c_lt, c_eq, c_tn, c_inb, c_add, AR, c_mul, jn, show 5 * f + f < 25 by omega, show ¬ 5 ≤ f by omega, Option.bind_some, if_true, if_false, ite_true, ite_false, ↓reduceIte, Nat.le_refl, Nat.lt_irrefl, Nat.reduceAdd, Nat.reduceLeDiff, Nat.reduceLT, Nat.reduceEqDiff, Bool.false_eq_true]
        rfl
      · rcases Bool.eq_false_or_eq_true (lkd H f) with c1 | c1
        · rw [show (lkN H).testBit f = true from c1] at hb
          simp (disch := omega) only [li0, li1, li2, li3, li4, li5, li6, li7, li8, li9, li10, li15, li31, li32, li40, li41, li49, li50, li99, li100, li999, c_le, c_lt, c_eq, c_tn, c_inb, c_add, AR, c_mul, jn, e, c1, hasM, hb, b2i_t, show 5 * f + k < 25 by omega, show ¬ 5 ≤ k by omega, Option.bind_some, Nat.one_ne_zero, if_true, if_false, ite_true, ite_false, ↓reduceIte, Nat.le_refl, Nat.lt_irrefl, Nat.reduceAdd, Nat.reduceLeDiff, Nat.reduceLT, Nat.reduceEqDiff, Bool.false_eq_true]
          rfl
        · rw [show (lkN H).testBit f = false from c1] at hb
          simp (disch := omega) only [li0, li1, li2, li3, li4, li5, li6, li7, li8, li9, li10, li15, li31, li32, li40, li41, li49, li50, li99, li100, li999, c_le, c_lt, c_eq, c_tn, c_inb, c_add, AR, c_mul, jn, e, c1, hasM, hb, b2i_f, at_ok, hv, hn, show 5 * f + k < 25 by omega, show 5 * (4 + k) + f < 50 by omega, show ¬ 5 ≤ k by omega, Option.bind_some, if_true, if_false, ite_true, ite_false, ↓reduceIte, Nat.le_refl, Nat.lt_irrefl, Nat.reduceAdd, Nat.reduceLeDiff, Nat.reduceLT, Nat.reduceEqDiff, Bool.false_eq_true]
    refine ⟨_, step, fun c hc => ?_, fun n hn => ?_, i2, i3.tr (fr.setL rfl)⟩
    · by_cases e : c = k
      · subst e
        rw [sL_s, uL_s]
      · rw [sL_s, uL_n _ _ (by omega)]
        exact i1 c (by omega)
    · rw [sL_s, uL_n _ _ (by omega)]
      exact i0 n hn
  · rw [L_X7_layRows_14]
    simp (disch := omega) only [li0, li1, li2, li3, li4, li5, li6, li7, li8, li9, li10, li15, li31, li32, li40, li41, li49, li50, li99, li100, li999, c_le, c_lt, c_eq, c_tn, c_inb, c_add, if_true, if_false, ite_true, ite_false, ↓reduceIte, Nat.le_refl, Nat.lt_irrefl, Nat.reduceAdd, Nat.reduceLeDiff, Nat.reduceLT, Nat.reduceEqDiff, Bool.false_eq_true]
theorem layRows_ok {σ : Sg} {H : Hd} (hM : repM σ H) (hH : okH H) : ∃ σ', f_X7_layRows σ = some σ' ∧ (∀ i, i < 5 → ∀ c, c < 5 → σ'.2 146 (5 * i + c) = Int64.ofInt (AR H i c)) ∧ σ'.1 = σ.1 ∧ fr (fun j => j = 146) σ σ' := by
  refine ex_use (loop_inv (fun m k (a : Sg) => L_X7_layRows_7 (nI (lkN H)) m (nI k) a) (fun k a => (∀ i, i < k → ∀ c, c < 5 → a.2 146 (5 * i + c) = Int64.ofInt (AR H i c)) ∧ a.1 = σ.1 ∧ fr (fun j => j = 146) σ a) 5 (fun a => (nI 5, a)) (by decide) (fun k hk m a ha => ?_) (fun m a ha => ?_) σ ⟨fun c hc => absurd hc (by omega), rfl, fr.rf⟩) (fun σ' h1 h2 => ⟨σ', ?_, h1⟩)
  · obtain ⟨i1, i2, i3⟩ := ha
    obtain ⟨σ1, e1, e2, e3, e4, e5⟩ := lay14 (σ := a) hk (H := H) (by unfold repM; rw [i2]; exact hM) hH
    refine ⟨σ1, ?_, fun i hi c hc => ?_, e4.trans i2, i3.tr e5⟩
    · rw [L_X7_layRows_7, show L_X7_layRows_14 (nI (lkN H)) (nI k) FU 0 a = _ from e1]
      simp (disch := omega) only [li0, li1, li2, li3, li4, li5, li6, li7, li8, li9, li10, li15, li31, li32, li40, li41, li49, li50, li99, li100, li999, c_le, c_lt, c_eq, c_tn, c_inb, c_add, show ¬ 5 ≤ k by omega, Option.bind_some, if_true, if_false, ite_true, ite_false, ↓reduceIte, Nat.le_refl, Nat.lt_irrefl, Nat.reduceAdd, Nat.reduceLeDiff, Nat.reduceLT, Nat.reduceEqDiff, Bool.false_eq_true]
    · by_cases e : i = k
      · subst e; exact e2 c hc
      · rw [e3 (5 * i + c) (by omega)]
        exact i1 i (by omega) c hc
  · rw [L_X7_layRows_7]
    simp (disch := omega) only [li0, li1, li2, li3, li4, li5, li6, li7, li8, li9, li10, li15, li31, li32, li40, li41, li49, li50, li99, li100, li999, c_le, c_lt, c_eq, c_tn, c_inb, c_add, if_true, if_false, ite_true, ite_false, ↓reduceIte, Nat.le_refl, Nat.lt_irrefl, Nat.reduceAdd, Nat.reduceLeDiff, Nat.reduceLT, Nat.reduceEqDiff, Bool.false_eq_true]
  · unfold f_X7_layRows
    rw [lockM_ok hM hH, Option.bind_some, show L_X7_layRows_7 (nI (lkN H)) FU 0 σ = _ from h2]
    rfl
theorem flt_all {σ : Sg} {A : Nat → Nat → Int} (h : ∀ i, i < 5 → ∀ c, c < 5 → σ.2 146 (5 * i + c) = Int64.ofInt (A i c)) : ∀ j, j < 25 → σ.2 146 j = Int64.ofInt (flt A j) := by
  intro j hj
  have := h (j / 5) (by omega) (j % 5) (by omega)
  rw [show 5 * (j / 5) + j % 5 = j by omega] at this
  exact this
theorem lowerM_ok {σ : Sg} {H : Hd} (hM : repM σ H) (hH : okH H) : ∃ σ', f_X7_lower σ = some (Int64.ofInt (LO H), σ') ∧ σ'.1 = σ.1 ∧ fr (fun j => j = 146) σ σ' := by
  obtain ⟨σ1, e1, e2, e3, e4⟩ := layRows_ok hM hH
  refine ⟨σ1, ?_, e3, e4⟩
  unfold f_X7_lower
  rw [e1, Option.bind_some, mdet_ok (flt_all e2), dM_flt, LO_AR]
  rfl
def hN (s : Nat) : Nat := if s = 4 then 9 else s
theorem hN_lt {s : Nat} (hs : s < 5) : hN s < 10 := by unfold hN; split <;> omega
theorem upperM_ok {σ : Sg} {H : Hd} {f s : Nat} (hf : f < 5) (hs : s < 5) (hM : repM σ H) (hH : okH H) : ∃ σ', f_X7_upper (nI (hN s)) (nI f) σ = some (Int64.ofInt (UP H s f), σ') ∧ σ'.1 = σ.1 ∧ fr (fun j => j = 146) σ σ' := by
  obtain ⟨σ1, e1, e2, e3, e4⟩ := layRows_ok hM hH
  have hM1 : repM σ1 H := by unfold repM; rw [e3]; exact hM
  have hh := hN_lt hs
  refine ex_use (loop_inv (fun m k (a : Sg) => L_X7_upper_12 (nI (hN s)) (nI f) (nI (lkN H)) m (nI k) a) (fun k a => (∀ i, i < 5 → ∀ c, c < 5 → a.2 146 (5 * i + c) = Int64.ofInt (if c = f ∧ i < k then BC H s i else AR H i c)) ∧ a.1 = σ1.1 ∧ fr (fun j => j = 146) σ1 a) 5 (fun a => (nI 5, a)) (by decide) (fun k hk m a ha => ?_) (fun m a ha => ?_) σ1 ⟨fun i hi c hc => by rw [if_neg (by omega)]; exact e2 i hi c hc, rfl, fr.rf⟩) (fun σ2 h1 h2 => ?_)
  · obtain ⟨i1, i2, i3⟩ := ha
    have hb := has_ok _ (lkN_lt H) k hk
    have hv := (hM1 k hk (hN s) hh).1
    have hvb := hH.sh hk hh
    have hn := tl_pos (H.1 k (hN s)) (by omega)
    have step : L_X7_upper_12 (nI (hN s)) (nI f) (nI (lkN H)) (m + 1) (nI k) a = L_X7_upper_12 (nI (hN s)) (nI f) (nI (lkN H)) m (nI (k + 1)) (setL a 146 (vp_updL (a.2 146) (5 * k + f) (Int64.ofInt (BC H s k)))) := by
      rw [L_X7_upper_12, i2]
      rcases Bool.eq_false_or_eq_true (lkd H k) with c1 | c1
      · rw [show (lkN H).testBit k = true from c1] at hb
        simp (disch := omega) only [li0, li1, li2, li3, li4, li5, li6, li7, li8, li9, li10, li15, li31, li32, li40, li41, li49, li50, li99, li100, li999, c_le, c_lt, c_eq, c_tn, c_inb, c_add, BC, c_mul, jn, c1, hasM, hb, b2i_t, show 5 * k + f < 25 by omega, show ¬ 5 ≤ k by omega, Option.bind_some, Nat.one_ne_zero, if_true, if_false, ite_true, ite_false, ↓reduceIte, Nat.le_refl, Nat.lt_irrefl, Nat.reduceAdd, Nat.reduceLeDiff, Nat.reduceLT, Nat.reduceEqDiff, Bool.false_eq_true]
        rfl
      · rw [show (lkN H).testBit k = false from c1] at hb
        have z : BC H s k = (H.1 k (hN s) : Int) := by simp only [BC, c1, Bool.false_eq_true, if_false]; rfl
        simp (disch := omega) only [li0, li1, li2, li3, li4, li5, li6, li7, li8, li9, li10, li15, li31, li32, li40, li41, li49, li50, li99, li100, li999, c_le, c_lt, c_eq, c_tn, c_inb, c_add, z, c_mul, jn, hasM, hb, b2i_f, at_ok, hv, hn, show 5 * k + f < 25 by omega, show 5 * (hN s) + k < 50 by omega, show ¬ 5 ≤ k by omega, Option.bind_some, if_true, if_false, ite_true, ite_false, ↓reduceIte, Nat.le_refl, Nat.lt_irrefl, Nat.reduceAdd, Nat.reduceLeDiff, Nat.reduceLT, Nat.reduceEqDiff, Bool.false_eq_true]
    refine ⟨_, step, fun i hi c hc => ?_, i2, i3.tr (fr.setL rfl)⟩
    by_cases e : 5 * i + c = 5 * k + f
    · have h1 : i = k := by omega
      have h2 : c = f := by omega
      subst h1 h2
      rw [sL_s, uL_s, if_pos ⟨rfl, by omega⟩]
    · rw [sL_s, uL_n _ _ e, i1 i hi c hc]
      have : (c = f ∧ i < k) = (c = f ∧ i < k + 1) := propext ⟨fun h => by omega, fun h => by omega⟩
      simp only [this]
  · rw [L_X7_upper_12]
    simp (disch := omega) only [li0, li1, li2, li3, li4, li5, li6, li7, li8, li9, li10, li15, li31, li32, li40, li41, li49, li50, li99, li100, li999, c_le, c_lt, c_eq, c_tn, c_inb, c_add, if_true, if_false, ite_true, ite_false, ↓reduceIte, Nat.le_refl, Nat.lt_irrefl, Nat.reduceAdd, Nat.reduceLeDiff, Nat.reduceLT, Nat.reduceEqDiff, Bool.false_eq_true]
  · refine ⟨σ2, ?_, h1.2.1.trans e3, e4.tr h1.2.2⟩
    have e5 : ∀ i, i < 5 → ∀ c, c < 5 → σ2.2 146 (5 * i + c) = Int64.ofInt (rep (AR H) f (BC H s) i c) := by
      intro i hi c hc
      rw [h1.1 i hi c hc]
      unfold rep
      by_cases e : c = f
      · rw [if_pos ⟨e, hi⟩, if_pos e]
      · rw [if_neg (fun q => e q.1), if_neg e]
    unfold f_X7_upper
    rw [e1, Option.bind_some, lockM_ok hM1 hH, Option.bind_some, show L_X7_upper_12 (nI (hN s)) (nI f) (nI (lkN H)) FU 0 σ1 = _ from h2, Option.bind_some]
    show Option.bind (f_X7_determinant σ2) _ = _
    rw [mdet_ok (flt_all e5), dM_flt, UP_AR]
    rfl
theorem LO_pos {H : Hd} (hH : okH H) : 0 < LO H ∧ LO H ≤ 10000000000 := by
  obtain ⟨h1, h2⟩ := V_inv (okM_C hH) 5 (Nat.le_refl 5)
  refine ⟨h1.1, ?_⟩
  have : (100 : Int) ^ 5 = 10000000000 := by decide
  rw [this] at h2
  exact h2
