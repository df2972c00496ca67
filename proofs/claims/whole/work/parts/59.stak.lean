/-! STAKES of the component: the rows with which it begins, and what it comes to -/
def lkd (H : Hd) (f : Nat) : Bool := (lkN H).testBit f
def AC (H : Hd) (f g : Nat) : Int := if f = g then 100 else if lkd H f || lkd H g then 0 else -(H.1 f (4 + g) : Int)
def BC (H : Hd) (s f : Nat) : Int := if lkd H f then 0 else (H.1 f (if s = 4 then 9 else s) : Int)
theorem AC_sum {H : Hd} {f : Nat} : ∀ k, (if f < k then 100 else 0) - (sumN (fun j => H.1 f (4 + j)) k : Int) ≤ sumI (AC H f) k
  | 0 => by simp [sumN, sumI]
  | k + 1 => by
    have ih := AC_sum (H := H) (f := f) k
    simp only [sumN, sumI]
    by_cases e : f = k
    · subst e
      simp only [AC, if_true, show f < f + 1 by omega, Nat.lt_irrefl, if_false] at ih ⊢
      omega
    · have : (f < k + 1) = (f < k) := propext ⟨fun h => by omega, fun h => by omega⟩
      simp only [AC, e, if_false, this]
      split <;> split at ih <;> omega
theorem AC_held {H : Hd} {T : Nat → Bool} {f : Nat} (hf : f < 5) (hT : ∀ t, t < 5 → T t = true → lkd H t = false) (hfT : T f = true) : ∀ k, k ≤ 5 → (if f < k then (100 : Int) else 0) ≤ (held H f (bfN T 5) k : Int) + sumI (fun j => if T j then AC H f j else 0) k
  | 0, _ => by simp [held, sumI]
  | k + 1, hk => by
    have ih := AC_held hf hT hfT k (by omega)
    simp only [held, sumI, bfN_get (show k < 5 by omega)]
    by_cases e : f = k
    · subst e
      simp only [AC, hfT, if_true, show f < f + 1 by omega, Nat.lt_irrefl, if_false] at ih ⊢
      omega
    · have w : (f < k + 1) = (f < k) := propext ⟨fun h => by omega, fun h => by omega⟩
      simp only [w]
      by_cases c : T k = true
      · have z : AC H f k = -(H.1 f (4 + k) : Int) := by simp only [AC, e, if_false, hT f hf hfT, hT k (by omega) c, Bool.or_self, Bool.false_eq_true]
        simp only [c, if_true, z]
        omega
      · simp only [Bool.not_eq_true] at c
        simp only [c, Bool.false_eq_true, if_false]
        omega
theorem okM_C {H : Hd} (hH : okH H) : okM (AC H) (BC H) := by
  refine ⟨by decide, ?_, ?_, ?_, fun i hi => absurd hi (by omega), ?_, fun i j _ hj => absurd hj (by omega), ?_⟩
  · intro i j hi hj hij
    simp only [AC, hij, if_false]
    split <;> omega
  · intro i s hi hs
    simp only [BC]
    split <;> omega
  · intro i hi
    have h1 := AC_sum (H := H) (f := i) 5
    have h2 := (hH i hi).1
    rw [if_pos hi] at h1
    simp only [sumN, Nat.reduceAdd, Nat.zero_add, Nat.add_zero] at h1 h2
    by_cases c : lkd H i = true
    · have e1 : sumI (fun s => BC H s i) 5 = 0 := by simp [sumI, BC, c]
      have e2 : ∀ j, j < 5 → 0 ≤ AC H i j := by
        intro j hj
        simp only [AC]
        split
        · omega
        · simp [c]
      have := sumI_nonneg (f := AC H i) (n := 5) e2
      show sumI (fun s => BC H s i) 5 ≤ sumI (AC H i) 5
      omega
    · have e1 : sumI (fun s => BC H s i) 5 = (H.1 i 0 + H.1 i 1 + H.1 i 2 + H.1 i 3 + H.1 i 9 : Nat) := by
        simp only [Bool.not_eq_true] at c
        simp only [sumI, BC, c, Bool.false_eq_true, if_false, if_true, Nat.reduceEqDiff, show ¬ (0 : Nat) = 4 by decide, show ¬ (1 : Nat) = 4 by decide, show ¬ (2 : Nat) = 4 by decide, show ¬ (3 : Nat) = 4 by decide]
        omega
      show sumI (fun s => BC H s i) 5 ≤ sumI (AC H i) 5
      rw [e1]
      omega
  · intro i _ hi
    simp [AC]
  · intro T hne hT
    by_cases hl : ∃ t, T t = true ∧ lkd H t = true
    · obtain ⟨t, t1, t2⟩ := hl
      refine ⟨t, t1, ?_⟩
      have h5 := (hT t t1).2
      have e : sumT T (AC H t) = sumT (fun j => decide (j = t)) (AC H t) := by
        unfold sumT
        refine sumI_congr (fun k _ => ?_)
        by_cases c : k = t
        · subst c; simp [t1]
        · have z : AC H t k = 0 := by simp only [AC, show ¬ t = k from fun q => c q.symm, if_false, t2, Bool.true_or, if_true]
          simp [c, z]
      rw [e, sumT_one h5]
      simp [AC]
    · apply Classical.byContradiction
      intro q
      have hu : ∀ t, t < 5 → T t = true → lkd H t = false := fun t _ ht => by
        cases e : lkd H t with
        | false => rfl
        | true => exact absurd ⟨t, ht, e⟩ hl
      have hcl : closed H (bfN T 5) := by
        intro f hf hb
        rw [bfN_get hf] at hb
        have h1 := AC_held hf hu hb 5 (Nat.le_refl 5)
        rw [if_pos hf] at h1
        have h2 : ¬ 0 < sumT T (AC H f) := fun z => q ⟨f, hb, z⟩
        unfold sumT at h2
        omega
      have hs := lkC_keep hcl 5
      obtain ⟨t, t1⟩ := hne
      have h5 := (hT t t1).2
      have := hs t h5 (by rw [bfN_get h5]; exact t1)
      have w : lkd H t = true := this
      rw [hu t h5 t1] at w
      cases w
theorem tl_neg : ∀ v, v < 101 → (-(nI v)).toInt64 = Int64.ofInt (-(v : Int)) := by decide +kernel
theorem tl_pos : ∀ v, v < 101 → (nI v).toInt64 = Int64.ofInt (v : Int) := by decide +kernel
theorem l64_0 : (0 : Int64) = Int64.ofInt 0 := rfl
theorem l64_100 : (100 : Int64) = Int64.ofInt 100 := rfl
theorem wrow_12 {h f : Nat} {σ : Sg} {H : Hd} (hf : f < 5) (hr : repC h σ H) (hH : okH H) (hl : σ.1 79 0 = nI (lkN H)) : ∃ σ', L_X4_writeRow_12 h (nI f) (b2i (lkd H f)) FU 0 σ = some (nI 5, σ') ∧ (∀ c, c < 5 → c ≠ f → σ'.2 (80 + 1 + f) c = Int64.ofInt (AC H f c)) ∧ σ'.1 = σ.1 ∧ fr (fun j => j = 80 + 1 + f) σ σ' := by
  refine ex_use (loop_inv (fun m k (a : Sg) => L_X4_writeRow_12 h (nI f) (b2i (lkd H f)) m (nI k) a) (fun k a => (∀ c, c < k → c ≠ f → a.2 (80 + 1 + f) c = Int64.ofInt (AC H f c)) ∧ a.1 = σ.1 ∧ fr (fun j => j = 80 + 1 + f) σ a) 5 (fun a => (nI 5, a)) (by decide) (fun k hk m a ha => ?_) (fun m a ha => ?_) σ ⟨fun c hc => absurd hc (by omega), rfl, fr.rf⟩) (fun σ' h1 h2 => ⟨σ', h2, h1⟩)
  · obtain ⟨i1, i2, i3⟩ := ha
    have hb := has_ok _ (lkN_lt H) k hk
    have hv := (hr.1 f hf (4 + k) (by omega)).1
    have hvb := hH.sh hf (show 4 + k < 10 by omega)
    have hn := tl_neg (H.1 f (4 + k)) (by omega)
    have step : ∃ v, L_X4_writeRow_12 h (nI f) (b2i (lkd H f)) (m + 1) (nI k) a = L_X4_writeRow_12 h (nI f) (b2i (lkd H f)) m (nI (k + 1)) (setL a (80 + 1 + f) (vp_updL (a.2 (80 + 1 + f)) k v)) ∧ (k ≠ f → v = Int64.ofInt (AC H f k)) := by
      rw [L_X4_writeRow_12, i2, hl]
      rcases Bool.eq_false_or_eq_true (lkd H f) with c1 | c1
      · refine ⟨0, ?_, fun hkf => ?_⟩
        · simp (disch := omega) only [li0, li1, li2, li3, li4, li5, li6, li7, li8, li9, li10, li15, li31, li32, li40, li41, li49, li50, li99, li100, li999, c_le, c_lt, c_eq, c_tn, c_inb, c_add, c1, b2i_t, jn, hf, show k < 10 by omega, show ¬ 5 ≤ k by omega, Nat.one_ne_zero, Option.bind_some, if_true, if_false, ite_true, ite_false, ↓reduceIte, Nat.le_refl, Nat.lt_irrefl, Nat.reduceAdd, Nat.reduceLeDiff, Nat.reduceLT, Nat.reduceEqDiff, Bool.false_eq_true]
        · simp only [AC, show ¬ f = k from fun q => hkf q.symm, if_false, c1, Bool.true_or, if_true]; rfl
      · rcases Bool.eq_false_or_eq_true (lkd H k) with c2 | c2
        · rw [show (lkN H).testBit k = true from c2] at hb
          refine ⟨0, ?_, fun hkf => ?_⟩
          · simp (disch := omega) only [li0, li1, li2, li3, li4, li5, li6, li7, li8, li9, li10, li15, li31, li32, li40, li41, li49, li50, li99, li100, li999, c_le, c_lt, c_eq, c_tn, c_inb, c_add, c1, b2i_t, b2i_f, hb, jn, hf, show k < 10 by omega, show ¬ 5 ≤ k by omega, Nat.one_ne_zero, Option.bind_some, if_true, if_false, ite_true, ite_false, ↓reduceIte, Nat.le_refl, Nat.lt_irrefl, Nat.reduceAdd, Nat.reduceLeDiff, Nat.reduceLT, Nat.reduceEqDiff, Bool.false_eq_true]
          · simp only [AC, show ¬ f = k from fun q => hkf q.symm, if_false, c2, Bool.or_true, if_true]; rfl
        · rw [show (lkN H).testBit k = false from c2] at hb
          refine ⟨Int64.ofInt (-(H.1 f (4 + k) : Int)), ?_, fun hkf => ?_⟩
          · simp (disch := omega) only [li0, li1, li2, li3, li4, li5, li6, li7, li8, li9, li10, li15, li31, li32, li40, li41, li49, li50, li99, li100, li999, c_le, c_lt, c_eq, c_tn, c_inb, c_add, c1, b2i_f, hb, jn, hf, hold_ok k hk, hv, hn, show 4 + k < 10 by omega, show k < 10 by omega, show ¬ 5 ≤ k by omega, Nat.one_ne_zero, Option.bind_some, if_true, if_false, ite_true, ite_false, ↓reduceIte, Nat.le_refl, Nat.lt_irrefl, Nat.reduceAdd, Nat.reduceLeDiff, Nat.reduceLT, Nat.reduceEqDiff, Bool.false_eq_true]
          · simp only [AC, show ¬ f = k from fun q => hkf q.symm, if_false, c1, c2, Bool.or_self, Bool.false_eq_true]
    obtain ⟨v, e1, e2⟩ := step
    refine ⟨_, e1, fun c hc hcf => ?_, i2, i3.tr (fr.setL rfl)⟩
    by_cases e : c = k
    · subst e
      rw [sL_s, uL_s]
      exact e2 hcf
    · rw [sL_s, uL_n _ _ e]
      exact i1 c (by omega) hcf
  · rw [L_X4_writeRow_12]
    simp (disch := omega) only [li0, li1, li2, li3, li4, li5, li6, li7, li8, li9, li10, li15, li31, li32, li40, li41, li49, li50, li99, li100, li999, c_le, c_lt, c_eq, c_tn, c_inb, c_add, if_true, if_false, ite_true, ite_false, ↓reduceIte, Nat.le_refl, Nat.lt_irrefl, Nat.reduceAdd, Nat.reduceLeDiff, Nat.reduceLT, Nat.reduceEqDiff, Bool.false_eq_true]
theorem wrow_93 {h f : Nat} {σ : Sg} {H : Hd} (hf : f < 5) (hr : repC h σ H) (hH : okH H) : ∃ σ', L_X4_writeRow_93 h (nI f) (b2i (lkd H f)) FU 0 σ = some (nI 5, σ') ∧ (∀ s, s < 5 → σ'.2 (80 + 1 + f) (5 + s) = Int64.ofInt (BC H s f)) ∧ (∀ c, c < 5 → σ'.2 (80 + 1 + f) c = σ.2 (80 + 1 + f) c) ∧ σ'.1 = σ.1 ∧ fr (fun j => j = 80 + 1 + f) σ σ' := by
  refine ex_use (loop_inv (fun m k (a : Sg) => L_X4_writeRow_93 h (nI f) (b2i (lkd H f)) m (nI k) a) (fun k a => (∀ s, s < k → a.2 (80 + 1 + f) (5 + s) = Int64.ofInt (BC H s f)) ∧ (∀ c, c < 5 → a.2 (80 + 1 + f) c = σ.2 (80 + 1 + f) c) ∧ a.1 = σ.1 ∧ fr (fun j => j = 80 + 1 + f) σ a) 5 (fun a => (nI 5, a)) (by decide) (fun k hk m a ha => ?_) (fun m a ha => ?_) σ ⟨fun c hc => absurd hc (by omega), fun _ _ => rfl, rfl, fr.rf⟩) (fun σ' h1 h2 => ⟨σ', h2, h1⟩)
  · obtain ⟨i1, i0, i2, i3⟩ := ha
    have step : L_X4_writeRow_93 h (nI f) (b2i (lkd H f)) (m + 1) (nI k) a = L_X4_writeRow_93 h (nI f) (b2i (lkd H f)) m (nI (k + 1)) (setL a (80 + 1 + f) (vp_updL (a.2 (80 + 1 + f)) (5 + k) (Int64.ofInt (BC H k f)))) := by
      rw [L_X4_writeRow_93, i2]
      simp only [BC]
      rcases Bool.eq_false_or_eq_true (lkd H f) with c1 | c1
      · by_cases c4 : k = 4 <;> simp (disch := omega) only [li0, li1, li2, li3, li4, li5, li6, li7, li8, li9, li10, li15, li31, li32, li40, li41, li49, li50, li99, li100, li999, c_le, c_lt, c_eq, c_tn, c_inb, c_add, c1, c4, b2i_t, jn, hf, show 5 + k < 10 by omega, show ¬ 5 ≤ k by omega, Nat.one_ne_zero, Option.bind_some, if_true, if_false, ite_true, ite_false, ↓reduceIte, Nat.le_refl, Nat.lt_irrefl, Nat.reduceAdd, Nat.reduceLeDiff, Nat.reduceLT, Nat.reduceEqDiff, Bool.false_eq_true] <;> rfl
      · by_cases c4 : k = 4
        · subst c4
          have hv := (hr.1 f hf 9 (by omega)).1
          have hvb := hH.sh hf (show 9 < 10 by omega)
          have hn := tl_pos (H.1 f 9) (by omega)
          simp (disch := omega) only [li0, li1, li2, li3, li4, li5, li6, li7, li8, li9, li10, li15, li31, li32, li40, li41, li49, li50, li99, li100, li999, c_le, c_lt, c_eq, c_tn, c_inb, c_add, c1, b2i_f, jn, hf, hv, hn, show (9 : Nat) < 10 by decide, Option.bind_some, if_true, if_false, ite_true, ite_false, ↓reduceIte, Nat.le_refl, Nat.lt_irrefl, Nat.reduceAdd, Nat.reduceLeDiff, Nat.reduceLT, Nat.reduceEqDiff, Bool.false_eq_true]
        · have hv := (hr.1 f hf k (by omega)).1
          have hvb := hH.sh hf (show k < 10 by omega)
          have hn := tl_pos (H.1 f k) (by omega)
          simp (disch := omega) only [li0, li1, li2, li3, li4, li5, li6, li7, li8, li9, li10, li15, li31, li32, li40, li41, li49, li50, li99, li100, li999, c_le, c_lt, c_eq, c_tn, c_inb, c_add, c1, c4, b2i_f, jn, hf, hv, hn, show k < 10 by omega, show 5 + k < 10 by omega, show ¬ 5 ≤ k by omega, Option.bind_some, if_true, if_false, ite_true, ite_false, ↓reduceIte, Nat.le_refl, Nat.lt_irrefl, Nat.reduceAdd, Nat.reduceLeDiff, Nat.reduceLT, Nat.reduceEqDiff, Bool.false_eq_true]
    refine ⟨_, step, fun s hs => ?_, fun c hc => ?_, i2, i3.tr (fr.setL rfl)⟩
    · by_cases e : s = k
      · subst e
        rw [sL_s, uL_s]
      · rw [sL_s, uL_n _ _ (by omega)]
        exact i1 s (by omega)
    · rw [sL_s, uL_n _ _ (by omega)]
      exact i0 c hc
  · rw [L_X4_writeRow_93]
    simp (disch := omega) only [li0, li1, li2, li3, li4, li5, li6, li7, li8, li9, li10, li15, li31, li32, li40, li41, li49, li50, li99, li100, li999, c_le, c_lt, c_eq, c_tn, c_inb, c_add, if_true, if_false, ite_true, ite_false, ↓reduceIte, Nat.le_refl, Nat.lt_irrefl, Nat.reduceAdd, Nat.reduceLeDiff, Nat.reduceLT, Nat.reduceEqDiff, Bool.false_eq_true]
theorem VV0 (A : Nat → Nat → Int) (i : Nat) (c : Nat → Int) : VV A 0 i c = c i := by
  show (if i < 0 then _ else (1 : Int) * c i - 0) = _
  rw [if_neg (Nat.not_lt_zero i), Int.one_mul, Int.sub_zero]
theorem wrow_ok {h f : Nat} {σ : Sg} {H : Hd} (hf : f < 5) (hr : repC h σ H) (hH : okH H) (hl : σ.1 79 0 = nI (lkN H)) : ∃ σ', f_X4_writeRow h (nI f) σ = some σ' ∧ rowW σ' (AC H) (BC H) 0 f ∧ σ'.1 = σ.1 ∧ fr (fun j => j = 80 + 1 + f) σ σ' := by
  have hb := has_ok _ (lkN_lt H) f hf
  obtain ⟨σ1, e1, e2, e3, e4⟩ := wrow_12 hf hr hH hl
  have hr' : repC h (setL σ1 (80 + 1 + f) (vp_updL (σ1.2 (80 + 1 + f)) f 100)) H := hr.kept (fun j _ _ => by rw [sL_1, e3])
  obtain ⟨σ2, g1, g2, g3, g4, g5⟩ := wrow_93 (σ := setL σ1 (80 + 1 + f) (vp_updL (σ1.2 (80 + 1 + f)) f 100)) hf hr' hH
  refine ⟨σ2, ?_, fun c hc => ?_, by rw [g4, sL_1, e3], fr.tr e4 (fr.tr (fr.setL rfl) g5)⟩
  · unfold f_X4_writeRow
    rw [hl, hb, show L_X4_writeRow_12 h (nI f) (b2i ((lkN H).testBit f)) FU 0 σ = _ from e1]
    simp (disch := omega) only [li0, li1, li2, li3, li4, li5, li6, li7, li8, li9, li10, li15, li31, li32, li40, li41, li49, li50, li99, li100, li999, c_le, c_lt, c_eq, c_tn, c_inb, c_add, Option.bind_some, hf, show f < 10 by omega, jn, if_true, if_false, ite_true, ite_false, ↓reduceIte, Nat.le_refl, Nat.lt_irrefl, Nat.reduceAdd, Nat.reduceLeDiff, Nat.reduceLT, Nat.reduceEqDiff, Bool.false_eq_true]
    rw [show L_X4_writeRow_93 h (nI f) (b2i ((lkN H).testBit f)) FU (nI 0) _ = _ from g1]
    rfl
  · unfold WW
    by_cases c5 : c < 5
    · rw [if_pos c5, VV0, g3 c c5, sL_s]
      by_cases e : c = f
      · subst e
        rw [uL_s]
        simp only [AC, if_true]
        rfl
      · rw [uL_n _ _ e]
        exact e2 c c5 e
    · rw [if_neg c5, VV0]
      have := g2 (c - 5) (by omega)
      rw [show 5 + (c - 5) = c by omega] at this
      exact this
def stakOK (σ : Sg) (H : Hd) : Prop := σ.1 79 0 = nI (lkN H) ∧ ∀ f, f < 5 → rowW σ (AC H) (BC H) 5 f
def inSt (j : Nat) : Prop := j = 79 ∨ inS j
theorem stak_ok {h : Nat} {σ : Sg} {H : Hd} (hh : h + 13 < 79) (hr : repC h σ H) (hH : okH H) : ∃ σ', f_X4_workOut h σ = some σ' ∧ stakOK σ' H ∧ fr inSt σ σ' := by
  have hl := lock_ok hr hH
  have hr1 : repC h (setR σ 79 (upd (σ.1 79) 0 (nI (lkN H)))) H := hr.kept (fun j _ _ => by rw [sR_n]; omega)
  have hl1 : (setR σ 79 (upd (σ.1 79) 0 (nI (lkN H)))).1 79 0 = nI (lkN H) := by rw [sR_s, up_s]
  refine ex_use (loop_inv (fun m k (a : Sg) => L_X4_workOut_10 h m (nI k) a) (fun k a => (∀ f, f < k → rowW a (AC H) (BC H) 0 f) ∧ a.1 = (setR σ 79 (upd (σ.1 79) 0 (nI (lkN H)))).1 ∧ fr inS (setR σ 79 (upd (σ.1 79) 0 (nI (lkN H)))) a) 5 (fun a => (nI 5, a)) (by decide) (fun k hk m a ha => ?_) (fun m a ha => ?_) (setR σ 79 (upd (σ.1 79) 0 (nI (lkN H)))) ⟨fun c hc => absurd hc (by omega), rfl, fr.rf⟩) (fun σ1 h1 h2 => ?_)
  · obtain ⟨i1, i2, i3⟩ := ha
    obtain ⟨σ1, e1, e2, e3, e4⟩ := wrow_ok (h := h) (σ := a) hk (hr1.kept (fun j _ _ => by rw [i2])) hH (by rw [i2]; exact hl1)
    refine ⟨σ1, (by rw [L_X4_workOut_10]; simp (disch := omega) only [li0, li1, li2, li3, li4, li5, li6, li7, li8, li9, li10, li15, li31, li32, li40, li41, li49, li50, li99, li100, li999, c_le, c_lt, c_eq, c_tn, c_inb, c_add, show ¬ 5 ≤ k by omega, e1, Option.bind_some, if_true, if_false, ite_true, ite_false, ↓reduceIte, Nat.le_refl, Nat.lt_irrefl, Nat.reduceAdd, Nat.reduceLeDiff, Nat.reduceLT, Nat.reduceEqDiff, Bool.false_eq_true]), fun f hf => ?_, e3.trans i2, i3.tr (e4.mono (fun j hj => by unfold inS; omega))⟩
    by_cases e : f = k
    · subst e; exact e2
    · intro c hc
      rw [(e4 (80 + 1 + f) (by omega)).2]
      exact i1 f (by omega) c hc
  · rw [L_X4_workOut_10]
    simp (disch := omega) only [li0, li1, li2, li3, li4, li5, li6, li7, li8, li9, li10, li15, li31, li32, li40, li41, li49, li50, li99, li100, li999, c_le, c_lt, c_eq, c_tn, c_inb, c_add, if_true, if_false, ite_true, ite_false, ↓reduceIte, Nat.le_refl, Nat.lt_irrefl, Nat.reduceAdd, Nat.reduceLeDiff, Nat.reduceLT, Nat.reduceEqDiff, Bool.false_eq_true]
  · obtain ⟨σ2, s1, s2, s3⟩ := solve_ok (okM_C hH) h1.1
    refine ⟨σ2, ?_, ⟨?_, s2⟩, ?_⟩
    · unfold f_X4_workOut
      rw [hl, Option.bind_some]
      simp only [jn]
      rw [show L_X4_workOut_10 h FU 0 _ = _ from h2, Option.bind_some]
      show Option.bind (f_X4_solve σ1) _ = _
      rw [s1]
      rfl
    · rw [(s3 79 (by unfold inS; omega)).1, h1.2.1]
      exact hl1
    · exact fr.tr (fr.setR (Or.inl rfl)) ((h1.2.2.tr s3).mono (fun j hj => Or.inr hj))
