/-! LOCKED firms -/
def held (H : Hd) (f s : Nat) : Nat → Nat
  | 0 => 0
  | k + 1 => held H f s k + (if s.testBit k then H.1 f (4 + k) else 0)
theorem held_mono {H : Hd} {f s t : Nat} (h : sb s t) : ∀ k, k ≤ 5 → held H f s k ≤ held H f t k
  | 0, _ => Nat.le_refl 0
  | k + 1, hk => by
    have := held_mono (H := H) (f := f) h k (by omega)
    simp only [held]
    by_cases c : s.testBit k = true
    · rw [if_pos c, if_pos (h k (by omega) c)]; omega
    · rw [if_neg c]; omega
theorem held_le {H : Hd} (hH : okH H) {f s : Nat} (hf : f < 5) : ∀ k, k ≤ 5 → held H f s k ≤ 100 := by
  have h1 : ∀ k, held H f s k ≤ sumN (fun j => H.1 f (4 + j)) k := by
    intro k
    induction k with
    | zero => exact Nat.le_refl 0
    | succ k ih =>
      simp only [held, sumN]
      split <;> omega
  intro k hk
  have h2 := h1 k
  have h3 := (hH f hf).1
  have h4 : sumN (fun j => H.1 f (4 + j)) 5 + (H.1 f 0 + H.1 f 1 + H.1 f 2 + H.1 f 3 + H.1 f 9) = 100 := by
    simp only [sumN, Nat.reduceAdd, Nat.zero_add, Nat.add_zero] at h3 ⊢
    omega
  have h5 : ∀ j, sumN (fun j => H.1 f (4 + j)) k ≤ sumN (fun j => H.1 f (4 + j)) (k + j) := by
    intro j
    induction j with
    | zero => exact Nat.le_refl _
    | succ j ih => exact Nat.le_trans ih (Nat.le_add_right _ _)
  have h6 := h5 (5 - k)
  rw [show k + (5 - k) = 5 by omega] at h6
  omega
/-- one pass of the component: firms go that are not held whole -/
def lkP (H : Hd) (s : Nat) : Nat → Nat
  | 0 => s
  | k + 1 => if (lkP H s k).testBit k && decide (held H k (lkP H s k) 5 < 100) then lkP H s k &&& (511 ^^^ (1 <<< k)) else lkP H s k
def lkC (H : Hd) : Nat → Nat
  | 0 => 31
  | i + 1 => lkP H (lkC H i) 5
theorem lkP_lt {H : Hd} {s : Nat} (hs : s < 32) : ∀ k, lkP H s k < 32
  | 0 => hs
  | k + 1 => by
    simp only [lkP]
    split
    · exact Nat.lt_of_le_of_lt Nat.and_le_left (lkP_lt hs k)
    · exact lkP_lt hs k
theorem lkC_lt (H : Hd) : ∀ i, lkC H i < 32
  | 0 => by show 31 < 32; decide
  | i + 1 => lkP_lt (lkC_lt H i) 5
theorem sb_and_l (a b : Nat) : sb (a &&& b) a := fun j _ h => by
  rw [Nat.testBit_and] at h
  simp only [Bool.and_eq_true] at h
  exact h.1
theorem lkP_dn (H : Hd) (s k : Nat) : ∀ j, sb (lkP H s (k + j)) (lkP H s k)
  | 0 => sb_rf _
  | j + 1 => by
    refine sb_tr ?_ (lkP_dn H s k j)
    show sb (lkP H s (k + j + 1)) _
    simp only [lkP]
    split
    · exact sb_and_l _ _
    · exact sb_rf _
def closed (H : Hd) (s : Nat) : Prop := ∀ f, f < 5 → s.testBit f = true → 100 ≤ held H f s 5
theorem lkP_keep {H : Hd} {s S : Nat} (h : sb S s) (hc : closed H S) : ∀ k, k ≤ 5 → sb S (lkP H s k)
  | 0, _ => h
  | k + 1, hk => by
    have ih := lkP_keep h hc k (by omega)
    simp only [lkP]
    split
    · rename_i c
      simp only [Bool.and_eq_true, decide_eq_true_eq] at c
      intro j hj hb
      rw [tb_andn _ _ _ (by omega), ih j hj hb]
      by_cases e : j = k
      · subst e
        have h1 := hc j hj hb
        have h2 := held_mono (H := H) (f := j) ih 5 (Nat.le_refl 5)
        omega
      · simp [e]
    · exact ih
theorem lkC_keep {H : Hd} {S : Nat} (hc : closed H S) : ∀ i, sb S (lkC H i)
  | 0 => fun j hj _ => (by decide +kernel : ∀ j, j < 5 → (31 : Nat).testBit j = true) j hj
  | i + 1 => lkP_keep (lkC_keep hc i) hc 5 (Nat.le_refl 5)
theorem lkC_fix {H : Hd} (i : Nat) (h : lkC H (i + 1) = lkC H i) : ∀ j, lkC H (i + j) = lkC H i
  | 0 => rfl
  | j + 1 => by
    show lkP H (lkC H (i + j)) 5 = _
    rw [lkC_fix i h j]
    exact h
theorem lkC_pop (H : Hd) : ∀ i, (∀ k, k < i → lkC H (k + 1) ≠ lkC H k) → popc (lkC H i) + i ≤ 5
  | 0, _ => by show popc 31 + 0 ≤ 5; decide
  | i + 1, h => by
    have i1 := lkC_pop H i (fun k hk => h k (by omega))
    have h0 := lkP_dn H (lkC H i) 0 5
    rw [show 0 + 5 = 5 from rfl] at h0
    have h1 := sb_and (lkC_lt H (i + 1)) (show sb (lkC H (i + 1)) (lkC H i) from h0)
    have h2 := popc_sub _ (lkC_lt H (i + 1)) _ (lkC_lt H i) h1 (fun q => h i (by omega) q)
    omega
theorem lkC_6 (H : Hd) : lkC H 6 = lkC H 5 := by
  by_cases hall : ∀ k, k < 6 → lkC H (k + 1) ≠ lkC H k
  · have h1 := lkC_pop H 6 hall
    omega
  · obtain ⟨k, hk⟩ : ∃ k, k < 6 ∧ lkC H (k + 1) = lkC H k := by
      apply Classical.byContradiction
      intro q
      exact hall (fun k h1 h2 => q ⟨k, h1, h2⟩)
    have h5 := lkC_fix k hk.2 (5 - k)
    have h6 := lkC_fix k hk.2 (6 - k)
    rw [show k + (5 - k) = 5 by omega] at h5
    rw [show k + (6 - k) = 6 by omega] at h6
    rw [h5, h6]
def lkN (H : Hd) : Nat := lkC H 5
theorem lkN_lt (H : Hd) : lkN H < 32 := lkC_lt H 5
theorem lkN_closed (H : Hd) : closed H (lkN H) := by
  intro f hf hb
  have e : lkP H (lkN H) 5 = lkN H := lkC_6 H
  have h1 : lkP H (lkN H) f = lkN H := by
    refine sb_eq (lkP_lt (lkN_lt H) f) (lkN_lt H) ?_ ?_
    · have := lkP_dn H (lkN H) 0 f
      rw [Nat.zero_add] at this
      exact this
    · have := lkP_dn H (lkN H) f (5 - f)
      rw [show f + (5 - f) = 5 by omega, e] at this
      exact this
  apply Classical.byContradiction
  intro q
  have h2 : (lkP H (lkN H) (f + 1)).testBit f = false := by
    simp only [lkP, h1, hb, Bool.true_and, show held H f (lkN H) 5 < 100 by omega, decide_true, if_true]
    rw [tb_andn _ _ _ (by omega)]
    simp
  have h3 := lkP_dn H (lkN H) (f + 1) (4 - f)
  rw [show f + 1 + (4 - f) = 5 by omega, e] at h3
  have := h3 f hf hb
  rw [h2] at this
  cases this
theorem heldC_ok {h f s : Nat} {σ : Sg} {H : Hd} (hr : repC h σ H) (hH : okH H) (hf : f < 5) (hs : s < 32) : f_X2_sharesHeldBy h (nI f) (nI s) σ = some (nI (held H f s 5)) := by
  have hrun := run_FU (fun m k => L_X2_sharesHeldBy_5 h (nI f) (nI s) σ m (nI (held H f s k)) (nI k)) 5 (some (nI (held H f s 5), nI 5)) (by omega) (fun k hk m => by
    have hw := has_ok s hs k hk
    have hv := (hr.1 f hf (4 + k) (by omega)).1
    show L_X2_sharesHeldBy_5 h (nI f) (nI s) σ (m + 1) _ (nI k) = _
    rw [L_X2_sharesHeldBy_5]
    rcases Bool.eq_false_or_eq_true (s.testBit k) with c | c
    · rw [c] at hw
      simp (disch := omega) only [li0, li1, li2, li3, li4, li5, li6, li7, li8, li9, li10, li15, li31, li32, li40, li41, li49, li50, li99, li100, li999, c_le, c_lt, c_eq, c_tn, c_inb, c_add, hw, b2i_t, hf, hold_ok k hk, hv, Nat.one_ne_zero, show ¬ 5 ≤ k by omega, show 4 + k < 10 by omega, held, c, if_true, if_false, ite_true, ite_false, ↓reduceIte, Nat.le_refl, Nat.lt_irrefl, Nat.reduceAdd, Nat.reduceLeDiff, Nat.reduceLT, Nat.reduceEqDiff, Bool.false_eq_true]
    · rw [c] at hw
      simp (disch := omega) only [li0, li1, li2, li3, li4, li5, li6, li7, li8, li9, li10, li15, li31, li32, li40, li41, li49, li50, li99, li100, li999, c_le, c_lt, c_eq, c_tn, c_inb, c_add, hw, b2i_f, show ¬ 5 ≤ k by omega, held, c, Nat.add_zero, if_true, if_false, ite_true, ite_false, ↓reduceIte, Nat.le_refl, Nat.lt_irrefl, Nat.reduceAdd, Nat.reduceLeDiff, Nat.reduceLT, Nat.reduceEqDiff, Bool.false_eq_true]) (fun m => by
    show L_X2_sharesHeldBy_5 h (nI f) (nI s) σ (m + 1) _ (nI 5) = _
    rw [L_X2_sharesHeldBy_5]
    simp (disch := omega) only [li0, li1, li2, li3, li4, li5, li6, li7, li8, li9, li10, li15, li31, li32, li40, li41, li49, li50, li99, li100, li999, c_le, c_lt, c_eq, c_tn, c_inb, c_add, if_true, if_false, ite_true, ite_false, ↓reduceIte, Nat.le_refl, Nat.lt_irrefl, Nat.reduceAdd, Nat.reduceLeDiff, Nat.reduceLT, Nat.reduceEqDiff, Bool.false_eq_true])
  unfold f_X2_sharesHeldBy
  rw [show L_X2_sharesHeldBy_5 h (nI f) (nI s) σ FU 0 0 = _ from hrun]
  rfl
theorem lock_ok {h : Nat} {σ : Sg} {H : Hd} (hr : repC h σ H) (hH : okH H) : f_X4_lockedFirms h σ = some (nI (lkN H)) := by
  have inner : ∀ s, s < 32 → ∀ y : Int32, L_X4_lockedFirms_12 h y σ FU (nI s) 0 = some (nI (lkP H s 5), nI 5) := by
    intro s hs y
    exact run_FU (fun m k => L_X4_lockedFirms_12 h y σ m (nI (lkP H s k)) (nI k)) 5 (some (nI (lkP H s 5), nI 5)) (by omega) (fun k hk m => by
      have hl := lkP_lt (H := H) hs k
      have hw := has_ok _ hl k hk
      have hh := heldC_ok hr hH hk hl
      have hb := held_le hH (s := lkP H s k) hk 5 (Nat.le_refl 5)
      have hand : nI (lkP H s k) &&& ((nI 1 <<< (nI k &&& nI 31)) ^^^ -nI 1) = nI (lkP H s k &&& (511 ^^^ (1 <<< k))) := andn_ok _ (by omega) k (by omega)
      show L_X4_lockedFirms_12 h y σ (m + 1) _ (nI k) = _
      rw [L_X4_lockedFirms_12]
      rcases Bool.eq_false_or_eq_true ((lkP H s k).testBit k) with c | c
      · rw [c] at hw
        by_cases c2 : 100 ≤ held H k (lkP H s k) 5
        · simp (disch := omega) only [li0, li1, li2, li3, li4, li5, li6, li7, li8, li9, li10, li15, li31, li32, li40, li41, li49, li50, li99, li100, li999, c_le, c_lt, c_eq, c_tn, c_inb, c_add, hw, b2i_t, hh, Option.bind_some, c2, Nat.one_ne_zero, show ¬ 5 ≤ k by omega, lkP, c, show ¬ held H k (lkP H s k) 5 < 100 by omega, decide_false, Bool.and_false, if_true, if_false, ite_true, ite_false, ↓reduceIte, Nat.le_refl, Nat.lt_irrefl, Nat.reduceAdd, Nat.reduceLeDiff, Nat.reduceLT, Nat.reduceEqDiff, Bool.false_eq_true]
        · simp (disch := omega) only [li0, li1, li2, li3, li4, li5, li6, li7, li8, li9, li10, li15, li31, li32, li40, li41, li49, li50, li99, li100, li999, c_le, c_lt, c_eq, c_tn, c_inb, c_add, hw, b2i_t, hh, Option.bind_some, c2, Nat.one_ne_zero, show ¬ 5 ≤ k by omega, lkP, c, show held H k (lkP H s k) 5 < 100 by omega, decide_true, Bool.and_self, hand, if_true, if_false, ite_true, ite_false, ↓reduceIte, Nat.le_refl, Nat.lt_irrefl, Nat.reduceAdd, Nat.reduceLeDiff, Nat.reduceLT, Nat.reduceEqDiff, Bool.false_eq_true]
      · rw [c] at hw
        simp (disch := omega) only [li0, li1, li2, li3, li4, li5, li6, li7, li8, li9, li10, li15, li31, li32, li40, li41, li49, li50, li99, li100, li999, c_le, c_lt, c_eq, c_tn, c_inb, c_add, hw, b2i_f, show ¬ 5 ≤ k by omega, lkP, c, Bool.false_and, if_true, if_false, ite_true, ite_false, ↓reduceIte, Nat.le_refl, Nat.lt_irrefl, Nat.reduceAdd, Nat.reduceLeDiff, Nat.reduceLT, Nat.reduceEqDiff, Bool.false_eq_true]) (fun m => by
      show L_X4_lockedFirms_12 h y σ (m + 1) _ (nI 5) = _
      rw [L_X4_lockedFirms_12]
      simp (disch := omega) only [li0, li1, li2, li3, li4, li5, li6, li7, li8, li9, li10, li15, li31, li32, li40, li41, li49, li50, li99, li100, li999, c_le, c_lt, c_eq, c_tn, c_inb, c_add, if_true, if_false, ite_true, ite_false, ↓reduceIte, Nat.le_refl, Nat.lt_irrefl, Nat.reduceAdd, Nat.reduceLeDiff, Nat.reduceLT, Nat.reduceEqDiff, Bool.false_eq_true])
  have hrun := run_FU (fun m k => L_X4_lockedFirms_5 h σ m (nI (lkC H k)) (nI k)) 5 (some (nI (lkC H 5), nI 5)) (by omega) (fun k hk m => by
    show L_X4_lockedFirms_5 h σ (m + 1) _ (nI k) = _
    rw [L_X4_lockedFirms_5]
    simp (disch := omega) only [li0, li1, li2, li3, li4, li5, li6, li7, li8, li9, li10, li15, li31, li32, li40, li41, li49, li50, li99, li100, li999, c_le, c_lt, c_eq, c_tn, c_inb, c_add, show ¬ 5 ≤ k by omega, if_true, if_false, ite_true, ite_false, ↓reduceIte, Nat.le_refl, Nat.lt_irrefl, Nat.reduceAdd, Nat.reduceLeDiff, Nat.reduceLT, Nat.reduceEqDiff, Bool.false_eq_true]
    rw [show L_X4_lockedFirms_12 h (nI k) σ FU (nI (lkC H k)) (nI 0) = _ from inner _ (lkC_lt H k) (nI k)]
    rfl) (fun m => by
    show L_X4_lockedFirms_5 h σ (m + 1) _ (nI 5) = _
    rw [L_X4_lockedFirms_5]
    simp (disch := omega) only [li0, li1, li2, li3, li4, li5, li6, li7, li8, li9, li10, li15, li31, li32, li40, li41, li49, li50, li99, li100, li999, c_le, c_lt, c_eq, c_tn, c_inb, c_add, if_true, if_false, ite_true, ite_false, ↓reduceIte, Nat.le_refl, Nat.lt_irrefl, Nat.reduceAdd, Nat.reduceLeDiff, Nat.reduceLT, Nat.reduceEqDiff, Bool.false_eq_true])
  unfold f_X4_lockedFirms
  rw [show L_X4_lockedFirms_5 h σ FU 31 0 = _ from hrun]
  rfl
/-! ### by the reference: all closed sets put together -/
def clB (H : Hd) (s : Nat) : Nat → Bool
  | 0 => true
  | k + 1 => clB H s k && (!s.testBit k || decide (held H k s 5 = 100))
theorem clB_iff {H : Hd} (hH : okH H) {s : Nat} : clB H s 5 = true ↔ closed H s := by
  have h : ∀ k, k ≤ 5 → (clB H s k = true ↔ ∀ f, f < k → s.testBit f = true → 100 ≤ held H f s 5) := by
    intro k
    induction k with
    | zero => intro _; exact ⟨fun _ f hf => absurd hf (by omega), fun _ => rfl⟩
    | succ k ih =>
      intro hk
      simp only [clB, Bool.and_eq_true, Bool.or_eq_true, Bool.not_eq_true', decide_eq_true_eq]
      rw [ih (by omega)]
      have hb := held_le hH (f := k) (s := s) (by omega) 5 (Nat.le_refl 5)
      constructor
      · rintro ⟨h1, h2⟩ f hf hs
        rcases Nat.lt_succ_iff_lt_or_eq.mp hf with e | e
        · exact h1 f e hs
        · subst e
          rcases h2 with h2 | h2
          · rw [hs] at h2; cases h2
          · omega
      · intro hall
        refine ⟨fun f hf hs => hall f (by omega) hs, ?_⟩
        cases e : s.testBit k with
        | false => exact Or.inl rfl
        | true => right; have := hall k (by omega) e; omega
  exact h 5 (Nat.le_refl 5)
def lkR (H : Hd) : Nat → Nat
  | 0 => 0
  | k + 1 => lkR H k ||| (if clB H (k + 1) 5 then k + 1 else 0)
theorem lkR_lt {H : Hd} : ∀ k, k ≤ 31 → lkR H k < 32
  | 0, _ => by show 0 < 32; decide
  | k + 1, hk => by
    simp only [lkR]
    refine or_lt5 _ (lkR_lt k (by omega)) _ ?_
    split <;> omega
theorem lkR_in {H : Hd} (hH : okH H) : ∀ k, k ≤ 31 → sb (lkR H k) (lkN H)
  | 0, _ => sb_0 _
  | k + 1, hk => by
    simp only [lkR]
    exact sb_or (lkR_in hH k (by omega)) (sb_ite (fun c => lkC_keep ((clB_iff hH).mp c) 5))
theorem lkR_has {H : Hd} {s : Nat} (hs : 0 < s) (hc : clB H s 5 = true) : ∀ k, s ≤ k → sb s (lkR H k)
  | 0, h => absurd h (by omega)
  | k + 1, h => by
    simp only [lkR]
    by_cases e : s = k + 1
    · subst e
      rw [if_pos hc]
      exact sb_r _ _
    · exact sb_tr (lkR_has hs hc k (by omega)) (sb_l _ _)
theorem lk_eq {H : Hd} (hH : okH H) : lkR H 31 = lkN H := by
  refine sb_eq (lkR_lt 31 (Nat.le_refl 31)) (lkN_lt H) (lkR_in hH 31 (Nat.le_refl 31)) ?_
  by_cases h0 : lkN H = 0
  · rw [h0]; exact sb_0 _
  · have := lkN_lt H
    exact lkR_has (by omega) ((clB_iff hH).mpr (lkN_closed H)) 31 (by omega)
theorem heldM_ok {f s : Nat} {σ : Sg} {H : Hd} {y z : Int32} (hM : repM σ H) (hf : f < 5) (hs : s < 32) : L_X7_locked_27 y (nI s) z (nI f) σ FU 0 0 = some (nI (held H f s 5), nI 5) :=
  run_FU (fun m k => L_X7_locked_27 y (nI s) z (nI f) σ m (nI (held H f s k)) (nI k)) 5 (some (nI (held H f s 5), nI 5)) (by omega) (fun k hk m => by
    have hw := hasM_ok s hs k hk
    have hv := (hM f hf (4 + k) (by omega)).1
    show L_X7_locked_27 y (nI s) z (nI f) σ (m + 1) _ (nI k) = _
    rw [L_X7_locked_27]
    rcases Bool.eq_false_or_eq_true (s.testBit k) with c | c
    · rw [c] at hw
      simp (disch := omega) only [li0, li1, li2, li3, li4, li5, li6, li7, li8, li9, li10, li15, li31, li32, li40, li41, li49, li50, li99, li100, li999, c_le, c_lt, c_eq, c_tn, c_inb, c_add, hw, b2i_t, at_ok, hv, Nat.one_ne_zero, show ¬ 5 ≤ k by omega, show 5 * (4 + k) + f < 50 by omega, held, c, Option.bind_some, if_true, if_false, ite_true, ite_false, ↓reduceIte, Nat.le_refl, Nat.lt_irrefl, Nat.reduceAdd, Nat.reduceLeDiff, Nat.reduceLT, Nat.reduceEqDiff, Bool.false_eq_true]
    · rw [c] at hw
      simp (disch := omega) only [li0, li1, li2, li3, li4, li5, li6, li7, li8, li9, li10, li15, li31, li32, li40, li41, li49, li50, li99, li100, li999, c_le, c_lt, c_eq, c_tn, c_inb, c_add, hw, b2i_f, show ¬ 5 ≤ k by omega, held, c, Nat.add_zero, Option.bind_some, if_true, if_false, ite_true, ite_false, ↓reduceIte, Nat.le_refl, Nat.lt_irrefl, Nat.reduceAdd, Nat.reduceLeDiff, Nat.reduceLT, Nat.reduceEqDiff, Bool.false_eq_true]) (fun m => by
    show L_X7_locked_27 y (nI s) z (nI f) σ (m + 1) _ (nI 5) = _
    rw [L_X7_locked_27]
    simp (disch := omega) only [li0, li1, li2, li3, li4, li5, li6, li7, li8, li9, li10, li15, li31, li32, li40, li41, li49, li50, li99, li100, li999, c_le, c_lt, c_eq, c_tn, c_inb, c_add, if_true, if_false, ite_true, ite_false, ↓reduceIte, Nat.le_refl, Nat.lt_irrefl, Nat.reduceAdd, Nat.reduceLeDiff, Nat.reduceLT, Nat.reduceEqDiff, Bool.false_eq_true])
theorem lockM_ok {σ : Sg} {H : Hd} (hM : repM σ H) (hH : okH H) : f_X7_locked σ = some (nI (lkN H)) := by
  have mid : ∀ s, s < 32 → ∀ y : Int32, L_X7_locked_15 y (nI s) σ FU 1 0 = some (b2i (clB H s 5), nI 5) := by
    intro s hs y
    exact run_FU (fun m k => L_X7_locked_15 y (nI s) σ m (b2i (clB H s k)) (nI k)) 5 (some (b2i (clB H s 5), nI 5)) (by omega) (fun k hk m => by
      have hw := hasM_ok s hs k hk
      have hh := heldM_ok (y := y) (z := b2i (clB H s k)) hM hk hs
      have hb := held_le hH (s := s) hk 5 (Nat.le_refl 5)
      have hh' : L_X7_locked_27 y (nI s) (b2i (clB H s k)) (nI k) σ FU (nI 0) (nI 0) = some (nI (held H k s 5), nI 5) := hh
      show L_X7_locked_15 y (nI s) σ (m + 1) _ (nI k) = _
      rw [L_X7_locked_15]
      simp (disch := omega) only [li0, li1, li2, li3, li4, li5, li6, li7, li8, li9, li10, li15, li31, li32, li40, li41, li49, li50, li99, li100, li999, c_le, c_lt, c_eq, c_tn, c_inb, c_add, show ¬ 5 ≤ k by omega, if_true, if_false, ite_true, ite_false, ↓reduceIte, Nat.le_refl, Nat.lt_irrefl, Nat.reduceAdd, Nat.reduceLeDiff, Nat.reduceLT, Nat.reduceEqDiff, Bool.false_eq_true]
      rw [hh']
      simp only [Option.bind_some, clB]
      rcases Bool.eq_false_or_eq_true (clB H s k) with c0 | c0
      · rcases Bool.eq_false_or_eq_true (s.testBit k) with c | c
        · rw [c] at hw
          by_cases c2 : held H k s 5 = 100
          · simp (disch := omega) only [li0, li1, li2, li3, li4, li5, li6, li7, li8, li9, li10, li15, li31, li32, li40, li41, li49, li50, li99, li100, li999, c_le, c_lt, c_eq, c_tn, c_inb, c_add, c0, hw, b2i_t, jn, c2, c, Nat.one_ne_zero, decide_true, Bool.or_true, Bool.and_true, if_true, if_false, ite_true, ite_false, ↓reduceIte, Nat.le_refl, Nat.lt_irrefl, Nat.reduceAdd, Nat.reduceLeDiff, Nat.reduceLT, Nat.reduceEqDiff, Bool.false_eq_true]
          · simp (disch := omega) only [li0, li1, li2, li3, li4, li5, li6, li7, li8, li9, li10, li15, li31, li32, li40, li41, li49, li50, li99, li100, li999, c_le, c_lt, c_eq, c_tn, c_inb, c_add, c0, hw, b2i_t, b2i_f, jn, c2, c, Nat.one_ne_zero, decide_false, Bool.or_false, Bool.not_true, Bool.and_false, if_true, if_false, ite_true, ite_false, ↓reduceIte, Nat.le_refl, Nat.lt_irrefl, Nat.reduceAdd, Nat.reduceLeDiff, Nat.reduceLT, Nat.reduceEqDiff, Bool.false_eq_true]
        · rw [c] at hw
          simp (disch := omega) only [li0, li1, li2, li3, li4, li5, li6, li7, li8, li9, li10, li15, li31, li32, li40, li41, li49, li50, li99, li100, li999, c_le, c_lt, c_eq, c_tn, c_inb, c_add, c0, hw, b2i_t, b2i_f, jn, c, Nat.one_ne_zero, Bool.not_false, Bool.true_or, Bool.and_true, if_true, if_false, ite_true, ite_false, ↓reduceIte, Nat.le_refl, Nat.lt_irrefl, Nat.reduceAdd, Nat.reduceLeDiff, Nat.reduceLT, Nat.reduceEqDiff, Bool.false_eq_true]
      · simp (disch := omega) only [li0, li1, li2, li3, li4, li5, li6, li7, li8, li9, li10, li15, li31, li32, li40, li41, li49, li50, li99, li100, li999, c_le, c_lt, c_eq, c_tn, c_inb, c_add, c0, b2i_f, jn, Bool.false_and, if_true, if_false, ite_true, ite_false, ↓reduceIte, Nat.le_refl, Nat.lt_irrefl, Nat.reduceAdd, Nat.reduceLeDiff, Nat.reduceLT, Nat.reduceEqDiff, Bool.false_eq_true]) (fun m => by
      show L_X7_locked_15 y (nI s) σ (m + 1) _ (nI 5) = _
      rw [L_X7_locked_15]
      simp (disch := omega) only [li0, li1, li2, li3, li4, li5, li6, li7, li8, li9, li10, li15, li31, li32, li40, li41, li49, li50, li99, li100, li999, c_le, c_lt, c_eq, c_tn, c_inb, c_add, if_true, if_false, ite_true, ite_false, ↓reduceIte, Nat.le_refl, Nat.lt_irrefl, Nat.reduceAdd, Nat.reduceLeDiff, Nat.reduceLT, Nat.reduceEqDiff, Bool.false_eq_true])
  have hrun := run_FU (fun m k => L_X7_locked_4 σ m (nI (lkR H k)) (nI (k + 1))) 31 (some (nI (lkR H 31), nI 32)) (by omega) (fun k hk m => by
    have hm := mid (k + 1) (by omega) (nI (lkR H k))
    have hl := lkR_lt (H := H) k (by omega)
    show L_X7_locked_4 σ (m + 1) _ (nI (k + 1)) = _
    rw [L_X7_locked_4]
    simp (disch := omega) only [li0, li1, li2, li3, li4, li5, li6, li7, li8, li9, li10, li15, li31, li32, li40, li41, li49, li50, li99, li100, li999, c_le, c_lt, c_eq, c_tn, c_inb, c_add, show ¬ 32 ≤ k + 1 by omega, if_true, if_false, ite_true, ite_false, ↓reduceIte, Nat.le_refl, Nat.lt_irrefl, Nat.reduceAdd, Nat.reduceLeDiff, Nat.reduceLT, Nat.reduceEqDiff, Bool.false_eq_true]
    rw [show L_X7_locked_15 (nI (lkR H k)) (nI (k + 1)) σ FU (nI 1) (nI 0) = _ from hm]
    simp only [lkR]
    rcases Bool.eq_false_or_eq_true (clB H (k + 1) 5) with c | c
    · have hor := oror_ok _ hl (k + 1) (by omega)
      simp (disch := omega) only [li0, li1, li2, li3, li4, li5, li6, li7, li8, li9, li10, li15, li31, li32, li40, li41, li49, li50, li99, li100, li999, c_le, c_lt, c_eq, c_tn, c_inb, c_add, c, b2i_t, Option.bind_some, jn, Nat.one_ne_zero, hor, if_true, if_false, ite_true, ite_false, ↓reduceIte, Nat.le_refl, Nat.lt_irrefl, Nat.reduceAdd, Nat.reduceLeDiff, Nat.reduceLT, Nat.reduceEqDiff, Bool.false_eq_true]
    · have hor := oror_ok _ hl 0 (by omega)
      simp (disch := omega) only [li0, li1, li2, li3, li4, li5, li6, li7, li8, li9, li10, li15, li31, li32, li40, li41, li49, li50, li99, li100, li999, c_le, c_lt, c_eq, c_tn, c_inb, c_add, c, b2i_f, Option.bind_some, jn, hor, if_true, if_false, ite_true, ite_false, ↓reduceIte, Nat.le_refl, Nat.lt_irrefl, Nat.reduceAdd, Nat.reduceLeDiff, Nat.reduceLT, Nat.reduceEqDiff, Bool.false_eq_true]) (fun m => by
    show L_X7_locked_4 σ (m + 1) _ (nI (31 + 1)) = _
    rw [L_X7_locked_4]
    simp (disch := omega) only [li0, li1, li2, li3, li4, li5, li6, li7, li8, li9, li10, li15, li31, li32, li40, li41, li49, li50, li99, li100, li999, c_le, c_lt, c_eq, c_tn, c_inb, c_add, if_true, if_false, ite_true, ite_false, ↓reduceIte, Nat.le_refl, Nat.lt_irrefl, Nat.reduceAdd, Nat.reduceLeDiff, Nat.reduceLT, Nat.reduceEqDiff, Bool.false_eq_true])
  unfold f_X7_locked
  rw [show L_X7_locked_4 σ FU 0 1 = _ from hrun, lk_eq hH]
  rfl
