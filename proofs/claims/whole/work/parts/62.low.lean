/-! THE REFERENCE'S FRACTIONS AND THE COMPONENT'S ARE THE SAME -/
abbrev Tp := Bool × Nat × Nat × Nat × Nat × Nat
def goodT (t : Tp) : Bool := decide (t.2.1 < 5 ∧ 5 ≤ t.2.2.1 ∧ t.2.2.1 < 10 ∧ 10 ≤ t.2.2.2.1 ∧ t.2.2.2.1 < 15 ∧ 15 ≤ t.2.2.2.2.1 ∧ t.2.2.2.2.1 < 20 ∧ 20 ≤ t.2.2.2.2.2 ∧ t.2.2.2.2.2 < 25 ∧ t.2.1 + 5 ≠ t.2.2.1 ∧ t.2.1 + 10 ≠ t.2.2.2.1 ∧ t.2.1 + 15 ≠ t.2.2.2.2.1 ∧ t.2.1 + 20 ≠ t.2.2.2.2.2 ∧ t.2.2.1 + 5 ≠ t.2.2.2.1 ∧ t.2.2.1 + 10 ≠ t.2.2.2.2.1 ∧ t.2.2.1 + 15 ≠ t.2.2.2.2.2 ∧ t.2.2.2.1 + 5 ≠ t.2.2.2.2.1 ∧ t.2.2.2.1 + 10 ≠ t.2.2.2.2.2 ∧ t.2.2.2.2.1 + 5 ≠ t.2.2.2.2.2)
set_option maxRecDepth 100000 in
theorem goodL : ∀ t ∈ (true, 0, 6, 12, 18, 24) :: pls, goodT t = true := by decide +kernel
def prod5 (f : Nat → Int) : Int := f 0 * f 1 * f 2 * f 3 * f 4
theorem prod5_zero {f : Nat → Int} {r : Nat} (hr : r < 5) (h : f r = 0) : prod5 f = 0 := by
  unfold prod5
  rcases (show r = 0 ∨ r = 1 ∨ r = 2 ∨ r = 3 ∨ r = 4 by omega) with rfl | rfl | rfl | rfl | rfl <;> rw [h] <;> simp
theorem prod5_congr {f g : Nat → Int} (h : ∀ r, r < 5 → f r = g r) : prod5 f = prod5 g := by
  unfold prod5
  rw [h 0 (by omega), h 1 (by omega), h 2 (by omega), h 3 (by omega), h 4 (by omega)]
theorem prod5_lock {A A' : Nat → Nat → Int} {Z : Nat → Prop} (hz : ∀ j, j < 5 → Z j → ∀ c, c < 5 → c ≠ j → A j c = 0 ∧ A' j c = 0) (he : ∀ i j, i < 5 → j < 5 → A i j = A' i j ∨ (i ≠ j ∧ Z j)) {p : Nat → Nat} (hp : ∀ i, i < 5 → p i < 5) (hi : ∀ i j, i < 5 → j < 5 → p i = p j → i = j) : prod5 (fun i => A i (p i)) = prod5 (fun i => A' i (p i)) := by
  by_cases h : ∀ r, r < 5 → A r (p r) = A' r (p r)
  · exact prod5_congr h
  · have : ∃ r, r < 5 ∧ ¬ A r (p r) = A' r (p r) := by
      apply Classical.byContradiction
      intro q
      exact h (fun r hr => Classical.byContradiction (fun w => q ⟨r, hr, w⟩))
    obtain ⟨r, hr, hne⟩ := this
    rcases he r (p r) hr (hp r hr) with e | ⟨e1, e2⟩
    · exact absurd e hne
    · have w := hz (p r) (hp r hr) e2 (p (p r)) (hp _ (hp r hr)) (fun q => e1 (hi _ _ (hp r hr) hr q).symm)
      rw [prod5_zero (hp r hr) (f := fun i => A i (p i)) w.1, prod5_zero (hp r hr) (f := fun i => A' i (p i)) w.2]
def flt (A : Nat → Nat → Int) (n : Nat) : Int := A (n / 5) (n % 5)
theorem flt_at (A : Nat → Nat → Int) {i j : Nat} (hj : j < 5) : flt A (5 * i + j) = A i j := by
  unfold flt
  rw [show (5 * i + j) / 5 = i by omega, show (5 * i + j) % 5 = j by omega]
theorem dM_flt (A : Nat → Nat → Int) : dM (flt A) = dd5 A := rfl
def ptm (M : Nat → Int) (t : Tp) : Int := M t.2.1 * M t.2.2.1 * M t.2.2.2.1 * M t.2.2.2.2.1 * M t.2.2.2.2.2
theorem dstep_eq {M M' : Nat → Int} {t : Tp} (a : Int) (h : ptm M t = ptm M' t) : dstep M a t = dstep M' a t := by
  unfold ptm at h
  unfold dstep
  rw [h]
theorem fold_eq {M M' : Nat → Int} : ∀ (l : List Tp) (a : Int), (∀ t ∈ l, ptm M t = ptm M' t) → l.foldl (dstep M) a = l.foldl (dstep M') a
  | [], _, _ => rfl
  | t :: l, a, h => by
    rw [List.foldl_cons, List.foldl_cons, dstep_eq a (h t (List.mem_cons_self ..))]
    exact fold_eq l _ (fun s hs => h s (List.mem_cons_of_mem _ hs))
def pt (t : Tp) (i : Nat) : Nat := if i = 0 then t.2.1 else if i = 1 then t.2.2.1 - 5 else if i = 2 then t.2.2.2.1 - 10 else if i = 3 then t.2.2.2.2.1 - 15 else t.2.2.2.2.2 - 20
theorem ptm_prod {A : Nat → Nat → Int} {t : Tp} (h : goodT t = true) : ptm (flt A) t = prod5 (fun i => A i (pt t i)) := by
  simp only [goodT, decide_eq_true_eq] at h
  unfold ptm prod5
  have e0 := flt_at A (i := 0) (j := pt t 0) (by simp only [pt, if_true]; omega)
  have e1 := flt_at A (i := 1) (j := pt t 1) (by show t.2.2.1 - 5 < 5; omega)
  have e2 := flt_at A (i := 2) (j := pt t 2) (by show t.2.2.2.1 - 10 < 5; omega)
  have e3 := flt_at A (i := 3) (j := pt t 3) (by show t.2.2.2.2.1 - 15 < 5; omega)
  have e4 := flt_at A (i := 4) (j := pt t 4) (by show t.2.2.2.2.2 - 20 < 5; omega)
  rw [show 5 * 0 + pt t 0 = t.2.1 by show 5 * 0 + t.2.1 = _; omega] at e0
  rw [show 5 * 1 + pt t 1 = t.2.2.1 by show 5 * 1 + (t.2.2.1 - 5) = _; omega] at e1
  rw [show 5 * 2 + pt t 2 = t.2.2.2.1 by show 5 * 2 + (t.2.2.2.1 - 10) = _; omega] at e2
  rw [show 5 * 3 + pt t 3 = t.2.2.2.2.1 by show 5 * 3 + (t.2.2.2.2.1 - 15) = _; omega] at e3
  rw [show 5 * 4 + pt t 4 = t.2.2.2.2.2 by show 5 * 4 + (t.2.2.2.2.2 - 20) = _; omega] at e4
  rw [e0, e1, e2, e3, e4]
theorem pt_lt {t : Tp} (h : goodT t = true) {i : Nat} (hi : i < 5) : pt t i < 5 := by
  simp only [goodT, decide_eq_true_eq] at h
  rcases (show i = 0 ∨ i = 1 ∨ i = 2 ∨ i = 3 ∨ i = 4 by omega) with rfl | rfl | rfl | rfl | rfl
  · show t.2.1 < 5; omega
  · show t.2.2.1 - 5 < 5; omega
  · show t.2.2.2.1 - 10 < 5; omega
  · show t.2.2.2.2.1 - 15 < 5; omega
  · show t.2.2.2.2.2 - 20 < 5; omega
theorem pt_inj {t : Tp} (h : goodT t = true) {i j : Nat} (hi : i < 5) (hj : j < 5) (e : pt t i = pt t j) : i = j := by
  simp only [goodT, decide_eq_true_eq] at h
  have z0 : pt t 0 = t.2.1 := rfl
  have z1 : pt t 1 = t.2.2.1 - 5 := rfl
  have z2 : pt t 2 = t.2.2.2.1 - 10 := rfl
  have z3 : pt t 3 = t.2.2.2.2.1 - 15 := rfl
  have z4 : pt t 4 = t.2.2.2.2.2 - 20 := rfl
  rcases (show i = 0 ∨ i = 1 ∨ i = 2 ∨ i = 3 ∨ i = 4 by omega) with rfl | rfl | rfl | rfl | rfl <;> rcases (show j = 0 ∨ j = 1 ∨ j = 2 ∨ j = 3 ∨ j = 4 by omega) with rfl | rfl | rfl | rfl | rfl <;> first | rfl | (exfalso; omega)
theorem dd5_lock {A A' : Nat → Nat → Int} {Z : Nat → Prop} (hz : ∀ j, j < 5 → Z j → ∀ c, c < 5 → c ≠ j → A j c = 0 ∧ A' j c = 0) (he : ∀ i j, i < 5 → j < 5 → A i j = A' i j ∨ (i ≠ j ∧ Z j)) : dd5 A = dd5 A' := by
  rw [← dM_flt A, ← dM_flt A', ← DK_full, ← DK_full]
  unfold DK
  rw [pls_ok]
  refine fold_eq _ _ (fun t ht => ?_)
  have hg := goodL t ht
  rw [ptm_prod hg, ptm_prod hg]
  exact prod5_lock hz he (fun i hi => pt_lt hg hi) (fun i j hi hj q => pt_inj hg hi hj q)
def AR (H : Hd) (f g : Nat) : Int := if f = g then 100 else if lkd H f then 0 else -(H.1 f (4 + g) : Int)
def LO (H : Hd) : Int := dd5 (AC H)
def UP (H : Hd) (s f : Nat) : Int := dd5 (rep (AC H) f (BC H s))
theorem AR_AC {H : Hd} (i j : Nat) : AR H i j = AC H i j ∨ (i ≠ j ∧ lkd H j = true) := by
  by_cases e : i = j
  · left; simp only [AR, AC, e, if_true]
  · by_cases l : lkd H j = true
    · exact Or.inr ⟨e, l⟩
    · left
      simp only [Bool.not_eq_true] at l
      simp only [AR, AC, e, if_false, l, Bool.or_false]
theorem AR_z {H : Hd} {j c : Nat} (l : lkd H j = true) (hc : c ≠ j) : AR H j c = 0 ∧ AC H j c = 0 := by
  simp only [AR, AC, show ¬ j = c from fun q => hc q.symm, if_false, l, if_true, Bool.true_or, and_self]
theorem LO_AR (H : Hd) : dd5 (AR H) = LO H :=
  dd5_lock (Z := fun j => lkd H j = true) (fun _ _ l _ _ hc => AR_z l hc) (fun i j _ _ => AR_AC i j)
theorem UP_AR (H : Hd) (s f : Nat) : dd5 (rep (AR H) f (BC H s)) = UP H s f := by
  refine dd5_lock (Z := fun j => lkd H j = true) (fun j _ l c _ hc => ?_) (fun i j _ _ => ?_)
  · unfold rep
    by_cases e : c = f
    · simp only [e, if_true, BC, l, and_self]
    · simp only [e, if_false]
      exact AR_z l hc
  · unfold rep
    by_cases e : j = f
    · simp only [e, if_true, true_or]
    · simp only [e, if_false]
      exact AR_AC i j
theorem upper_ok {σ : Sg} {H : Hd} (h : stakOK σ H) {f s : Nat} (hf : f < 5) (hs : s < 5) : f_X4_upper (nI f) (nI s) σ = some (Int64.ofInt (UP H s f)) := by
  unfold f_X4_upper
  have := h.2 f hf (5 + s) (by omega)
  simp (disch := omega) only [li0, li1, li2, li3, li4, li5, li6, li7, li8, li9, li10, li15, li31, li32, li40, li41, li49, li50, li99, li100, li999, c_le, c_lt, c_eq, c_tn, c_inb, c_add, hf, show 5 + s < 10 by omega, this, if_true, if_false, ite_true, ite_false, ↓reduceIte, Nat.le_refl, Nat.lt_irrefl, Nat.reduceAdd, Nat.reduceLeDiff, Nat.reduceLT, Nat.reduceEqDiff, Bool.false_eq_true]
  unfold WW VV
  rw [if_neg (by omega), if_pos hf, show 5 + s - 5 = s by omega]
  rfl
theorem lower_ok {σ : Sg} {H : Hd} (h : stakOK σ H) {f : Nat} (hf : f < 5) : f_X4_lower (nI f) σ = some (Int64.ofInt (LO H)) := by
  unfold f_X4_lower
  have := h.2 f hf f (by omega)
  simp (disch := omega) only [li0, li1, li2, li3, li4, li5, li6, li7, li8, li9, li10, li15, li31, li32, li40, li41, li49, li50, li99, li100, li999, c_le, c_lt, c_eq, c_tn, c_inb, c_add, hf, show f < 10 by omega, this, if_true, if_false, ite_true, ite_false, ↓reduceIte, Nat.le_refl, Nat.lt_irrefl, Nat.reduceAdd, Nat.reduceLeDiff, Nat.reduceLT, Nat.reduceEqDiff, Bool.false_eq_true]
  unfold WW VV
  rw [if_pos hf, if_pos hf, rep_self]
  rfl
