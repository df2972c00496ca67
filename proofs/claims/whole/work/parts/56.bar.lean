/-! ELIMINATION: one step, as determinants tell it -/
theorem sumI_congr {f g : Nat → Int} : ∀ {n : Nat}, (∀ k, k < n → f k = g k) → sumI f n = sumI g n
  | 0, _ => rfl
  | n + 1, h => by
    simp only [sumI]
    rw [sumI_congr (fun k hk => h k (by omega)), h n (by omega)]
theorem sumI_sub (f g : Nat → Int) : ∀ n, sumI (fun k => f k - g k) n = sumI f n - sumI g n
  | 0 => rfl
  | n + 1 => by
    simp only [sumI]
    rw [sumI_sub f g n]
    omega
theorem sumI_mul (t : Int) (f : Nat → Int) : ∀ n, sumI (fun k => t * f k) n = t * sumI f n
  | 0 => by simp [sumI]
  | n + 1 => by
    simp only [sumI]
    rw [sumI_mul t f n, Int.mul_add]
theorem rep_self (A : Nat → Nat → Int) (k : Nat) : rep A k (fun i => A i k) = A := by
  funext i j
  unfold rep
  by_cases h : j = k
  · rw [if_pos h, h]
  · rw [if_neg h]
theorem bar_step {p : Nat} {A : Nat → Nat → Int} {dp dq : (Nat → Nat → Int) → Int}
    (hCr : ∀ (c : Nat → Int) (r : Nat), r < p → sumI (fun k => A r k * dp (rep A k c)) p = dp A * c r)
    (hLa : ∀ c : Nat → Int, dq (rep A p c) = dp A * c p - sumI (fun k => A p k * dp (rep A k c)) p)
    (hLin : ∀ (u : Nat → Int) (k : Nat), k < p + 1 → dq (rep A k (fun i => sumI (fun j => A i j * u j) (p + 1))) = u k * dq A)
    (hHom : ∀ (t : Int) (c : Nat → Int) (k : Nat), k < p + 1 → dq (rep A k (fun i => t * c i)) = t * dq (rep A k c))
    (hCong : ∀ (c c' : Nat → Int) (k : Nat), k < p + 1 → (∀ i, i < p + 1 → c i = c' i) → dq (rep A k c) = dq (rep A k c'))
    (hd : dq A ≠ 0) (c : Nat → Int) :
    (∀ k, k < p → dp A * dq (rep A k c) = dq A * dp (rep A k c) - dp (rep A k (fun i => A i p)) * dq (rep A p c)) ∧
    ∀ i, dp A * (dq A * c i - sumI (fun k => A i k * dq (rep A k c)) (p + 1)) = dq A * (dp A * c i - sumI (fun k => A i k * dp (rep A k c)) p) - (dp A * A i p - sumI (fun k => A i k * dp (rep A k (fun j => A j p))) p) * dq (rep A p c) := by
  have hq : dq A = dp A * A p p - sumI (fun k => A p k * dp (rep A k (fun i => A i p))) p := by
    have := hLa (fun i => A i p)
    rw [rep_self] at this
    exact this
  have split : ∀ i, sumI (fun j => A i j * (dq A * dp (rep A j c) - dp (rep A j (fun i => A i p)) * dq (rep A p c))) p = dq A * sumI (fun k => A i k * dp (rep A k c)) p - dq (rep A p c) * sumI (fun k => A i k * dp (rep A k (fun i => A i p))) p := by
    intro i
    rw [← sumI_mul, ← sumI_mul, ← sumI_sub]
    refine sumI_congr (fun k _ => ?_)
    grind
  have first : ∀ k, k < p → dp A * dq (rep A k c) = dq A * dp (rep A k c) - dp (rep A k (fun i => A i p)) * dq (rep A p c) := by
    intro k hk
    have hy := hLin (fun j => if j < p then dq A * dp (rep A j c) - dp (rep A j (fun i => A i p)) * dq (rep A p c) else dp A * dq (rep A p c)) k (by omega)
    have hA : ∀ i, i < p + 1 → sumI (fun j => A i j * (if j < p then dq A * dp (rep A j c) - dp (rep A j (fun i => A i p)) * dq (rep A p c) else dp A * dq (rep A p c))) (p + 1) = (dp A * dq A) * c i := by
      intro i hi
      have e1 : sumI (fun j => A i j * (if j < p then dq A * dp (rep A j c) - dp (rep A j (fun i => A i p)) * dq (rep A p c) else dp A * dq (rep A p c))) p = sumI (fun j => A i j * (dq A * dp (rep A j c) - dp (rep A j (fun i => A i p)) * dq (rep A p c))) p := sumI_congr (fun j hj => by rw [if_pos hj])
      simp only [sumI, Nat.lt_irrefl, if_false]
      rw [e1, split i]
      by_cases c1 : i < p
      · rw [hCr c i c1, hCr (fun i => A i p) i c1]
        grind
      · have : i = p := by omega
        subst this
        have h1 := hLa c
        grind
    rw [hCong _ _ k (by omega) hA, hHom _ _ k (by omega)] at hy
    simp only [hk, if_true] at hy
    have : dq A * (dp A * dq (rep A k c)) = dq A * (dq A * dp (rep A k c) - dp (rep A k (fun i => A i p)) * dq (rep A p c)) := by grind
    exact Int.eq_of_mul_eq_mul_left hd this
  refine ⟨first, fun i => ?_⟩
  have e2 : dp A * sumI (fun k => A i k * dq (rep A k c)) p = dq A * sumI (fun k => A i k * dp (rep A k c)) p - dq (rep A p c) * sumI (fun k => A i k * dp (rep A k (fun i => A i p))) p := by
    rw [← sumI_mul, ← split i]
    refine sumI_congr (fun k hk => ?_)
    have := first k hk
    grind
  simp only [sumI]
  grind
theorem cr0 (A : Nat → Nat → Int) (c : Nat → Int) (r : Nat) (hr : r < 0) : sumI (fun k => A r k * dd0 (rep A k c)) 0 = dd0 A * c r := absurd hr (by omega)
theorem laF0 (A : Nat → Nat → Int) (c : Nat → Int) : dd1 (rep A 0 c) = dd0 A * c 0 - sumI (fun k => A 0 k * dd0 (rep A k c)) 0 := by
  simp only [dd1, det1, dd0, sumI, rep, if_true]
  omega
theorem linF1 (A : Nat → Nat → Int) (u : Nat → Int) (k : Nat) (hk : k < 0 + 1) : dd1 (rep A k (fun i => sumI (fun j => A i j * u j) (0 + 1))) = u k * dd1 A := by
  rcases (show k = 0 by omega) with rfl
  · simp only [sumI, dd1, rep, Nat.reduceEqDiff, ↓reduceIte, if_true, if_false, Nat.zero_ne_one, Nat.one_ne_zero, reduceCtorEq]
    exact lin1_0 _ _
theorem homF1 (A : Nat → Nat → Int) (t : Int) (c : Nat → Int) (k : Nat) (hk : k < 0 + 1) : dd1 (rep A k (fun i => t * c i)) = t * dd1 (rep A k c) := by
  rcases (show k = 0 by omega) with rfl
  · simp only [dd1, rep, Nat.reduceEqDiff, ↓reduceIte, if_true, if_false, Nat.zero_ne_one, Nat.one_ne_zero, reduceCtorEq]
    exact hom1_0 (A 0 0) t (c 0)
theorem congF1 (A : Nat → Nat → Int) (c c' : Nat → Int) (k : Nat) (hk : k < 0 + 1) (h : ∀ i, i < 0 + 1 → c i = c' i) : dd1 (rep A k c) = dd1 (rep A k c') := by
  unfold dd1 rep
  rw [h 0 (by omega)]
theorem crF1 (A : Nat → Nat → Int) (c : Nat → Int) (r : Nat) (hr : r < 1) : sumI (fun k => A r k * dd1 (rep A k c)) 1 = dd1 A * c r := by
  rcases (show r = 0 by omega) with rfl
  · simp only [sumI, dd1, rep, Nat.reduceEqDiff, ↓reduceIte, if_true, if_false, Nat.zero_ne_one, Nat.one_ne_zero, reduceCtorEq]
    exact cr1_0 _ _
theorem laF1 (A : Nat → Nat → Int) (c : Nat → Int) : dd2 (rep A 1 c) = dd1 A * c 1 - sumI (fun k => A 1 k * dd1 (rep A k c)) 1 := by
  simp only [sumI, dd2, dd1, rep, Nat.reduceEqDiff, ↓reduceIte, if_true, if_false, Nat.zero_ne_one, Nat.one_ne_zero, reduceCtorEq]
  exact la1 _ _ _ _
theorem linF2 (A : Nat → Nat → Int) (u : Nat → Int) (k : Nat) (hk : k < 1 + 1) : dd2 (rep A k (fun i => sumI (fun j => A i j * u j) (1 + 1))) = u k * dd2 A := by
  rcases (show k = 0 ∨ k = 1 by omega) with rfl | rfl
  · simp only [sumI, dd2, rep, Nat.reduceEqDiff, ↓reduceIte, if_true, if_false, Nat.zero_ne_one, Nat.one_ne_zero, reduceCtorEq]
    exact lin2_0 _ _ _ _ _ _
  · simp only [sumI, dd2, rep, Nat.reduceEqDiff, ↓reduceIte, if_true, if_false, Nat.zero_ne_one, Nat.one_ne_zero, reduceCtorEq]
    exact lin2_1 _ _ _ _ _ _
theorem homF2 (A : Nat → Nat → Int) (t : Int) (c : Nat → Int) (k : Nat) (hk : k < 1 + 1) : dd2 (rep A k (fun i => t * c i)) = t * dd2 (rep A k c) := by
  rcases (show k = 0 ∨ k = 1 by omega) with rfl | rfl
  · simp only [dd2, rep, Nat.reduceEqDiff, ↓reduceIte, if_true, if_false, Nat.zero_ne_one, Nat.one_ne_zero, reduceCtorEq]
    exact hom2_0 (A 0 0) (A 0 1) (A 1 0) (A 1 1) t (c 0) (c 1)
  · simp only [dd2, rep, Nat.reduceEqDiff, ↓reduceIte, if_true, if_false, Nat.zero_ne_one, Nat.one_ne_zero, reduceCtorEq]
    exact hom2_1 (A 0 0) (A 0 1) (A 1 0) (A 1 1) t (c 0) (c 1)
theorem congF2 (A : Nat → Nat → Int) (c c' : Nat → Int) (k : Nat) (hk : k < 1 + 1) (h : ∀ i, i < 1 + 1 → c i = c' i) : dd2 (rep A k c) = dd2 (rep A k c') := by
  unfold dd2 rep
  rw [h 0 (by omega), h 1 (by omega)]
theorem crF2 (A : Nat → Nat → Int) (c : Nat → Int) (r : Nat) (hr : r < 2) : sumI (fun k => A r k * dd2 (rep A k c)) 2 = dd2 A * c r := by
  rcases (show r = 0 ∨ r = 1 by omega) with rfl | rfl
  · simp only [sumI, dd2, rep, Nat.reduceEqDiff, ↓reduceIte, if_true, if_false, Nat.zero_ne_one, Nat.one_ne_zero, reduceCtorEq]
    exact cr2_0 _ _ _ _ _ _
  · simp only [sumI, dd2, rep, Nat.reduceEqDiff, ↓reduceIte, if_true, if_false, Nat.zero_ne_one, Nat.one_ne_zero, reduceCtorEq]
    exact cr2_1 _ _ _ _ _ _
theorem laF2 (A : Nat → Nat → Int) (c : Nat → Int) : dd3 (rep A 2 c) = dd2 A * c 2 - sumI (fun k => A 2 k * dd2 (rep A k c)) 2 := by
  simp only [sumI, dd3, dd2, rep, Nat.reduceEqDiff, ↓reduceIte, if_true, if_false, Nat.zero_ne_one, Nat.one_ne_zero, reduceCtorEq]
  exact la2 _ _ _ _ _ _ _ _ _
theorem linF3 (A : Nat → Nat → Int) (u : Nat → Int) (k : Nat) (hk : k < 2 + 1) : dd3 (rep A k (fun i => sumI (fun j => A i j * u j) (2 + 1))) = u k * dd3 A := by
  rcases (show k = 0 ∨ k = 1 ∨ k = 2 by omega) with rfl | rfl | rfl
  · simp only [sumI, dd3, rep, Nat.reduceEqDiff, ↓reduceIte, if_true, if_false, Nat.zero_ne_one, Nat.one_ne_zero, reduceCtorEq]
    exact lin3_0 _ _ _ _ _ _ _ _ _ _ _ _
  · simp only [sumI, dd3, rep, Nat.reduceEqDiff, ↓reduceIte, if_true, if_false, Nat.zero_ne_one, Nat.one_ne_zero, reduceCtorEq]
    exact lin3_1 _ _ _ _ _ _ _ _ _ _ _ _
  · simp only [sumI, dd3, rep, Nat.reduceEqDiff, ↓reduceIte, if_true, if_false, Nat.zero_ne_one, Nat.one_ne_zero, reduceCtorEq]
    exact lin3_2 _ _ _ _ _ _ _ _ _ _ _ _
theorem homF3 (A : Nat → Nat → Int) (t : Int) (c : Nat → Int) (k : Nat) (hk : k < 2 + 1) : dd3 (rep A k (fun i => t * c i)) = t * dd3 (rep A k c) := by
  rcases (show k = 0 ∨ k = 1 ∨ k = 2 by omega) with rfl | rfl | rfl
  · simp only [dd3, rep, Nat.reduceEqDiff, ↓reduceIte, if_true, if_false, Nat.zero_ne_one, Nat.one_ne_zero, reduceCtorEq]
    exact hom3_0 (A 0 0) (A 0 1) (A 0 2) (A 1 0) (A 1 1) (A 1 2) (A 2 0) (A 2 1) (A 2 2) t (c 0) (c 1) (c 2)
  · simp only [dd3, rep, Nat.reduceEqDiff, ↓reduceIte, if_true, if_false, Nat.zero_ne_one, Nat.one_ne_zero, reduceCtorEq]
    exact hom3_1 (A 0 0) (A 0 1) (A 0 2) (A 1 0) (A 1 1) (A 1 2) (A 2 0) (A 2 1) (A 2 2) t (c 0) (c 1) (c 2)
  · simp only [dd3, rep, Nat.reduceEqDiff, ↓reduceIte, if_true, if_false, Nat.zero_ne_one, Nat.one_ne_zero, reduceCtorEq]
    exact hom3_2 (A 0 0) (A 0 1) (A 0 2) (A 1 0) (A 1 1) (A 1 2) (A 2 0) (A 2 1) (A 2 2) t (c 0) (c 1) (c 2)
theorem congF3 (A : Nat → Nat → Int) (c c' : Nat → Int) (k : Nat) (hk : k < 2 + 1) (h : ∀ i, i < 2 + 1 → c i = c' i) : dd3 (rep A k c) = dd3 (rep A k c') := by
  unfold dd3 rep
  rw [h 0 (by omega), h 1 (by omega), h 2 (by omega)]
theorem crF3 (A : Nat → Nat → Int) (c : Nat → Int) (r : Nat) (hr : r < 3) : sumI (fun k => A r k * dd3 (rep A k c)) 3 = dd3 A * c r := by
  rcases (show r = 0 ∨ r = 1 ∨ r = 2 by omega) with rfl | rfl | rfl
  · simp only [sumI, dd3, rep, Nat.reduceEqDiff, ↓reduceIte, if_true, if_false, Nat.zero_ne_one, Nat.one_ne_zero, reduceCtorEq]
    exact cr3_0 _ _ _ _ _ _ _ _ _ _ _ _
  · simp only [sumI, dd3, rep, Nat.reduceEqDiff, ↓reduceIte, if_true, if_false, Nat.zero_ne_one, Nat.one_ne_zero, reduceCtorEq]
    exact cr3_1 _ _ _ _ _ _ _ _ _ _ _ _
  · simp only [sumI, dd3, rep, Nat.reduceEqDiff, ↓reduceIte, if_true, if_false, Nat.zero_ne_one, Nat.one_ne_zero, reduceCtorEq]
    exact cr3_2 _ _ _ _ _ _ _ _ _ _ _ _
theorem laF3 (A : Nat → Nat → Int) (c : Nat → Int) : dd4 (rep A 3 c) = dd3 A * c 3 - sumI (fun k => A 3 k * dd3 (rep A k c)) 3 := by
  simp only [sumI, dd4, dd3, rep, Nat.reduceEqDiff, ↓reduceIte, if_true, if_false, Nat.zero_ne_one, Nat.one_ne_zero, reduceCtorEq]
  exact la3 _ _ _ _ _ _ _ _ _ _ _ _ _ _ _ _
theorem linF4 (A : Nat → Nat → Int) (u : Nat → Int) (k : Nat) (hk : k < 3 + 1) : dd4 (rep A k (fun i => sumI (fun j => A i j * u j) (3 + 1))) = u k * dd4 A := by
  rcases (show k = 0 ∨ k = 1 ∨ k = 2 ∨ k = 3 by omega) with rfl | rfl | rfl | rfl
  · simp only [sumI, dd4, rep, Nat.reduceEqDiff, ↓reduceIte, if_true, if_false, Nat.zero_ne_one, Nat.one_ne_zero, reduceCtorEq]
    exact lin4_0 _ _ _ _ _ _ _ _ _ _ _ _ _ _ _ _ _ _ _ _
  · simp only [sumI, dd4, rep, Nat.reduceEqDiff, ↓reduceIte, if_true, if_false, Nat.zero_ne_one, Nat.one_ne_zero, reduceCtorEq]
    exact lin4_1 _ _ _ _ _ _ _ _ _ _ _ _ _ _ _ _ _ _ _ _
  · simp only [sumI, dd4, rep, Nat.reduceEqDiff, ↓reduceIte, if_true, if_false, Nat.zero_ne_one, Nat.one_ne_zero, reduceCtorEq]
    exact lin4_2 _ _ _ _ _ _ _ _ _ _ _ _ _ _ _ _ _ _ _ _
  · simp only [sumI, dd4, rep, Nat.reduceEqDiff, ↓reduceIte, if_true, if_false, Nat.zero_ne_one, Nat.one_ne_zero, reduceCtorEq]
    exact lin4_3 _ _ _ _ _ _ _ _ _ _ _ _ _ _ _ _ _ _ _ _
theorem homF4 (A : Nat → Nat → Int) (t : Int) (c : Nat → Int) (k : Nat) (hk : k < 3 + 1) : dd4 (rep A k (fun i => t * c i)) = t * dd4 (rep A k c) := by
  rcases (show k = 0 ∨ k = 1 ∨ k = 2 ∨ k = 3 by omega) with rfl | rfl | rfl | rfl
  · simp only [dd4, rep, Nat.reduceEqDiff, ↓reduceIte, if_true, if_false, Nat.zero_ne_one, Nat.one_ne_zero, reduceCtorEq]
    exact hom4_0 (A 0 0) (A 0 1) (A 0 2) (A 0 3) (A 1 0) (A 1 1) (A 1 2) (A 1 3) (A 2 0) (A 2 1) (A 2 2) (A 2 3) (A 3 0) (A 3 1) (A 3 2) (A 3 3) t (c 0) (c 1) (c 2) (c 3)
  · simp only [dd4, rep, Nat.reduceEqDiff, ↓reduceIte, if_true, if_false, Nat.zero_ne_one, Nat.one_ne_zero, reduceCtorEq]
    exact hom4_1 (A 0 0) (A 0 1) (A 0 2) (A 0 3) (A 1 0) (A 1 1) (A 1 2) (A 1 3) (A 2 0) (A 2 1) (A 2 2) (A 2 3) (A 3 0) (A 3 1) (A 3 2) (A 3 3) t (c 0) (c 1) (c 2) (c 3)
  · simp only [dd4, rep, Nat.reduceEqDiff, ↓reduceIte, if_true, if_false, Nat.zero_ne_one, Nat.one_ne_zero, reduceCtorEq]
    exact hom4_2 (A 0 0) (A 0 1) (A 0 2) (A 0 3) (A 1 0) (A 1 1) (A 1 2) (A 1 3) (A 2 0) (A 2 1) (A 2 2) (A 2 3) (A 3 0) (A 3 1) (A 3 2) (A 3 3) t (c 0) (c 1) (c 2) (c 3)
  · simp only [dd4, rep, Nat.reduceEqDiff, ↓reduceIte, if_true, if_false, Nat.zero_ne_one, Nat.one_ne_zero, reduceCtorEq]
    exact hom4_3 (A 0 0) (A 0 1) (A 0 2) (A 0 3) (A 1 0) (A 1 1) (A 1 2) (A 1 3) (A 2 0) (A 2 1) (A 2 2) (A 2 3) (A 3 0) (A 3 1) (A 3 2) (A 3 3) t (c 0) (c 1) (c 2) (c 3)
theorem congF4 (A : Nat → Nat → Int) (c c' : Nat → Int) (k : Nat) (hk : k < 3 + 1) (h : ∀ i, i < 3 + 1 → c i = c' i) : dd4 (rep A k c) = dd4 (rep A k c') := by
  unfold dd4 rep
  rw [h 0 (by omega), h 1 (by omega), h 2 (by omega), h 3 (by omega)]
theorem crF4 (A : Nat → Nat → Int) (c : Nat → Int) (r : Nat) (hr : r < 4) : sumI (fun k => A r k * dd4 (rep A k c)) 4 = dd4 A * c r := by
  rcases (show r = 0 ∨ r = 1 ∨ r = 2 ∨ r = 3 by omega) with rfl | rfl | rfl | rfl
  · simp only [sumI, dd4, rep, Nat.reduceEqDiff, ↓reduceIte, if_true, if_false, Nat.zero_ne_one, Nat.one_ne_zero, reduceCtorEq]
    exact cr4_0 _ _ _ _ _ _ _ _ _ _ _ _ _ _ _ _ _ _ _ _
  · simp only [sumI, dd4, rep, Nat.reduceEqDiff, ↓reduceIte, if_true, if_false, Nat.zero_ne_one, Nat.one_ne_zero, reduceCtorEq]
    exact cr4_1 _ _ _ _ _ _ _ _ _ _ _ _ _ _ _ _ _ _ _ _
  · simp only [sumI, dd4, rep, Nat.reduceEqDiff, ↓reduceIte, if_true, if_false, Nat.zero_ne_one, Nat.one_ne_zero, reduceCtorEq]
    exact cr4_2 _ _ _ _ _ _ _ _ _ _ _ _ _ _ _ _ _ _ _ _
  · simp only [sumI, dd4, rep, Nat.reduceEqDiff, ↓reduceIte, if_true, if_false, Nat.zero_ne_one, Nat.one_ne_zero, reduceCtorEq]
    exact cr4_3 _ _ _ _ _ _ _ _ _ _ _ _ _ _ _ _ _ _ _ _
theorem laF4 (A : Nat → Nat → Int) (c : Nat → Int) : dd5 (rep A 4 c) = dd4 A * c 4 - sumI (fun k => A 4 k * dd4 (rep A k c)) 4 := by
  simp only [sumI, dd5, dd4, rep, Nat.reduceEqDiff, ↓reduceIte, if_true, if_false, Nat.zero_ne_one, Nat.one_ne_zero, reduceCtorEq]
  exact la4 _ _ _ _ _ _ _ _ _ _ _ _ _ _ _ _ _ _ _ _ _ _ _ _ _
theorem linF5 (A : Nat → Nat → Int) (u : Nat → Int) (k : Nat) (hk : k < 4 + 1) : dd5 (rep A k (fun i => sumI (fun j => A i j * u j) (4 + 1))) = u k * dd5 A := by
  rcases (show k = 0 ∨ k = 1 ∨ k = 2 ∨ k = 3 ∨ k = 4 by omega) with rfl | rfl | rfl | rfl | rfl
  · simp only [sumI, dd5, rep, Nat.reduceEqDiff, ↓reduceIte, if_true, if_false, Nat.zero_ne_one, Nat.one_ne_zero, reduceCtorEq]
    exact lin5_0 _ _ _ _ _ _ _ _ _ _ _ _ _ _ _ _ _ _ _ _ _ _ _ _ _ _ _ _ _ _
  · simp only [sumI, dd5, rep, Nat.reduceEqDiff, ↓reduceIte, if_true, if_false, Nat.zero_ne_one, Nat.one_ne_zero, reduceCtorEq]
    exact lin5_1 _ _ _ _ _ _ _ _ _ _ _ _ _ _ _ _ _ _ _ _ _ _ _ _ _ _ _ _ _ _
  · simp only [sumI, dd5, rep, Nat.reduceEqDiff, ↓reduceIte, if_true, if_false, Nat.zero_ne_one, Nat.one_ne_zero, reduceCtorEq]
    exact lin5_2 _ _ _ _ _ _ _ _ _ _ _ _ _ _ _ _ _ _ _ _ _ _ _ _ _ _ _ _ _ _
  · simp only [sumI, dd5, rep, Nat.reduceEqDiff, ↓reduceIte, if_true, if_false, Nat.zero_ne_one, Nat.one_ne_zero, reduceCtorEq]
    exact lin5_3 _ _ _ _ _ _ _ _ _ _ _ _ _ _ _ _ _ _ _ _ _ _ _ _ _ _ _ _ _ _
  · simp only [sumI, dd5, rep, Nat.reduceEqDiff, ↓reduceIte, if_true, if_false, Nat.zero_ne_one, Nat.one_ne_zero, reduceCtorEq]
    exact lin5_4 _ _ _ _ _ _ _ _ _ _ _ _ _ _ _ _ _ _ _ _ _ _ _ _ _ _ _ _ _ _
theorem homF5 (A : Nat → Nat → Int) (t : Int) (c : Nat → Int) (k : Nat) (hk : k < 4 + 1) : dd5 (rep A k (fun i => t * c i)) = t * dd5 (rep A k c) := by
  rcases (show k = 0 ∨ k = 1 ∨ k = 2 ∨ k = 3 ∨ k = 4 by omega) with rfl | rfl | rfl | rfl | rfl
  · simp only [dd5, rep, Nat.reduceEqDiff, ↓reduceIte, if_true, if_false, Nat.zero_ne_one, Nat.one_ne_zero, reduceCtorEq]
    exact hom5_0 (A 0 0) (A 0 1) (A 0 2) (A 0 3) (A 0 4) (A 1 0) (A 1 1) (A 1 2) (A 1 3) (A 1 4) (A 2 0) (A 2 1) (A 2 2) (A 2 3) (A 2 4) (A 3 0) (A 3 1) (A 3 2) (A 3 3) (A 3 4) (A 4 0) (A 4 1) (A 4 2) (A 4 3) (A 4 4) t (c 0) (c 1) (c 2) (c 3) (c 4)
  · simp only [dd5, rep, Nat.reduceEqDiff, ↓reduceIte, if_true, if_false, Nat.zero_ne_one, Nat.one_ne_zero, reduceCtorEq]
    exact hom5_1 (A 0 0) (A 0 1) (A 0 2) (A 0 3) (A 0 4) (A 1 0) (A 1 1) (A 1 2) (A 1 3) (A 1 4) (A 2 0) (A 2 1) (A 2 2) (A 2 3) (A 2 4) (A 3 0) (A 3 1) (A 3 2) (A 3 3) (A 3 4) (A 4 0) (A 4 1) (A 4 2) (A 4 3) (A 4 4) t (c 0) (c 1) (c 2) (c 3) (c 4)
  · simp only [dd5, rep, Nat.reduceEqDiff, ↓reduceIte, if_true, if_false, Nat.zero_ne_one, Nat.one_ne_zero, reduceCtorEq]
    exact hom5_2 (A 0 0) (A 0 1) (A 0 2) (A 0 3) (A 0 4) (A 1 0) (A 1 1) (A 1 2) (A 1 3) (A 1 4) (A 2 0) (A 2 1) (A 2 2) (A 2 3) (A 2 4) (A 3 0) (A 3 1) (A 3 2) (A 3 3) (A 3 4) (A 4 0) (A 4 1) (A 4 2) (A 4 3) (A 4 4) t (c 0) (c 1) (c 2) (c 3) (c 4)
  · simp only [dd5, rep, Nat.reduceEqDiff, ↓reduceIte, if_true, if_false, Nat.zero_ne_one, Nat.one_ne_zero, reduceCtorEq]
    exact hom5_3 (A 0 0) (A 0 1) (A 0 2) (A 0 3) (A 0 4) (A 1 0) (A 1 1) (A 1 2) (A 1 3) (A 1 4) (A 2 0) (A 2 1) (A 2 2) (A 2 3) (A 2 4) (A 3 0) (A 3 1) (A 3 2) (A 3 3) (A 3 4) (A 4 0) (A 4 1) (A 4 2) (A 4 3) (A 4 4) t (c 0) (c 1) (c 2) (c 3) (c 4)
  · simp only [dd5, rep, Nat.reduceEqDiff, ↓reduceIte, if_true, if_false, Nat.zero_ne_one, Nat.one_ne_zero, reduceCtorEq]
    exact hom5_4 (A 0 0) (A 0 1) (A 0 2) (A 0 3) (A 0 4) (A 1 0) (A 1 1) (A 1 2) (A 1 3) (A 1 4) (A 2 0) (A 2 1) (A 2 2) (A 2 3) (A 2 4) (A 3 0) (A 3 1) (A 3 2) (A 3 3) (A 3 4) (A 4 0) (A 4 1) (A 4 2) (A 4 3) (A 4 4) t (c 0) (c 1) (c 2) (c 3) (c 4)
theorem congF5 (A : Nat → Nat → Int) (c c' : Nat → Int) (k : Nat) (hk : k < 4 + 1) (h : ∀ i, i < 4 + 1 → c i = c' i) : dd5 (rep A k c) = dd5 (rep A k c') := by
  unfold dd5 rep
  rw [h 0 (by omega), h 1 (by omega), h 2 (by omega), h 3 (by omega), h 4 (by omega)]
