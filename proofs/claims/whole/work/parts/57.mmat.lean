/-! SIGNS AND SIZES through the elimination -/
def sumT (T : Nat → Bool) (g : Nat → Int) : Int := sumI (fun j => if T j then g j else 0) 5
theorem sumI_add (f g : Nat → Int) : ∀ n, sumI (fun k => f k + g k) n = sumI f n + sumI g n
  | 0 => rfl
  | n + 1 => by
    simp only [sumI]
    rw [sumI_add f g n]
    omega
theorem sumI_nonpos {f : Nat → Int} : ∀ {n : Nat}, (∀ k, k < n → f k ≤ 0) → sumI f n ≤ 0
  | 0, _ => Int.le_refl 0
  | n + 1, h => by
    have h1 := sumI_nonpos (f := f) (n := n) (fun k hk => h k (by omega))
    have h2 := h n (by omega)
    simp only [sumI]
    omega
theorem sumI_nonneg {f : Nat → Int} : ∀ {n : Nat}, (∀ k, k < n → 0 ≤ f k) → 0 ≤ sumI f n
  | 0, _ => Int.le_refl 0
  | n + 1, h => by
    have h1 := sumI_nonneg (f := f) (n := n) (fun k hk => h k (by omega))
    have h2 := h n (by omega)
    simp only [sumI]
    omega
theorem sumI_ge {f : Nat → Int} : ∀ {n k : Nat}, k < n → (∀ j, j < n → 0 ≤ f j) → f k ≤ sumI f n
  | 0, k, hk, _ => absurd hk (by omega)
  | n + 1, k, hk, h => by
    simp only [sumI]
    by_cases e : k = n
    · subst e
      have := sumI_nonneg (f := f) (n := k) (fun j hj => h j (by omega))
      omega
    · have h1 := sumI_ge (f := f) (show k < n by omega) (fun j hj => h j (by omega))
      have h2 := h n (by omega)
      omega
/-- the invariant: p pivots are done, d is the last of them -/
def Inv (p : Nat) (d : Int) (M N : Nat → Nat → Int) : Prop :=
  0 < d ∧ (∀ i j, i < 5 → j < 5 → i ≠ j → M i j ≤ 0) ∧ (∀ i s, i < 5 → s < 5 → 0 ≤ N i s) ∧ (∀ i, i < 5 → sumI (N i) 5 ≤ sumI (M i) 5) ∧ (∀ i, i < p → M i i = d) ∧ (∀ i, p ≤ i → i < 5 → M i i ≤ 100 * d) ∧ (∀ i j, i < 5 → j < p → i ≠ j → M i j = 0) ∧
  ∀ T : Nat → Bool, (∃ t, T t = true) → (∀ t, T t = true → p ≤ t ∧ t < 5) → ∃ i, T i = true ∧ 0 < sumT T (M i)
theorem sumT_one {p : Nat} (hp : p < 5) (g : Nat → Int) : sumT (fun t => decide (t = p)) g = g p := by
  rcases (show p = 0 ∨ p = 1 ∨ p = 2 ∨ p = 3 ∨ p = 4 by omega) with rfl | rfl | rfl | rfl | rfl <;> simp [sumT, sumI]
theorem Inv.own {p : Nat} {d : Int} {M N : Nat → Nat → Int} (h : Inv p d M N) (hp : p < 5) : 0 < M p p := by
  obtain ⟨i, h1, h2⟩ := h.2.2.2.2.2.2.2 (fun t => decide (t = p)) ⟨p, by simp⟩ (fun t ht => by have e : t = p := (by simpa using ht); omega)
  have e : i = p := by simpa using h1
  subst e
  rw [sumT_one hp] at h2
  exact h2
theorem sumT_sub {T : Nat → Bool} {g : Nat → Int} {i : Nat} (hi : T i = true) (h5 : i < 5) (hneg : ∀ j, j < 5 → j ≠ i → g j ≤ 0) : sumI g 5 ≤ sumT T g := by
  have : sumI (fun j => g j - (if T j then g j else 0)) 5 ≤ 0 := sumI_nonpos (fun k hk => by
    by_cases c : T k = true
    · rw [if_pos c]; omega
    · rw [if_neg c]
      have : k ≠ i := fun e => c (by rw [e]; exact hi)
      have := hneg k hk this
      omega)
  rw [sumI_sub] at this
  unfold sumT
  omega
theorem sumT_or {T : Nat → Bool} {g : Nat → Int} {p : Nat} (hp : p < 5) (hT : T p = false) : sumT (fun t => T t || decide (t = p)) g = sumT T g + g p := by
  have : sumT (fun t => T t || decide (t = p)) g = sumT T g + sumT (fun t => decide (t = p)) g := by
    unfold sumT
    rw [← sumI_add]
    refine sumI_congr (fun k _ => ?_)
    by_cases e : k = p
    · subst e; simp [hT]
    · simp [e]
  rw [this, sumT_one hp]
theorem sumT_lin {T : Nat → Bool} {f g h : Nat → Int} {a b d : Int} (hf : ∀ j, j < 5 → d * f j = a * g j - b * h j) : d * sumT T f = a * sumT T g - b * sumT T h := by
  unfold sumT
  rw [← sumI_mul, ← sumI_mul, ← sumI_mul, ← sumI_sub]
  refine sumI_congr (fun k hk => ?_)
  by_cases c : T k = true
  · simp only [c, if_true]; exact hf k hk
  · simp [c]
theorem Inv.step {p : Nat} {d : Int} {M N M' N' : Nat → Nat → Int} (h : Inv p d M N) (hp : p < 5)
    (hM : ∀ i j, i < 5 → j < 5 → i ≠ p → d * M' i j = M p p * M i j - M i p * M p j) (hMp : ∀ j, j < 5 → M' p j = M p j)
    (hN : ∀ i s, i < 5 → s < 5 → i ≠ p → d * N' i s = M p p * N i s - M i p * N p s) (hNp : ∀ s, s < 5 → N' p s = N p s) : Inv (p + 1) (M p p) M' N' := by
  have own := h.own hp
  obtain ⟨h1, h2, h3, h4, h5, h6, h7, h8⟩ := h
  have sgn : ∀ {x y : Int}, d * x = y → y ≤ 0 → x ≤ 0 := by
    intro x y e hy
    apply Classical.byContradiction
    intro q
    have := Int.mul_pos h1 (show 0 < x by omega)
    omega
  have sgp : ∀ {x y : Int}, d * x = y → 0 ≤ y → 0 ≤ x := by
    intro x y e hy
    apply Classical.byContradiction
    intro q
    have := Int.mul_pos h1 (show 0 < -x by omega)
    rw [Int.mul_neg] at this
    omega
  have zz : ∀ {x : Int}, d * x = 0 → x = 0 := by
    intro x e
    have a := sgn e (Int.le_refl 0)
    have b := sgp e (Int.le_refl 0)
    omega
  have colp : ∀ i, i < 5 → i ≠ p → M' i p = 0 := fun i hi hip => zz (by rw [hM i p hi hp hip]; rw [Int.mul_comm (M p p)]; omega)
  refine ⟨own, ?_, ?_, ?_, ?_, ?_, ?_, ?_⟩
  · intro i j hi hj hij
    by_cases c : i = p
    · subst c; rw [hMp j hj]; exact h2 i j hi hj hij
    · by_cases c2 : j = p
      · subst c2; rw [colp i hi c]; exact Int.le_refl 0
      · have a := Int.mul_nonneg (Int.le_of_lt own) (show 0 ≤ - M i j by have := h2 i j hi hj hij; omega)
        have b := Int.mul_nonneg (show 0 ≤ - M i p by have := h2 i p hi hp c; omega) (show 0 ≤ - M p j by have := h2 p j hp hj (fun e => c2 e.symm); omega)
        rw [Int.mul_neg] at a
        rw [Int.neg_mul_neg] at b
        exact sgn (hM i j hi hj c) (by omega)
  · intro i s hi hs
    by_cases c : i = p
    · subst c; rw [hNp s hs]; exact h3 i s hi hs
    · have a := Int.mul_nonneg (Int.le_of_lt own) (h3 i s hi hs)
      have b := Int.mul_nonneg (show 0 ≤ - M i p by have := h2 i p hi hp c; omega) (h3 p s hp hs)
      rw [Int.neg_mul] at b
      exact sgp (hN i s hi hs c) (by omega)
  · intro i hi
    by_cases c : i = p
    · subst c
      rw [sumI_congr (hNp), sumI_congr (hMp)]
      exact h4 i hi
    · have e1 : d * sumI (M' i) 5 = M p p * sumI (M i) 5 - M i p * sumI (M p) 5 := by
        rw [← sumI_mul, ← sumI_mul, ← sumI_mul, ← sumI_sub]
        exact sumI_congr (fun k hk => hM i k hi hk c)
      have e2 : d * sumI (N' i) 5 = M p p * sumI (N i) 5 - M i p * sumI (N p) 5 := by
        rw [← sumI_mul, ← sumI_mul, ← sumI_mul, ← sumI_sub]
        exact sumI_congr (fun k hk => hN i k hi hk c)
      have a := Int.mul_nonneg (Int.le_of_lt own) (show 0 ≤ sumI (M i) 5 - sumI (N i) 5 by have := h4 i hi; omega)
      have b := Int.mul_nonneg (show 0 ≤ - M i p by have := h2 i p hi hp c; omega) (show 0 ≤ sumI (M p) 5 - sumI (N p) 5 by have := h4 p hp; omega)
      have := sgp (x := sumI (M' i) 5 - sumI (N' i) 5) (y := M p p * (sumI (M i) 5 - sumI (N i) 5) + - M i p * (sumI (M p) 5 - sumI (N p) 5)) (by rw [Int.mul_sub, e1, e2]; grind) (by omega)
      omega
  · intro i hi
    by_cases c : i = p
    · subst c; exact hMp i hp
    · have z := h7 p i hp (show i < p by omega) (fun e => c e.symm)
      have e := hM i i (by omega) (by omega) c
      rw [h5 i (by omega), z, Int.mul_zero, Int.sub_zero, Int.mul_comm (M p p)] at e
      exact Int.eq_of_mul_eq_mul_left (by omega) e
  · intro i hi h5i
    have e := hM i i h5i h5i (by omega)
    have b := Int.mul_nonneg (show 0 ≤ - M i p by have := h2 i p h5i hp (by omega); omega) (show 0 ≤ - M p i by have := h2 p i hp h5i (by omega); omega)
    rw [Int.neg_mul_neg] at b
    have a := Int.mul_nonneg (Int.le_of_lt own) (show 0 ≤ 100 * d - M i i by have := h6 i (by omega) h5i; omega)
    have := sgp (x := 100 * M p p - M' i i) (y := M p p * (100 * d - M i i) + M i p * M p i) (by rw [Int.mul_sub, e]; grind) (by omega)
    omega
  · intro i j hi hj hij
    by_cases c2 : j = p
    · subst c2; exact colp i hi hij
    · by_cases c : i = p
      · subst c; rw [hMp j (by omega)]; exact h7 i j hi (by omega) hij
      · exact zz (by rw [hM i j hi (by omega) c, h7 i j hi (by omega) hij, h7 p j hp (by omega) (fun e => c2 e.symm)]; omega)
  · intro T hne hT
    have hTp : T p = false := by
      cases e : T p with
      | false => rfl
      | true => have := (hT p e).1; omega
    have low : ∀ i, (T i = true ∨ i = p) → 0 ≤ sumT T (M i) + M i p := by
      intro i hi
      have hi5 : i < 5 := by
        rcases hi with hi | hi
        · exact (hT i hi).2
        · omega
      have := sumT_sub (T := fun t => T t || decide (t = p)) (g := M i) (i := i) (by rcases hi with hi | hi <;> simp [hi]) hi5 (fun j hj hji => h2 i j hi5 hj (fun e => hji e.symm))
      rw [sumT_or hp hTp] at this
      have h4' := h4 i hi5
      have := sumI_nonneg (f := N i) (n := 5) (fun k hk => h3 i k hi5 hk)
      omega
    have key : ∀ i, T i = true → d * sumT T (M' i) = M p p * (sumT T (M i) + M i p) + - M i p * (sumT T (M p) + M p p) := by
      intro i hi
      have hi5 := hT i hi
      rw [sumT_lin (a := M p p) (b := M i p) (g := M i) (h := M p) (fun j hj => hM i j hi5.2 hj (by omega))]
      grind
    have fin : ∀ i, T i = true → (0 < sumT T (M i) + M i p ∨ (M i p < 0 ∧ 0 < sumT T (M p) + M p p)) → 0 < sumT T (M' i) := by
      intro i hi hc
      have hi5 := hT i hi
      have mip := h2 i p hi5.2 hp (by omega)
      have l1 := low i (Or.inl hi)
      have l2 := low p (Or.inr rfl)
      have a := Int.mul_nonneg (Int.le_of_lt own) l1
      have b := Int.mul_nonneg (show 0 ≤ - M i p by omega) l2
      have pos : 0 < d * sumT T (M' i) := by
        rw [key i hi]
        rcases hc with hc | ⟨hc1, hc2⟩
        · have := Int.mul_pos own hc; omega
        · have := Int.mul_pos (show 0 < - M i p by omega) hc2; omega
      apply Classical.byContradiction
      intro q
      have := Int.mul_nonneg (Int.le_of_lt h1) (show 0 ≤ - sumT T (M' i) by omega)
      rw [Int.mul_neg] at this
      omega
    obtain ⟨i, i1, i2⟩ := h8 (fun t => T t || decide (t = p)) ⟨p, by simp⟩ (fun t ht => by
      simp only [Bool.or_eq_true, decide_eq_true_eq] at ht
      rcases ht with ht | ht
      · have := hT t ht; omega
      · omega)
    rw [sumT_or hp hTp] at i2
    simp only [Bool.or_eq_true, decide_eq_true_eq] at i1
    rcases i1 with i1 | i1
    · exact ⟨i, i1, fin i i1 (Or.inl i2)⟩
    · subst i1
      obtain ⟨t, t1, t2⟩ := h8 T hne (fun t ht => by have := hT t ht; omega)
      refine ⟨t, t1, fin t t1 ?_⟩
      have l1 := low t (Or.inl t1)
      have := h2 t i (hT t t1).2 hp (by have := (hT t t1).1; omega)
      by_cases c : M t i < 0
      · exact Or.inr ⟨c, i2⟩
      · left; omega
theorem Inv.le {p : Nat} {d : Int} {M N : Nat → Nat → Int} (h : Inv p d M N) {i : Nat} (hi : i < 5) : (∀ j, j < 5 → - M i i ≤ M i j ∧ M i j ≤ M i i) ∧ (∀ s, s < 5 → 0 ≤ N i s ∧ N i s ≤ M i i) ∧ M i i ≤ 100 * d ∧ 0 ≤ M i i := by
  obtain ⟨h1, h2, h3, h4, h5, h6, h7, h8⟩ := h
  have hs := sumI_nonneg (f := N i) (n := 5) (fun k hk => h3 i k hi hk)
  have h4' := h4 i hi
  have sub : ∀ j, j < 5 → j ≠ i → sumI (M i) 5 ≤ M i i + M i j := by
    intro j hj hji
    have := sumT_sub (T := fun t => decide (t = i) || decide (t = j)) (g := M i) (i := i) (by simp) hi (fun k hk hki => h2 i k hi hk (fun e => hki e.symm))
    rw [sumT_or (T := fun t => decide (t = i)) hj (by simp [hji]), sumT_one hi] at this
    exact this
  have dg : sumI (M i) 5 ≤ M i i := by
    have := sumT_sub (T := fun t => decide (t = i)) (g := M i) (i := i) (by simp) hi (fun k hk hki => h2 i k hi hk (fun e => hki e.symm))
    rw [sumT_one hi] at this
    exact this
  refine ⟨fun j hj => ?_, fun s hs' => ?_, ?_, by omega⟩
  · by_cases c : j = i
    · subst c; constructor <;> omega
    · have := sub j hj c
      have := h2 i j hi hj (fun e => c e.symm)
      constructor <;> omega
  · have := sumI_ge (f := N i) hs' (fun k hk => h3 i k hi hk)
    exact ⟨h3 i s hi hs', by omega⟩
  · by_cases c : i < p
    · rw [h5 i c]; omega
    · exact h6 i (by omega) hi
