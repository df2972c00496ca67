/-! THE COMPONENT'S BOOK: a deal added, a deal struck, a copy -/
def inB (b j : Nat) : Prop := b ≤ j ∧ j ≤ b + 7
def slB (b : Nat) (σ σ' : Sg) : Prop := ∀ y, y ≠ 7 → σ'.1 b y = σ.1 b y
def app (ds : Nat → Dl) (n : Nat) (x : Dl) : Nat → Dl := fun d => if d = n then x else ds d
def sk (d i : Nat) : Nat := if i < d then i else i + 1
def rem (ds : Nat → Dl) (d : Nat) : Nat → Dl := fun i => ds (sk d i)
abbrev days (ds : Nat → Dl) : Nat → Nat := fun d => dDay (ds d)
theorem app_n (ds : Nat → Dl) (n : Nat) (x : Dl) : app ds n x n = x := if_pos rfl
theorem app_lt (ds : Nat → Dl) {n d : Nat} (x : Dl) (h : d ≠ n) : app ds n x d = ds d := if_neg h
theorem app_okD {ds : Nat → Dl} {n : Nat} {x : Dl} (h : ∀ d, d < n → okD (ds d)) (hx : okD x) : ∀ d, d < n + 1 → okD (app ds n x d) := fun d hd => by
  by_cases e : d = n
  · subst e; rw [app_n]; exact hx
  · rw [app_lt _ _ e]; exact h d (by omega)
def frmD (x : Dl) : Int32 := if dKind x < 2 then nI (dFrom x) else -6
theorem append_ok {b n : Nat} {ds : Nat → Dl} {o : Nat → Nat} {x : Dl} {σ : Sg} (hn : n ≤ 40) (hr : repBd b σ n ds o) (hd : ∀ d, d < n → okD (ds d)) (hx : okD x) : ∃ σ' o', f_X0_append b (nI (dDay x)) (nI (dKind x)) (nI (dFirm x)) (frmD x) (nI (dTo x)) (nI (dAmt x)) σ = some σ' ∧ repBd b σ' (n + 1) (app ds n x) o' ∧ ordOK (days (app ds n x)) (n + 1) o' ∧ slB b σ σ' ∧ fr (inB b) σ σ' := by
  have h0 := hr.1
  obtain ⟨τ, hτ⟩ : ∃ τ, τ = setR (setR (setR (setR (setR (setR (setR σ (b + 1) (upd (σ.1 (b + 1)) n (nI (dDay x)))) (b + 2) (upd (σ.1 (b + 2)) n (nI (dKind x)))) (b + 3) (upd (σ.1 (b + 3)) n (nI (dFirm x)))) (b + 4) (upd (σ.1 (b + 4)) n (frmD x))) (b + 5) (upd (σ.1 (b + 5)) n (nI (dTo x)))) (b + 6) (upd (σ.1 (b + 6)) n (nI (dAmt x)))) b (upd (σ.1 b) 7 (nI (n + 1))) := ⟨_, rfl⟩
  have t0 : τ.1 b = upd (σ.1 b) 7 (nI (n + 1)) := by rw [hτ]; simp (disch := omega) only [sR_s, sR_n, sL_s, sL_n, sR_2, sL_1, up_s, up_n]
  have t1 : τ.1 (b + 1) = upd (σ.1 (b + 1)) n (nI (dDay x)) := by rw [hτ]; simp (disch := omega) only [sR_s, sR_n, sL_s, sL_n, sR_2, sL_1, up_s, up_n]
  have t2 : τ.1 (b + 2) = upd (σ.1 (b + 2)) n (nI (dKind x)) := by rw [hτ]; simp (disch := omega) only [sR_s, sR_n, sL_s, sL_n, sR_2, sL_1, up_s, up_n]
  have t3 : τ.1 (b + 3) = upd (σ.1 (b + 3)) n (nI (dFirm x)) := by rw [hτ]; simp (disch := omega) only [sR_s, sR_n, sL_s, sL_n, sR_2, sL_1, up_s, up_n]
  have t4 : τ.1 (b + 4) = upd (σ.1 (b + 4)) n (frmD x) := by rw [hτ]; simp (disch := omega) only [sR_s, sR_n, sL_s, sL_n, sR_2, sL_1, up_s, up_n]
  have t5 : τ.1 (b + 5) = upd (σ.1 (b + 5)) n (nI (dTo x)) := by rw [hτ]; simp (disch := omega) only [sR_s, sR_n, sL_s, sL_n, sR_2, sL_1, up_s, up_n]
  have t6 : τ.1 (b + 6) = upd (σ.1 (b + 6)) n (nI (dAmt x)) := by rw [hτ]; simp (disch := omega) only [sR_s, sR_n, sL_s, sL_n, sR_2, sL_1, up_s, up_n]
  have tf : fr (inB b) σ τ := by
    rw [hτ]
    intro j hj
    unfold inB at hj
    simp (disch := omega) only [sR_s, sR_n, sL_s, sL_n, sR_2, sL_1, up_s, up_n, and_self]
  have hrep : ∀ d, d < n + 1 → repD b τ d (app ds n x d) := by
    intro d hd'
    unfold repD
    rw [t1, t2, t3, t4, t5, t6]
    by_cases e : d = n
    · subst e
      rw [app_n, up_s, up_s, up_s, up_s, up_s, up_s]
      exact ⟨rfl, rfl, rfl, rfl, rfl, rfl⟩
    · rw [app_lt _ _ e, up_n _ _ e, up_n _ _ e, up_n _ _ e, up_n _ _ e, up_n _ _ e, up_n _ _ e]
      exact hr.2.1 d (by omega)
  obtain ⟨σ', o', e1, e2, e3, e4⟩ := arr_ok (b := b) (n := n + 1) (σ := τ) (dy := days (app ds n x)) (by omega) (by rw [t0, up_s]) (fun d hd' => ⟨(hrep d hd').1, by have := (app_okD hd hx d hd').1; show dDay _ < 2000; omega⟩)
  refine ⟨σ', o', ?_, ⟨?_, fun d hd' => ?_, e3⟩, e2, fun y hy => ?_, tf.tr (e4.mono (fun j hj => by unfold inB; omega))⟩
  · unfold f_X0_append
    simp (disch := omega) only [jn, sR_s, sR_n, h0, li1, li41, c_lt, c_inb, c_tn, c_add, show n < 41 by omega, if_true]
    rw [← hτ, e1]
    rfl
  · rw [(e4 b (by omega)).1, t0, up_s]
  · unfold repD
    rw [(e4 (b + 1) (by omega)).1, (e4 (b + 2) (by omega)).1, (e4 (b + 3) (by omega)).1, (e4 (b + 4) (by omega)).1, (e4 (b + 5) (by omega)).1, (e4 (b + 6) (by omega)).1]
    exact hrep d hd'
  · rw [(e4 b (by omega)).1, t0, up_n _ _ hy]
theorem gap_ok {b b1 n d : Nat} {σ : Sg} (hn : n ≤ 41) (hd : d < n) (h : σ.1 b 7 = nI n) : ∃ σ', f_X0_closeGap b b1 (nI d) σ = some σ' ∧ (∀ i, i < n - 1 → σ'.1 b1 i = σ.1 b1 (sk d i)) ∧ fr (fun j => j = b1) σ σ' := by
  refine ⟨setR σ b1 (va_cpy (σ.1 b1) (σ.1 b1) (d + 1) d (n - d - 1)), ?_, fun i hi => ?_, fr.setR rfl⟩
  · unfold f_X0_closeGap
    simp (disch := omega) only [li1, h, c_add, c_sub, c_ti, c_tn, jn]
    rw [if_pos (by omega)]
  · rw [sR_s]
    unfold va_cpy sk
    by_cases c : i < d
    · rw [if_neg (by omega), if_pos c]
    · rw [if_pos (by omega), if_neg c, show d + 1 + (i - d) = i + 1 by omega]
theorem sk_lt {n d i : Nat} (hi : i < n - 1) : sk d i < n := by unfold sk; split <;> omega
theorem strike_ok {b n d : Nat} {ds : Nat → Dl} {o : Nat → Nat} {σ : Sg} (hn : n ≤ 41) (hdn : d < n) (hr : repBd b σ n ds o) (hd : ∀ d, d < n → okD (ds d)) : ∃ σ' o', f_X0_strike b (nI d) σ = some σ' ∧ repBd b σ' (n - 1) (rem ds d) o' ∧ ordOK (days (rem ds d)) (n - 1) o' ∧ slB b σ σ' ∧ fr (inB b) σ σ' := by
  have h0 := hr.1
  obtain ⟨s1, a1, b1, c1⟩ := gap_ok (b := b) (b1 := b + 1) (σ := σ) hn hdn h0
  have h1 : s1.1 b = σ.1 b := (c1 b (by omega)).1
  obtain ⟨s2, a2, b2, c2⟩ := gap_ok (b := b) (b1 := b + 2) (σ := s1) hn hdn (by rw [h1]; exact h0)
  have h2 : s2.1 b = σ.1 b := (c2 b (by omega)).1.trans h1
  obtain ⟨s3, a3, b3, c3⟩ := gap_ok (b := b) (b1 := b + 3) (σ := s2) hn hdn (by rw [h2]; exact h0)
  have h3 : s3.1 b = σ.1 b := (c3 b (by omega)).1.trans h2
  obtain ⟨s4, a4, b4, c4⟩ := gap_ok (b := b) (b1 := b + 4) (σ := s3) hn hdn (by rw [h3]; exact h0)
  have h4 : s4.1 b = σ.1 b := (c4 b (by omega)).1.trans h3
  obtain ⟨s5, a5, b5, c5⟩ := gap_ok (b := b) (b1 := b + 5) (σ := s4) hn hdn (by rw [h4]; exact h0)
  have h5 : s5.1 b = σ.1 b := (c5 b (by omega)).1.trans h4
  obtain ⟨s6, a6, b6, c6⟩ := gap_ok (b := b) (b1 := b + 6) (σ := s5) hn hdn (by rw [h5]; exact h0)
  have h6 : s6.1 b = σ.1 b := (c6 b (by omega)).1.trans h5
  obtain ⟨τ, hτ⟩ : ∃ τ, τ = setR s6 b (upd (s6.1 b) 7 (nI (n - 1))) := ⟨_, rfl⟩
  have t0 : τ.1 b = upd (σ.1 b) 7 (nI (n - 1)) := by rw [hτ, sR_s, h6]
  have tn : ∀ j, j ≠ b → τ.1 j = s6.1 j := fun j hj => by rw [hτ, sR_n _ _ hj]
  have tf : fr (inB b) σ τ := by
    have m : ∀ q, 1 ≤ q → q ≤ 6 → ∀ j, j = b + q → inB b j := fun q _ _ j hj => by unfold inB; omega
    rw [hτ]
    exact (c1.mono (m 1 (by omega) (by omega))).tr ((c2.mono (m 2 (by omega) (by omega))).tr ((c3.mono (m 3 (by omega) (by omega))).tr ((c4.mono (m 4 (by omega) (by omega))).tr ((c5.mono (m 5 (by omega) (by omega))).tr ((c6.mono (m 6 (by omega) (by omega))).tr (fr.setR (show inB b b by unfold inB; omega)))))))
  have hrep : ∀ i, i < n - 1 → repD b τ i (rem ds d i) := by
    intro i hi
    have hk := hr.2.1 (sk d i) (sk_lt hi)
    unfold repD at hk ⊢
    rw [tn _ (by omega), tn _ (by omega), tn _ (by omega), tn _ (by omega), tn _ (by omega), tn _ (by omega)]
    rw [(c6 (b + 1) (by omega)).1, (c5 (b + 1) (by omega)).1, (c4 (b + 1) (by omega)).1, (c3 (b + 1) (by omega)).1, (c2 (b + 1) (by omega)).1, b1 i hi]
    rw [(c6 (b + 2) (by omega)).1, (c5 (b + 2) (by omega)).1, (c4 (b + 2) (by omega)).1, (c3 (b + 2) (by omega)).1, b2 i hi, (c1 (b + 2) (by omega)).1]
    rw [(c6 (b + 3) (by omega)).1, (c5 (b + 3) (by omega)).1, (c4 (b + 3) (by omega)).1, b3 i hi, (c2 (b + 3) (by omega)).1, (c1 (b + 3) (by omega)).1]
    rw [(c6 (b + 4) (by omega)).1, (c5 (b + 4) (by omega)).1, b4 i hi, (c3 (b + 4) (by omega)).1, (c2 (b + 4) (by omega)).1, (c1 (b + 4) (by omega)).1]
    rw [(c6 (b + 5) (by omega)).1, b5 i hi, (c4 (b + 5) (by omega)).1, (c3 (b + 5) (by omega)).1, (c2 (b + 5) (by omega)).1, (c1 (b + 5) (by omega)).1]
    rw [b6 i hi, (c5 (b + 6) (by omega)).1, (c4 (b + 6) (by omega)).1, (c3 (b + 6) (by omega)).1, (c2 (b + 6) (by omega)).1, (c1 (b + 6) (by omega)).1]
    exact hk
  obtain ⟨σ', o', e1, e2, e3, e4⟩ := arr_ok (b := b) (n := n - 1) (σ := τ) (dy := days (rem ds d)) (by omega) (by rw [t0, up_s]) (fun i hi => ⟨(hrep i hi).1, by have := (hd _ (sk_lt (d := d) hi)).1; show dDay (ds (sk d i)) < 2000; omega⟩)
  refine ⟨σ', o', ?_, ⟨?_, fun i hi => ?_, e3⟩, e2, fun y hy => ?_, tf.tr (e4.mono (fun j hj => by unfold inB; omega))⟩
  · unfold f_X0_strike
    have h67 : s6.1 b 7 = nI n := by rw [h6]; exact h0
    simp (disch := omega) only [li0, li1, li2, li3, li4, li5, li6, li7, li8, li9, li10, li15, li31, li32, li40, li41, li49, li50, li99, li100, li999, c_le, c_lt, c_eq, c_tn, c_inb, c_add, h0, hdn, Nat.not_lt_zero, a1, a2, a3, a4, a5, a6, Option.bind_some, jn, h67, c_sub, if_true, if_false, ite_true, ite_false, ↓reduceIte, Nat.le_refl, Nat.lt_irrefl, Nat.reduceAdd, Nat.reduceLeDiff, Nat.reduceLT, Nat.reduceEqDiff, Bool.false_eq_true]
    rw [← hτ, e1]
    rfl
  · rw [(e4 b (by omega)).1, t0, up_s]
  · unfold repD
    rw [(e4 (b + 1) (by omega)).1, (e4 (b + 2) (by omega)).1, (e4 (b + 3) (by omega)).1, (e4 (b + 4) (by omega)).1, (e4 (b + 5) (by omega)).1, (e4 (b + 6) (by omega)).1]
    exact hrep i hi
  · rw [(e4 b (by omega)).1, t0, up_n _ _ hy]
