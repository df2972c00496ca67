/-! SELLING, VETOES: the arguments -/
theorem ob_eta {α : Type} (o : Option (α × Sg)) : o.bind (fun q => some (q.1, q.2)) = o := by cases o <;> rfl
theorem amt_c (x : Int32) : (f_X7_in x 1 100 = 0 ∧ (x < 1 ∨ (¬ x < 1 ∧ ¬ x ≤ 100))) ∨ (¬ f_X7_in x 1 100 = 0 ∧ ¬ x < 1 ∧ x ≤ 100 ∧ ∃ m, 1 ≤ m ∧ m ≤ 100 ∧ x = nI m) := by
  unfold f_X7_in
  have h1 : (1 : Int32).toInt = 1 := rfl
  have h100 : (100 : Int32).toInt = 100 := rfl
  by_cases c1 : x < 1
  · left; rw [if_pos c1]; exact ⟨rfl, Or.inl c1⟩
  · rw [if_neg c1]
    have c1' := c1
    rw [Int32.lt_iff_toInt_lt, h1] at c1'
    by_cases c2 : 100 < x
    · left
      rw [if_pos c2]
      rw [Int32.lt_iff_toInt_lt, h100] at c2
      refine ⟨rfl, Or.inr ⟨c1, fun q => ?_⟩⟩
      rw [Int32.le_iff_toInt_le, h100] at q
      omega
    · right
      rw [if_neg c2]
      rw [Int32.lt_iff_toInt_lt, h100] at c2
      exact ⟨n10, c1, Int32.le_iff_toInt_le.mpr (by rw [h100]; omega), x.toInt.toNat, by omega, by omega, asN (by omega)⟩
theorem q_sell {B : Bk} {σ : Sg} (hB : okB B) (hr : repB 1 σ B) (hM : repMB σ B) (hc : cacheOK σ B) {k : Nat} (hk : k < 2) (x2 x3 x4 x5 x6 : Int32) : OP B σ (f_X6_sell (nI k) x2 x3 x4 x5 x6 σ) (f_X7_sell (nI k) x2 x3 x4 x5 x6) := by
  rcases hold_c x3 with ⟨u3, v3, _⟩ | ⟨u3, v3, a, ha, rfl⟩
  · refine OP.same hB hr hM hc (r := -1) ?_ ?_
    · unfold f_X6_sell; rw [if_pos u3]
    · unfold f_X7_sell; rw [if_pos v3]
  rcases hold_c x4 with ⟨u4, v4, _⟩ | ⟨u4, v4, b, hb, rfl⟩
  · refine OP.same hB hr hM hc (r := -1) ?_ ?_
    · unfold f_X6_sell; rw [if_neg u3, if_pos u4]
    · unfold f_X7_sell; rw [if_neg v3, if_pos v4]
  rcases firm_c x5 with ⟨u5, v5, _⟩ | ⟨u5, v5, f, hf, rfl⟩
  · refine OP.same hB hr hM hc (r := -1) ?_ ?_
    · unfold f_X6_sell; rw [if_neg u3, if_neg u4, if_pos u5]
    · unfold f_X7_sell; rw [if_neg v3, if_neg v4, if_pos v5]
  rcases day_c x2 with ⟨u2, v2, _⟩ | ⟨u2, v2, d, hd, rfl⟩
  · refine OP.same hB hr hM hc (r := -2) ?_ ?_
    · unfold f_X6_sell; rw [if_neg u3, if_neg u4, if_neg u5, if_pos u2]
    · unfold f_X7_sell; rw [if_neg v3, if_neg v4, if_neg v5, if_pos v2]
  rcases amt_c x6 with ⟨v6, u6⟩ | ⟨v6, u6, w6, n, n1, n2, rfl⟩
  · refine OP.same hB hr hM hc (r := -2) ?_ ?_
    · unfold f_X6_sell
      rcases u6 with u6 | ⟨u6, w6⟩
      · rw [if_neg u3, if_neg u4, if_neg u5, if_neg u2, if_pos u6]
      · rw [if_neg u3, if_neg u4, if_neg u5, if_neg u2, if_neg u6, if_neg w6]
    · unfold f_X7_sell; rw [if_neg v3, if_neg v4, if_neg v5, if_neg v2, if_pos v6]
  by_cases c1 : nI a = nI b
  · refine OP.same hB hr hM hc (r := -2) ?_ ?_
    · unfold f_X6_sell; rw [if_neg u3, if_neg u4, if_neg u5, if_neg u2, if_neg u6, if_pos w6, if_pos c1]
    · unfold f_X7_sell; rw [if_neg v3, if_neg v4, if_neg v5, if_neg v2, if_neg v6, if_pos c1]
  by_cases c2 : nI a = 4 + nI f
  · refine OP.same hB hr hM hc (r := -2) ?_ ?_
    · unfold f_X6_sell; rw [if_neg u3, if_neg u4, if_neg u5, if_neg u2, if_neg u6, if_pos w6, if_neg c1, if_pos (show nI a = f_X6_holderOf (nI f) from c2)]
    · unfold f_X7_sell; rw [if_neg v3, if_neg v4, if_neg v5, if_neg v2, if_neg v6, if_neg c1, if_pos c2]
  by_cases c3 : nI b = 4 + nI f
  · refine OP.same hB hr hM hc (r := -2) ?_ ?_
    · unfold f_X6_sell; rw [if_neg u3, if_neg u4, if_neg u5, if_neg u2, if_neg u6, if_pos w6, if_neg c1, if_neg (show ¬ nI a = f_X6_holderOf (nI f) from c2), if_pos (show nI b = f_X6_holderOf (nI f) from c3)]
    · unfold f_X7_sell; rw [if_neg v3, if_neg v4, if_neg v5, if_neg v2, if_neg v6, if_neg c1, if_neg c2, if_pos c3]
  have hab : a ≠ b := fun q => c1 (by rw [q])
  have hx : okD (d, k, f, a, b, n) := ⟨show d ≤ 999 by omega, show k < 4 by omega, hf, fun _ => ⟨ha, hb, hab, n1, n2⟩, fun q => absurd q (show ¬ 2 ≤ k by omega)⟩
  refine enter_both (x := (d, k, f, a, b, n)) hB hr hM hc hx ?_ (fun τ => ?_)
  · unfold f_X6_sell
    rw [if_neg u3, if_neg u4, if_neg u5, if_neg u2, if_neg u6, if_pos w6, if_neg c1, if_neg (show ¬ nI a = f_X6_holderOf (nI f) from c2), if_neg (show ¬ nI b = f_X6_holderOf (nI f) from c3), show frmD (d, k, f, a, b, n) = nI a from if_pos hk]
    exact ob_eta _
  · unfold f_X7_sell
    rw [if_neg v3, if_neg v4, if_neg v5, if_neg v2, if_neg v6, if_neg c1, if_neg c2, if_neg c3]
    congr 1
    funext q
    exact ob_eta _
theorem q_sellShares {B : Bk} {σ : Sg} (hB : okB B) (hr : repB 1 σ B) (hM : repMB σ B) (hc : cacheOK σ B) (x1 x2 x3 x4 x5 : Int32) : OP B σ (f_X6_sellShares x1 x2 x3 x4 x5 σ) (f_X7_sellShares x1 x2 x3 x4 x5) := by
  have e1 : f_X6_sellShares x1 x2 x3 x4 x5 σ = f_X6_sell (nI 0) x1 x2 x3 x4 x5 σ := ob_eta _
  have e2 : f_X7_sellShares x1 x2 x3 x4 x5 = f_X7_sell (nI 0) x1 x2 x3 x4 x5 := funext (fun τ => ob_eta _)
  rw [e1, e2]
  exact q_sell hB hr hM hc (by omega) x1 x2 x3 x4 x5
theorem q_sellVotes {B : Bk} {σ : Sg} (hB : okB B) (hr : repB 1 σ B) (hM : repMB σ B) (hc : cacheOK σ B) (x1 x2 x3 x4 x5 : Int32) : OP B σ (f_X6_sellVotes x1 x2 x3 x4 x5 σ) (f_X7_sellVotes x1 x2 x3 x4 x5) := by
  have e1 : f_X6_sellVotes x1 x2 x3 x4 x5 σ = f_X6_sell (nI 1) x1 x2 x3 x4 x5 σ := ob_eta _
  have e2 : f_X7_sellVotes x1 x2 x3 x4 x5 = f_X7_sell (nI 1) x1 x2 x3 x4 x5 := funext (fun τ => ob_eta _)
  rw [e1, e2]
  exact q_sell hB hr hM hc (by omega) x1 x2 x3 x4 x5
theorem q_veto {B : Bk} {σ : Sg} (hB : okB B) (hr : repB 1 σ B) (hM : repMB σ B) (hc : cacheOK σ B) (x1 x2 x3 x4 : Int32) : OP B σ (f_X6_veto x1 x2 x3 x4 σ) (f_X7_veto x1 x2 x3 x4) := by
  rcases ctl_c x2 with ⟨u2, v2, _⟩ | ⟨u2, v2, a, ha, rfl⟩
  · refine OP.same hB hr hM hc (r := -1) ?_ ?_
    · unfold f_X6_veto; rw [if_pos u2]
    · unfold f_X7_veto; rw [if_pos v2]
  rcases firm_c x3 with ⟨u3, v3, _⟩ | ⟨u3, v3, f, hf, rfl⟩
  · refine OP.same hB hr hM hc (r := -1) ?_ ?_
    · unfold f_X6_veto; rw [if_neg u2, if_pos u3]
    · unfold f_X7_veto; rw [if_neg v2, if_pos v3]
  rcases day_c x1 with ⟨u1, v1, _⟩ | ⟨u1, v1, d, hd, rfl⟩
  · refine OP.same hB hr hM hc (r := -2) ?_ ?_
    · unfold f_X6_veto; rw [if_neg u2, if_neg u3, if_pos u1]
    · unfold f_X7_veto; rw [if_neg v2, if_neg v3, if_pos v1]
  rcases yn_c x4 with ⟨u4, v4, _⟩ | ⟨u4, v4, k, hk, rfl⟩
  · refine OP.same hB hr hM hc (r := -2) ?_ ?_
    · unfold f_X6_veto; rw [if_neg u2, if_neg u3, if_neg u1, if_pos u4]
    · unfold f_X7_veto; rw [if_neg v2, if_neg v3, if_neg v1, if_pos v4]
  have hx : okD (d, 3 - k, f, 0, a, 0) := ⟨show d ≤ 999 by omega, show 3 - k < 4 by omega, hf, fun q => absurd q (show ¬ 3 - k < 2 by omega), fun _ => ⟨rfl, ha, rfl⟩⟩
  refine enter_both (x := (d, 3 - k, f, 0, a, 0)) hB hr hM hc hx ?_ (fun τ => ?_)
  · unfold f_X6_veto
    rw [if_neg u2, if_neg u3, if_neg u1, if_neg u4, show frmD (d, 3 - k, f, 0, a, 0) = -6 from if_neg (show ¬ 3 - k < 2 by omega)]
    simp only [jn]
    rw [show (if nI k = 1 then (2 : Int32) else 3) = nI (3 - k) by rcases (show k = 0 ∨ k = 1 by omega) with rfl | rfl <;> rfl]
    exact ob_eta _
  · unfold f_X7_veto
    rw [if_neg v2, if_neg v3, if_neg v1, if_neg v4, show (3 : Int32) - nI k = nI (3 - k) by rw [li3, c_sub (by omega)]]
    congr 1
    funext q
    exact ob_eta _
