/-! WITNESS and CHAIN -/
def rdN (H : Hd) (hf dm x f : Nat) : Nat → Nat
  | 0 => 0
  | r + 1 => if (nw H hf dm x (ctl H hf dm x r)).testBit f then r + 1 else rdN H hf dm x f r
section
variable {H : Hd} {hf dm x : Nat}
theorem rdN_le (f : Nat) : ∀ r, rdN H hf dm x f r ≤ r
  | 0 => Nat.le_refl 0
  | r + 1 => by
    have := rdN_le f r
    simp only [rdN]
    split <;> omega
theorem rd_eq (f : Nat) : ∀ r, rd H hf dm x f r = if rdN H hf dm x f r = 0 then -6 else nI (rdN H hf dm x f r)
  | 0 => rfl
  | r + 1 => by
    simp only [rd, rdN]
    split
    · simp
    · exact rd_eq f r
theorem nw_bit (s f : Nat) (h : f < 5) : (nw H hf dm x s).testBit f = (!s.testBit f && fallsN H hf dm f x s) := by
  unfold nw
  rw [newN_bit]
  simp [h]
theorem ctl_bit {f : Nat} (h : f < 5) : ∀ r, (ctl H hf dm x r).testBit f = decide (rdN H hf dm x f r ≠ 0)
  | 0 => by simp [ctl, rdN]
  | r + 1 => by
    simp only [ctl, rdN, Nat.testBit_or]
    rw [ctl_bit h r]
    rcases Bool.eq_false_or_eq_true ((nw H hf dm x (ctl H hf dm x r)).testBit f) with e | e <;> simp [e]
theorem rdN_keep {f : Nat} (h : f < 5) {r : Nat} (h0 : rdN H hf dm x f r ≠ 0) : ∀ j, rdN H hf dm x f (r + j) = rdN H hf dm x f r
  | 0 => rfl
  | j + 1 => by
    have e := rdN_keep h h0 j
    show (if (nw H hf dm x (ctl H hf dm x (r + j))).testBit f then r + j + 1 else rdN H hf dm x f (r + j)) = _
    rw [nw_bit _ _ h, ctl_bit h, e]
    simp [h0]
theorem rdN_at {f : Nat} : ∀ r, rdN H hf dm x f r ≠ 0 → (nw H hf dm x (ctl H hf dm x (rdN H hf dm x f r - 1))).testBit f = true
  | 0, h => absurd rfl h
  | r + 1, h => by
    simp only [rdN] at h ⊢
    split
    · rename_i c; exact c
    · rename_i c
      rw [if_neg c] at h
      exact rdN_at r h
theorem ctl_mono (f r : Nat) (h : (ctl H hf dm x r).testBit f = true) : ∀ j, (ctl H hf dm x (r + j)).testBit f = true
  | 0 => h
  | j + 1 => by
    show (ctl H hf dm x (r + j) ||| nw H hf dm x (ctl H hf dm x (r + j))).testBit f = true
    rw [Nat.testBit_or, ctl_mono f r h j]
    rfl
theorem ctl_iff {f k : Nat} (h : f < 5) (hk : k ≤ 5) : (ctl H hf dm x k).testBit f = true ↔ rdN H hf dm x f 5 ≠ 0 ∧ rdN H hf dm x f 5 ≤ k := by
  constructor
  · intro hb
    rw [ctl_bit h] at hb
    have h0 : rdN H hf dm x f k ≠ 0 := by simpa using hb
    have e := rdN_keep h h0 (5 - k)
    rw [show k + (5 - k) = 5 by omega] at e
    rw [e]
    exact ⟨h0, rdN_le f k⟩
  · rintro ⟨h0, hle⟩
    have h1 := rdN_at 5 h0
    have h2 : (ctl H hf dm x (rdN H hf dm x f 5)).testBit f = true := by
      have e : rdN H hf dm x f 5 = (rdN H hf dm x f 5 - 1) + 1 := by omega
      rw [e]
      show (ctl H hf dm x _ ||| nw H hf dm x (ctl H hf dm x _)).testBit f = true
      rw [Nat.testBit_or, h1, Bool.or_true]
    have := ctl_mono f _ h2 (k - rdN H hf dm x f 5)
    rw [show rdN H hf dm x f 5 + (k - rdN H hf dm x f 5) = k by omega] at this
    exact this
end
theorem eq5 {a b : Nat} (ha : a < 32) (hb : b < 32) (h : ∀ j, j < 5 → a.testBit j = b.testBit j) : a = b := by
  apply Nat.eq_of_testBit_eq
  intro i
  by_cases hi : i < 5
  · exact h i hi
  · have p : 32 ≤ 2 ^ i := Nat.pow_le_pow_right (n := 2) (by decide) (show 5 ≤ i by omega)
    rw [Nat.testBit_lt_two_pow (Nat.lt_of_lt_of_le ha p), Nat.testBit_lt_two_pow (Nat.lt_of_lt_of_le hb p)]
/-- the firms that x had before the round in which it got f -/
def bfo (H : Hd) (hf dm x f : Nat) : Nat := ctl H hf dm x (rdN H hf dm x f 5 - 1)
def bfN (p : Nat → Bool) : Nat → Nat
  | 0 => 0
  | m + 1 => bfN p m ||| (if p m then 1 <<< m else 0)
theorem bfN_lt (p : Nat → Bool) : ∀ m, m ≤ 5 → bfN p m < 32
  | 0, _ => by show 0 < 32; decide
  | m + 1, h => by
    simp only [bfN]
    refine or_lt5 _ (bfN_lt p m (by omega)) _ ?_
    split
    · exact sh_lt5 m (by omega)
    · decide
theorem bfN_bit (p : Nat → Bool) : ∀ m j, (bfN p m).testBit j = (decide (j < m) && p j)
  | 0, j => by simp [bfN]
  | m + 1, j => by
    simp only [bfN]
    by_cases c : p m = true
    · rw [if_pos c, tb_or, bfN_bit p m j]
      by_cases e : j = m
      · subst e; simp [c]
      · simp only [e, decide_false, Bool.or_false, show (j < m + 1) = (j < m) from propext ⟨fun h => by omega, fun h => by omega⟩]
    · rw [if_neg c, Nat.or_zero, bfN_bit p m j]
      by_cases e : j = m
      · subst e; simp [c]
      · simp only [show (j < m + 1) = (j < m) from propext ⟨fun h => by omega, fun h => by omega⟩]
def bfP (H : Hd) (hf dm x f g : Nat) : Bool := decide (rdN H hf dm x g 5 ≠ 0) && decide (rdN H hf dm x g 5 < rdN H hf dm x f 5)
theorem bf_eq {H : Hd} {hf dm x f : Nat} (h0 : rdN H hf dm x f 5 ≠ 0) : bfN (bfP H hf dm x f) 5 = bfo H hf dm x f := by
  refine eq5 (bfN_lt _ 5 (by omega)) (ctl_lt _ _ _ _ _) (fun j hj => ?_)
  rw [bfN_bit]
  have h5 := rdN_le (H := H) (hf := hf) (dm := dm) (x := x) f 5
  have w := ctl_iff (H := H) (hf := hf) (dm := dm) (x := x) (k := rdN H hf dm x f 5 - 1) hj (by omega)
  unfold bfo bfP
  cases e : (ctl H hf dm x (rdN H hf dm x f 5 - 1)).testBit j with
  | true =>
    have := w.mp e
    simp only [hj, decide_true, Bool.true_and, Bool.and_eq_true, decide_eq_true_eq]
    omega
  | false =>
    have : ¬ (rdN H hf dm x j 5 ≠ 0 ∧ rdN H hf dm x j 5 ≤ rdN H hf dm x f 5 - 1) := fun q => by rw [w.mpr q] at e; cases e
    simp only [hj, decide_true, Bool.true_and, Bool.and_eq_false_iff, decide_eq_false_iff_not]
    omega
theorem firmsBefore_ok {c x f hf dm : Nat} {σ : Sg} {H : Hd} (hx : x < 9) (hr : rowOK c σ H hf dm x 5) (h0 : rdN H hf dm x f 5 ≠ 0) : f_X1_firmsBefore c (nI x) (nI (rdN H hf dm x f 5)) σ = some (nI (bfo H hf dm x f)) := by
  have h5 := rdN_le (H := H) (hf := hf) (dm := dm) (x := x) f 5
  have hrun := run_FU (fun m k => L_X1_firmsBefore_5 c (nI x) (nI (rdN H hf dm x f 5)) σ m (nI (bfN (bfP H hf dm x f) k)) (nI k)) 5 (some (nI (bfN (bfP H hf dm x f) 5), nI 5)) (by omega) (fun k hk m => by
    have hw := has_ok _ (ctl_lt H hf dm x 5) k hk
    rw [ctl_bit hk] at hw
    have hrd := hr.2.2 k hk
    rw [rd_eq] at hrd
    have hk5 := rdN_le (H := H) (hf := hf) (dm := dm) (x := x) k 5
    have hor : nI (bfN (bfP H hf dm x f) k) ||| (nI 1 <<< (nI k &&& nI 31)) = nI (bfN (bfP H hf dm x f) k ||| (1 <<< k)) := or_ok _ (Nat.lt_of_lt_of_le (bfN_lt _ k (by omega)) (by decide : 32 ≤ 512)) k (by omega)
    show L_X1_firmsBefore_5 c (nI x) (nI (rdN H hf dm x f 5)) σ (m + 1) _ (nI k) = _
    rw [L_X1_firmsBefore_5]
    by_cases c1 : rdN H hf dm x k 5 = 0
    · have : bfP H hf dm x f k = false := by simp [bfP, c1]
      simp only [c1, ne_eq, not_true_eq_false, decide_false] at hw
      simp (disch := omega) only [li0, li1, li2, li3, li4, li5, li6, li7, li8, li9, li10, li15, li31, li32, li40, li41, li49, li50, li99, li100, li999, c_le, c_lt, c_eq, c_tn, c_inb, c_add, hr.1, hx, hw, b2i_f, show ¬ 5 ≤ k by omega, bfN, this, Nat.or_zero, if_true, if_false, ite_true, ite_false, ↓reduceIte, Nat.le_refl, Nat.lt_irrefl, Nat.reduceAdd, Nat.reduceLeDiff, Nat.reduceLT, Nat.reduceEqDiff, Bool.false_eq_true]
    · simp only [c1, ne_eq, not_false_eq_true, decide_true] at hw
      rw [if_neg c1] at hrd
      by_cases c2 : rdN H hf dm x f 5 ≤ rdN H hf dm x k 5
      · have : bfP H hf dm x f k = false := by simp [bfP]; omega
        simp (disch := omega) only [li0, li1, li2, li3, li4, li5, li6, li7, li8, li9, li10, li15, li31, li32, li40, li41, li49, li50, li99, li100, li999, c_le, c_lt, c_eq, c_tn, c_inb, c_add, hr.1, hx, hk, hw, b2i_t, hrd, c2, Nat.one_ne_zero, show ¬ 5 ≤ k by omega, bfN, this, Nat.or_zero, if_true, if_false, ite_true, ite_false, ↓reduceIte, Nat.le_refl, Nat.lt_irrefl, Nat.reduceAdd, Nat.reduceLeDiff, Nat.reduceLT, Nat.reduceEqDiff, Bool.false_eq_true]
      · have : bfP H hf dm x f k = true := by simp [bfP]; omega
        simp (disch := omega) only [li0, li1, li2, li3, li4, li5, li6, li7, li8, li9, li10, li15, li31, li32, li40, li41, li49, li50, li99, li100, li999, c_le, c_lt, c_eq, c_tn, c_inb, c_add, hr.1, hx, hk, hw, b2i_t, hrd, c2, Nat.one_ne_zero, show ¬ 5 ≤ k by omega, bfN, this, hor, if_true, if_false, ite_true, ite_false, ↓reduceIte, Nat.le_refl, Nat.lt_irrefl, Nat.reduceAdd, Nat.reduceLeDiff, Nat.reduceLT, Nat.reduceEqDiff, Bool.false_eq_true]) (fun m => by
    show L_X1_firmsBefore_5 c (nI x) (nI (rdN H hf dm x f 5)) σ (m + 1) _ (nI 5) = _
    rw [L_X1_firmsBefore_5]
    simp (disch := omega) only [li0, li1, li2, li3, li4, li5, li6, li7, li8, li9, li10, li15, li31, li32, li40, li41, li49, li50, li99, li100, li999, c_le, c_lt, c_eq, c_tn, c_inb, c_add, if_true, if_false, ite_true, ite_false, ↓reduceIte, Nat.le_refl, Nat.lt_irrefl, Nat.reduceAdd, Nat.reduceLeDiff, Nat.reduceLT, Nat.reduceEqDiff, Bool.false_eq_true])
  unfold f_X1_firmsBefore
  rw [show L_X1_firmsBefore_5 c (nI x) (nI (rdN H hf dm x f 5)) σ FU 0 0 = _ from hrun, bf_eq h0]
  rfl
/-! ### the least set by which f falls -/
def popc (s : Nat) : Nat := (if s.testBit 0 then 1 else 0) + (if s.testBit 1 then 1 else 0) + (if s.testBit 2 then 1 else 0) + (if s.testBit 3 then 1 else 0) + (if s.testBit 4 then 1 else 0)
theorem bc_ok : ∀ s, s < 32 → f_J6_bitCount_0f7a4 (nI s) = nI (popc s) := by decide +kernel
theorem many_ok (s : Nat) (hs : s < 32) (σ : Sg) : f_X7_many (nI s) σ = some (nI (popc s)) := (by decide +kernel : ∀ s, s < 32 → Option.bind (L_X7_many_4 (nI s) FU 0 0) (fun o1 => some o1.1) = some (nI (popc s))) s hs
theorem popc_le : ∀ s, s < 32 → popc s ≤ 5 := by decide +kernel
theorem popc_sub : ∀ a, a < 32 → ∀ b, b < 32 → a &&& b = a → a ≠ b → popc a < popc b := by decide +kernel
theorem and_le : ∀ a, a < 32 → ∀ b, b < 32 → a &&& b = a → a ≤ b := by decide +kernel
theorem subC_ok (k b : Nat) (hk : k < 32) (hb : b < 32) : (nI k &&& (nI b ^^^ (-1 : Int32)) = nI 0) = (k &&& b = k) := by
  have := (by decide +kernel : ∀ k, k < 32 → ∀ b, b < 32 → decide (nI k &&& (nI b ^^^ (-1 : Int32)) = nI 0) = decide (k &&& b = k)) k hk b hb
  exact propext (decide_eq_decide.mp this)
theorem subM_ok (k b : Nat) (hk : k < 32) (hb : b < 32) : (nI k &&& nI b = nI k) = (k &&& b = k) := by
  have := (by decide +kernel : ∀ k, k < 32 → ∀ b, b < 32 → decide (nI k &&& nI b = nI k) = decide (k &&& b = k)) k hk b hb
  exact propext (decide_eq_decide.mp this)
def wN (fl : Nat → Bool) (bf : Nat) : Nat → Option Nat
  | 0 => none
  | k + 1 => match wN fl bf k with
    | none => if k &&& bf = k ∧ fl k = true then some k else none
    | some b => if k &&& bf = k ∧ fl k = true ∧ popc k < popc b then some k else some b
theorem wN_some {fl : Nat → Bool} {bf : Nat} : ∀ {k b : Nat}, wN fl bf k = some b → b < k ∧ b &&& bf = b ∧ fl b = true
  | 0, b, h => by cases h
  | k + 1, b, h => by
    simp only [wN] at h
    split at h
    · rename_i e
      split at h
      · rename_i c; cases h; exact ⟨by omega, c⟩
      · cases h
    · rename_i b' e
      split at h
      · rename_i c; cases h; exact ⟨by omega, c.1, c.2.1⟩
      · cases h
        have := wN_some e
        exact ⟨by omega, this.2⟩
theorem wN_stop {fl : Nat → Bool} {bf : Nat} (hb : bf < 32) : ∀ j, bf + 1 + j ≤ 32 → wN fl bf (bf + 1 + j) = wN fl bf (bf + 1)
  | 0, _ => rfl
  | j + 1, h => by
    have i := wN_stop (fl := fl) hb j (by omega)
    show (match wN fl bf (bf + 1 + j) with
      | none => if (bf + 1 + j) &&& bf = bf + 1 + j ∧ fl (bf + 1 + j) = true then some (bf + 1 + j) else none
      | some b => if (bf + 1 + j) &&& bf = bf + 1 + j ∧ fl (bf + 1 + j) = true ∧ popc (bf + 1 + j) < popc b then some (bf + 1 + j) else some b) = _
    have no : ¬ ((bf + 1 + j) &&& bf = bf + 1 + j) := fun q => by
      have := and_le _ (show bf + 1 + j < 32 by omega) _ hb q
      omega
    rw [i]
    simp only [no, false_and, if_false]
    cases wN fl bf (bf + 1) <;> rfl
theorem wN_bf {fl : Nat → Bool} {bf : Nat} (hb : bf < 32) (hfl : fl bf = true) : wN fl bf 32 = some ((wN fl bf bf).getD bf) := by
  have h := wN_stop (fl := fl) hb (31 - bf) (by omega)
  rw [show bf + 1 + (31 - bf) = 32 by omega] at h
  rw [h]
  simp only [wN]
  cases e : wN fl bf bf with
  | none => simp [hfl]
  | some b =>
    have hs := wN_some e
    have hp := popc_sub b (by omega) bf hb hs.2.1 (by omega)
    simp [show ¬ popc bf < popc b by omega]
def wit (H : Hd) (hf dm x f : Nat) : Nat := (wN (fun s => fallsN H hf dm f x s) (bfo H hf dm x f) (bfo H hf dm x f)).getD (bfo H hf dm x f)
theorem bfo_lt (H : Hd) (hf dm x f : Nat) : bfo H hf dm x f < 32 := ctl_lt _ _ _ _ _
theorem bfo_falls {H : Hd} {hf dm x f : Nat} (hfi : f < 5) (h0 : rdN H hf dm x f 5 ≠ 0) : fallsN H hf dm f x (bfo H hf dm x f) = true := by
  have := rdN_at 5 h0
  rw [nw_bit _ _ hfi] at this
  simp only [Bool.and_eq_true] at this
  exact this.2
theorem wit_lt (H : Hd) (hf dm x f : Nat) : wit H hf dm x f < 32 := by
  have hb := bfo_lt H hf dm x f
  unfold wit
  cases e : wN (fun s => fallsN H hf dm f x s) (bfo H hf dm x f) (bfo H hf dm x f) with
  | none => exact hb
  | some b => have := (wN_some e).1; simp only [Option.getD_some]; omega
theorem and_self5 : ∀ a, a < 32 → a &&& a = a := by decide +kernel
theorem wit_sub (H : Hd) (hf dm x f : Nat) : wit H hf dm x f &&& bfo H hf dm x f = wit H hf dm x f := by
  unfold wit
  cases e : wN (fun s => fallsN H hf dm f x s) (bfo H hf dm x f) (bfo H hf dm x f) with
  | none => exact and_self5 _ (bfo_lt H hf dm x f)
  | some b => exact (wN_some e).2.1
theorem neg6_lt0 : (-6 : Int32) < nI 0 := by decide
theorem neg6_le0 : (-6 : Int32) ≤ nI 0 := by decide
theorem wit_ok {c h b x f hf dm : Nat} {σ : Sg} {H : Hd} (hx : x < 9) (hfi : f < 5) (hr : rowOK c σ H hf dm x 5) (hC : repC h σ H) (hH : okH H) (h1 : σ.1 b 9 = nI hf) (h2 : σ.1 b 10 = nI dm) (hhf : hf < 1000) (hdm : dm < 1000) : f_X1_witnessOf c (nI x) (nI f) h b σ = if rdN H hf dm x f 5 = 0 then some (-6) else some (nI (wit H hf dm x f)) := by
  have hw := has_ok _ (ctl_lt H hf dm x 5) f hfi
  rw [ctl_bit hfi] at hw
  have h5 := rdN_le (H := H) (hf := hf) (dm := dm) (x := x) f 5
  unfold f_X1_witnessOf
  by_cases c1 : rdN H hf dm x f 5 = 0
  · simp only [c1, ne_eq, not_true_eq_false, decide_false] at hw
    simp (disch := omega) only [li0, li1, li2, li3, li4, li5, li6, li7, li8, li9, li10, li15, li31, li32, li40, li41, li49, li50, li99, li100, li999, c_le, c_lt, c_eq, c_tn, c_inb, c_add, hr.1, hx, hw, b2i_f, c1, if_true, if_false, ite_true, ite_false, ↓reduceIte, Nat.le_refl, Nat.lt_irrefl, Nat.reduceAdd, Nat.reduceLeDiff, Nat.reduceLT, Nat.reduceEqDiff, Bool.false_eq_true]
  · simp only [c1, ne_eq, not_false_eq_true, decide_true] at hw
    have hrd := hr.2.2 f hfi
    rw [rd_eq, if_neg c1] at hrd
    have hb := bfo_lt H hf dm x f
    have hbf := firmsBefore_ok hx hr c1
    have hrun := run_FU (fun m k => L_X1_witnessOf_38 (nI x) (nI f) h b (nI (bfo H hf dm x f)) σ m (nI ((wN (fun s => fallsN H hf dm f x s) (bfo H hf dm x f) k).getD (bfo H hf dm x f))) (nI k)) (bfo H hf dm x f) (some (nI (wit H hf dm x f), nI (bfo H hf dm x f))) (by omega) (fun k hk m => by
      have hfa := falls_ok hC hH h1 h2 hhf hdm hfi hx (show k < 32 by omega)
      have hsub : (nI k &&& (nI (bfo H hf dm x f) ^^^ -nI 1) = nI 0) = (k &&& bfo H hf dm x f = k) := subC_ok k _ (by omega) hb
      have hpk := popc_le k (by omega)
      show L_X1_witnessOf_38 (nI x) (nI f) h b (nI (bfo H hf dm x f)) σ (m + 1) _ (nI k) = _
      rw [L_X1_witnessOf_38]
      cases e : wN (fun s => fallsN H hf dm f x s) (bfo H hf dm x f) k with
      | none =>
        have hpb := popc_le _ hb
        simp only [wN, e, Option.getD_none]
        by_cases d1 : k &&& bfo H hf dm x f = k
        · have hp := popc_sub k (by omega) _ hb d1 (by omega)
          rcases Bool.eq_false_or_eq_true (fallsN H hf dm f x k) with hz | hz
          · rw [hz] at hfa
            simp (disch := omega) only [li0, li1, li2, li3, li4, li5, li6, li7, li8, li9, li10, li15, li31, li32, li40, li41, li49, li50, li99, li100, li999, c_le, c_lt, c_eq, c_tn, c_inb, c_add, hsub, d1, bc_ok _ hb, bc_ok k (by omega), jn, show ¬ popc (bfo H hf dm x f) ≤ popc k by omega, Nat.one_ne_zero, hfa, hz, b2i_t, Option.bind_some, show ¬ bfo H hf dm x f ≤ k by omega, and_self, Option.getD_some, if_true, if_false, ite_true, ite_false, ↓reduceIte, Nat.le_refl, Nat.lt_irrefl, Nat.reduceAdd, Nat.reduceLeDiff, Nat.reduceLT, Nat.reduceEqDiff, Bool.false_eq_true]
          · rw [hz] at hfa
            simp (disch := omega) only [li0, li1, li2, li3, li4, li5, li6, li7, li8, li9, li10, li15, li31, li32, li40, li41, li49, li50, li99, li100, li999, c_le, c_lt, c_eq, c_tn, c_inb, c_add, hsub, d1, bc_ok _ hb, bc_ok k (by omega), jn, show ¬ popc (bfo H hf dm x f) ≤ popc k by omega, Nat.one_ne_zero, hfa, hz, b2i_f, Option.bind_some, show ¬ bfo H hf dm x f ≤ k by omega, and_false, Option.getD_none, if_true, if_false, ite_true, ite_false, ↓reduceIte, Nat.le_refl, Nat.lt_irrefl, Nat.reduceAdd, Nat.reduceLeDiff, Nat.reduceLT, Nat.reduceEqDiff, Bool.false_eq_true]
        · simp (disch := omega) only [li0, li1, li2, li3, li4, li5, li6, li7, li8, li9, li10, li15, li31, li32, li40, li41, li49, li50, li99, li100, li999, c_le, c_lt, c_eq, c_tn, c_inb, c_add, hsub, d1, jn, show ¬ bfo H hf dm x f ≤ k by omega, false_and, Option.getD_none, if_true, if_false, ite_true, ite_false, ↓reduceIte, Nat.le_refl, Nat.lt_irrefl, Nat.reduceAdd, Nat.reduceLeDiff, Nat.reduceLT, Nat.reduceEqDiff, Bool.false_eq_true]
      | some w =>
        have hs := wN_some e
        have hpw := popc_le w (by omega)
        simp only [wN, e, Option.getD_some]
        by_cases d1 : k &&& bfo H hf dm x f = k
        · by_cases d2 : popc k < popc w
          · rcases Bool.eq_false_or_eq_true (fallsN H hf dm f x k) with hz | hz
            · rw [hz] at hfa
              simp (disch := omega) only [li0, li1, li2, li3, li4, li5, li6, li7, li8, li9, li10, li15, li31, li32, li40, li41, li49, li50, li99, li100, li999, c_le, c_lt, c_eq, c_tn, c_inb, c_add, hsub, d1, d2, bc_ok w (by omega), bc_ok k (by omega), jn, show ¬ popc w ≤ popc k by omega, Nat.one_ne_zero, hfa, hz, b2i_t, Option.bind_some, show ¬ bfo H hf dm x f ≤ k by omega, and_self, Option.getD_some, if_true, if_false, ite_true, ite_false, ↓reduceIte, Nat.le_refl, Nat.lt_irrefl, Nat.reduceAdd, Nat.reduceLeDiff, Nat.reduceLT, Nat.reduceEqDiff, Bool.false_eq_true]
            · rw [hz] at hfa
              simp (disch := omega) only [li0, li1, li2, li3, li4, li5, li6, li7, li8, li9, li10, li15, li31, li32, li40, li41, li49, li50, li99, li100, li999, c_le, c_lt, c_eq, c_tn, c_inb, c_add, hsub, d1, d2, bc_ok w (by omega), bc_ok k (by omega), jn, show ¬ popc w ≤ popc k by omega, Nat.one_ne_zero, hfa, hz, b2i_f, Option.bind_some, show ¬ bfo H hf dm x f ≤ k by omega, and_false, false_and, Option.getD_some, if_true, if_false, ite_true, ite_false, ↓reduceIte, Nat.le_refl, Nat.lt_irrefl, Nat.reduceAdd, Nat.reduceLeDiff, Nat.reduceLT, Nat.reduceEqDiff, Bool.false_eq_true]
          · simp (disch := omega) only [li0, li1, li2, li3, li4, li5, li6, li7, li8, li9, li10, li15, li31, li32, li40, li41, li49, li50, li99, li100, li999, c_le, c_lt, c_eq, c_tn, c_inb, c_add, hsub, d1, d2, bc_ok w (by omega), bc_ok k (by omega), jn, show popc w ≤ popc k by omega, show ¬ bfo H hf dm x f ≤ k by omega, and_false, Option.getD_some, if_true, if_false, ite_true, ite_false, ↓reduceIte, Nat.le_refl, Nat.lt_irrefl, Nat.reduceAdd, Nat.reduceLeDiff, Nat.reduceLT, Nat.reduceEqDiff, Bool.false_eq_true]
        · simp (disch := omega) only [li0, li1, li2, li3, li4, li5, li6, li7, li8, li9, li10, li15, li31, li32, li40, li41, li49, li50, li99, li100, li999, c_le, c_lt, c_eq, c_tn, c_inb, c_add, hsub, d1, jn, show ¬ bfo H hf dm x f ≤ k by omega, false_and, Option.getD_some, if_true, if_false, ite_true, ite_false, ↓reduceIte, Nat.le_refl, Nat.lt_irrefl, Nat.reduceAdd, Nat.reduceLeDiff, Nat.reduceLT, Nat.reduceEqDiff, Bool.false_eq_true]) (fun m => by
      show L_X1_witnessOf_38 (nI x) (nI f) h b (nI (bfo H hf dm x f)) σ (m + 1) _ (nI (bfo H hf dm x f)) = _
      rw [L_X1_witnessOf_38]
      simp (disch := omega) only [li0, li1, li2, li3, li4, li5, li6, li7, li8, li9, li10, li15, li31, li32, li40, li41, li49, li50, li99, li100, li999, c_le, c_lt, c_eq, c_tn, c_inb, c_add, if_true, if_false, ite_true, ite_false, ↓reduceIte, Nat.le_refl, Nat.lt_irrefl, Nat.reduceAdd, Nat.reduceLeDiff, Nat.reduceLT, Nat.reduceEqDiff, Bool.false_eq_true]
      rfl)
    have hrun' : L_X1_witnessOf_38 (nI x) (nI f) h b (nI (bfo H hf dm x f)) σ FU (nI (bfo H hf dm x f)) (nI 0) = some (nI (wit H hf dm x f), nI (bfo H hf dm x f)) := hrun
    simp (disch := omega) only [li0, li1, li2, li3, li4, li5, li6, li7, li8, li9, li10, li15, li31, li32, li40, li41, li49, li50, li99, li100, li999, c_le, c_lt, c_eq, c_tn, c_inb, c_add, hr.1, hx, hfi, hw, b2i_t, c1, Nat.one_ne_zero, hrd, hbf, Option.bind_some, hrun', if_true, if_false, ite_true, ite_false, ↓reduceIte, Nat.le_refl, Nat.lt_irrefl, Nat.reduceAdd, Nat.reduceLeDiff, Nat.reduceLT, Nat.reduceEqDiff, Bool.false_eq_true]
