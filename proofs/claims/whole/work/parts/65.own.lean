/-! OWNERS, AND THOSE ABOVE A FIRM -/
theorem bfN_or (p q : Nat → Bool) (n : Nat) : bfN p n ||| bfN q n = bfN (fun i => p i || q i) n := by
  refine Nat.eq_of_testBit_eq (fun j => ?_)
  rw [Nat.testBit_or, bfN_bit, bfN_bit, bfN_bit]
  cases decide (j < n) <;> simp
theorem bfN_lt9 (p : Nat → Bool) : ∀ m, m ≤ 9 → bfN p m < 512 := by
  intro m hm
  refine Nat.lt_of_lt_of_le (Nat.lt_pow_two_of_testBit (n := m) _ (fun j hj => ?_)) (show 2 ^ m ≤ 512 from Nat.pow_le_pow_right (n := 2) (by omega) hm)
  rw [bfN_bit, decide_eq_false (by omega), Bool.false_and]
theorem bfN_congr {p q : Nat → Bool} {n : Nat} (h : ∀ j, j < n → p j = q j) : bfN p n = bfN q n := by
  refine Nat.eq_of_testBit_eq (fun j => ?_)
  rw [bfN_bit, bfN_bit]
  by_cases c : j < n
  · rw [h j c]
  · rw [decide_eq_false c]; rfl
theorem bfN_step {p : Nat → Bool} {k : Nat} (hk : k < 9) : nI (bfN p k) ||| (if p k then nI 1 <<< (nI k &&& nI 31) else nI 0) = nI (bfN p (k + 1)) := by
  have h1 := or_ok _ (bfN_lt9 p k (by omega)) k hk
  simp only [bfN]
  cases p k with
  | true => exact h1
  | false =>
    simp only [Bool.false_eq_true, if_false, Nat.or_zero]
    exact Int32.or_zero
def pab (H : Hd) (f : Nat) (ow : Int32) (s : Nat) : Bool := !decide (Int64.ofInt (UP H s f) * 100 ≤ ow.toInt64 * Int64.ofInt (LO H))
theorem pab_ok {σ : Sg} {H : Hd} (h : stakOK σ H) {f : Nat} (hf : f < 5) (ow : Int32) : f_X4_personsAbove (nI f) ow σ = some (nI (bfN (pab H f ow) 4)) := by
  have := run_FU (fun m k => L_X4_personsAbove_5 (nI f) ow σ m (nI (bfN (pab H f ow) k)) (nI k)) 4 (some (nI (bfN (pab H f ow) 4), nI 4)) (by decide) (fun k hk m => ?_) (fun m => ?_)
  · unfold f_X4_personsAbove
    rw [show L_X4_personsAbove_5 (nI f) ow σ FU 0 0 = _ from this]
    rfl
  · show L_X4_personsAbove_5 _ _ _ _ _ _ = L_X4_personsAbove_5 _ _ _ _ _ _
    have hst := bfN_step (p := pab H f ow) (k := k) (by omega)
    rw [← hst, L_X4_personsAbove_5, upper_ok h hf (show k < 5 by omega), lower_ok h hf]
    unfold pab
    by_cases c : Int64.ofInt (UP H k f) * 100 ≤ ow.toInt64 * Int64.ofInt (LO H)
    · simp (disch := omega) only [li0, li1, li2, li3, li4, li5, li6, li7, li8, li9, li10, li15, li31, li32, li40, li41, li49, li50, li99, li100, li999, c_le, c_lt, c_eq, c_tn, c_inb, c_add, show ¬ 4 ≤ k by omega, Option.bind_some, lgl, c, decide_true, Bool.not_true, Int32.or_zero, if_true, if_false, ite_true, ite_false, ↓reduceIte, Nat.le_refl, Nat.lt_irrefl, Nat.reduceAdd, Nat.reduceLeDiff, Nat.reduceLT, Nat.reduceEqDiff, Bool.false_eq_true]
      rw [show ∀ z : Int32, z ||| nI 0 = z from fun z => Int32.or_zero]
    · simp (disch := omega) only [li0, li1, li2, li3, li4, li5, li6, li7, li8, li9, li10, li15, li31, li32, li40, li41, li49, li50, li99, li100, li999, c_le, c_lt, c_eq, c_tn, c_inb, c_add, show ¬ 4 ≤ k by omega, Option.bind_some, lgl, c, decide_false, Bool.not_false, if_true, if_false, ite_true, ite_false, ↓reduceIte, Nat.le_refl, Nat.lt_irrefl, Nat.reduceAdd, Nat.reduceLeDiff, Nat.reduceLT, Nat.reduceEqDiff, Bool.false_eq_true]
  · show L_X4_personsAbove_5 _ _ _ _ _ _ = _
    rw [L_X4_personsAbove_5]
    simp (disch := omega) only [li0, li1, li2, li3, li4, li5, li6, li7, li8, li9, li10, li15, li31, li32, li40, li41, li49, li50, li99, li100, li999, c_le, c_lt, c_eq, c_tn, c_inb, c_add, if_true, if_false, ite_true, ite_false, ↓reduceIte, Nat.le_refl, Nat.lt_irrefl, Nat.reduceAdd, Nat.reduceLeDiff, Nat.reduceLT, Nat.reduceEqDiff, Bool.false_eq_true]
def owP (H : Hd) (hf dm f : Nat) (ow : Int32) (s : Nat) : Bool := ovr H hf dm f 0 s || pab H f ow s
theorem ownM_ok {f hf dm : Nat} {σ : Sg} {H : Hd} {ow : Int32} (hfi : f < 5) (hR : repR σ H hf dm) (hH : okH H) (hhf : hf < 1000) (hdm : dm < 1000) (how : σ.1 139 2 = ow) (hu : ∀ s, s < 4 → σ.2 147 s = Int64.ofInt (UP H s f)) : ∃ σ', L_X7_owners_25 (nI f) (Int64.ofInt (LO H)) FU 0 0 σ = some (nI (bfN (owP H hf dm f ow) 4), nI 4, σ') ∧ offR σ σ' := by
  refine ex_use (loop_inv (fun m k (a : Sg) => L_X7_owners_25 (nI f) (Int64.ofInt (LO H)) m (nI (bfN (owP H hf dm f ow) k)) (nI k) a) (fun k a => offR σ a) 4 (fun a => (nI (bfN (owP H hf dm f ow) 4), nI 4, a)) (by decide) (fun k hk m a ha => ?_) (fun m a ha => ?_) σ offR.rf) (fun σ' h1 h2 => ⟨σ', h2, h1⟩)
  · obtain ⟨σ1, e1, e2, e3, e4⟩ := ctlM_ok (x := k) (hR.kept (fun j g1 g2 => (ha.1 j (by omega)).1)) hH hhf hdm (by omega)
    have h139 : σ1.1 139 2 = ow := by rw [(e4.1 139 (by omega)).1, (ha.1 139 (by omega)).1]; exact how
    have h147 : σ1.2 147 k = Int64.ofInt (UP H k f) := by rw [(e4.1 147 (by omega)).2, (ha.1 147 (by omega)).2]; exact hu k hk
    have hw := hasM_ok _ (ctl_lt H hf dm k 5) f hfi
    have hst := bfN_step (p := owP H hf dm f ow) (k := k) (by omega)
    refine ⟨σ1, ?_, ha.tr e4⟩
    show L_X7_owners_25 _ _ _ _ _ _ = L_X7_owners_25 _ _ _ _ _ _
    rw [← hst, L_X7_owners_25, e1]
    unfold owP ovr
    rw [Nat.zero_add]
    rcases Bool.eq_false_or_eq_true ((ctl H hf dm k 5).testBit f) with hb | hb
    · rw [hb] at hw
      simp (disch := omega) only [li0, li1, li2, li3, li4, li5, li6, li7, li8, li9, li10, li15, li31, li32, li40, li41, li49, li50, li99, li100, li999, c_le, c_lt, c_eq, c_tn, c_inb, c_add, show ¬ 4 ≤ k by omega, Option.bind_some, hw, hb, b2i_t, Nat.one_ne_zero, Bool.true_or, if_true, if_false, ite_true, ite_false, ↓reduceIte, Nat.le_refl, Nat.lt_irrefl, Nat.reduceAdd, Nat.reduceLeDiff, Nat.reduceLT, Nat.reduceEqDiff, Bool.false_eq_true]
    · rw [hb] at hw
      unfold pab
      rw [Int64.mul_comm (Int64.ofInt (UP H k f)) 100]
      by_cases c : 100 * Int64.ofInt (UP H k f) ≤ ow.toInt64 * Int64.ofInt (LO H)
      · simp (disch := omega) only [li0, li1, li2, li3, li4, li5, li6, li7, li8, li9, li10, li15, li31, li32, li40, li41, li49, li50, li99, li100, li999, c_le, c_lt, c_eq, c_tn, c_inb, c_add, show ¬ 4 ≤ k by omega, hk, Option.bind_some, hw, hb, b2i_f, h139, h147, lgl, c, decide_true, Bool.not_true, Bool.or_self, show (2 : Nat) < 3 by decide, if_true, if_false, ite_true, ite_false, ↓reduceIte, Nat.le_refl, Nat.lt_irrefl, Nat.reduceAdd, Nat.reduceLeDiff, Nat.reduceLT, Nat.reduceEqDiff, Bool.false_eq_true]
      · simp (disch := omega) only [li0, li1, li2, li3, li4, li5, li6, li7, li8, li9, li10, li15, li31, li32, li40, li41, li49, li50, li99, li100, li999, c_le, c_lt, c_eq, c_tn, c_inb, c_add, show ¬ 4 ≤ k by omega, hk, Option.bind_some, hw, hb, b2i_f, h139, h147, lgl, c, decide_false, Bool.not_false, Bool.or_true, show (2 : Nat) < 3 by decide, if_true, if_false, ite_true, ite_false, ↓reduceIte, Nat.le_refl, Nat.lt_irrefl, Nat.reduceAdd, Nat.reduceLeDiff, Nat.reduceLT, Nat.reduceEqDiff, Bool.false_eq_true]
  · rw [L_X7_owners_25]
    simp (disch := omega) only [li0, li1, li2, li3, li4, li5, li6, li7, li8, li9, li10, li15, li31, li32, li40, li41, li49, li50, li99, li100, li999, c_le, c_lt, c_eq, c_tn, c_inb, c_add, if_true, if_false, ite_true, ite_false, ↓reduceIte, Nat.le_refl, Nat.lt_irrefl, Nat.reduceAdd, Nat.reduceLeDiff, Nat.reduceLT, Nat.reduceEqDiff, Bool.false_eq_true]
/-- all nine, and the vetoes -/
def ovA (H : Hd) (hf dm f x : Nat) : Bool := (ctl H hf dm x 5).testBit f
theorem abvM_ok {f hf dm : Nat} {σ : Sg} {H : Hd} (y : Int32) (hfi : f < 5) (hR : repR σ H hf dm) (hH : okH H) (hhf : hf < 1000) (hdm : dm < 1000) : ∃ σ', L_X7_above_40 (nI f) y FU 0 0 0 σ = some (nI (bfN (ovA H hf dm f) 9), nI (bfN (H.2.2 f) 9), nI 9, σ') ∧ offR σ σ' := by
  refine ex_use (loop_inv (fun m k (a : Sg) => L_X7_above_40 (nI f) y m (nI (bfN (ovA H hf dm f) k)) (nI (bfN (H.2.2 f) k)) (nI k) a) (fun k a => offR σ a) 9 (fun a => (nI (bfN (ovA H hf dm f) 9), nI (bfN (H.2.2 f) 9), nI 9, a)) (by decide) (fun k hk m a ha => ?_) (fun m a ha => ?_) σ offR.rf) (fun σ' h1 h2 => ⟨σ', h2, h1⟩)
  · have hR1 := hR.kept (fun j g1 g2 => (ha.1 j (by omega)).1)
    obtain ⟨σ1, e1, e2, e3, e4⟩ := ctlM_ok (x := k) hR1 hH hhf hdm (by omega)
    have h143 : σ1.1 143 (5 * k + f) = b2i (H.2.2 f k) := by rw [(e4.1 143 (by omega)).1]; exact (hR1.1 f hfi k (by omega)).2.2
    have hw := hasM_ok _ (ctl_lt H hf dm k 5) f hfi
    have hst := bfN_step (p := ovA H hf dm f) (k := k) (by omega)
    have hst2 := bfN_step (p := H.2.2 f) (k := k) (by omega)
    refine ⟨σ1, ?_, ha.tr e4⟩
    show L_X7_above_40 _ _ _ _ _ _ _ = L_X7_above_40 _ _ _ _ _ _ _
    rw [← hst, ← hst2, L_X7_above_40, e1]
    unfold ovA
    rcases Bool.eq_false_or_eq_true ((ctl H hf dm k 5).testBit f) with hb | hb <;> rcases Bool.eq_false_or_eq_true (H.2.2 f k) with hv | hv <;> rw [hb] at hw <;> rw [hv] at h143 <;> simp (disch := omega) only [li0, li1, li2, li3, li4, li5, li6, li7, li8, li9, li10, li15, li31, li32, li40, li41, li49, li50, li99, li100, li999, c_le, c_lt, c_eq, c_tn, c_inb, c_add, show ¬ 9 ≤ k by omega, Option.bind_some, at_ok, h143, hw, hb, hv, b2i_t, b2i_f, Nat.one_ne_zero, jn, show 5 * k + f < 50 by omega, if_true, if_false, ite_true, ite_false, ↓reduceIte, Nat.le_refl, Nat.lt_irrefl, Nat.reduceAdd, Nat.reduceLeDiff, Nat.reduceLT, Nat.reduceEqDiff, Bool.false_eq_true]
  · rw [L_X7_above_40]
    simp (disch := omega) only [li0, li1, li2, li3, li4, li5, li6, li7, li8, li9, li10, li15, li31, li32, li40, li41, li49, li50, li99, li100, li999, c_le, c_lt, c_eq, c_tn, c_inb, c_add, if_true, if_false, ite_true, ite_false, ↓reduceIte, Nat.le_refl, Nat.lt_irrefl, Nat.reduceAdd, Nat.reduceLeDiff, Nat.reduceLT, Nat.reduceEqDiff, Bool.false_eq_true]
theorem and15 : ∀ s, s < 512 → nI s &&& 15 = nI (s % 16) := by decide +kernel
theorem shr4 : ∀ s, s < 512 → nI s >>> ((4 : Int32) &&& 31) = nI (s >>> 4) := by decide +kernel
theorem shr4f : ∀ s, s < 512 → ∀ f, f < 5 → ((nI s) >>> (((4 : Int32) + nI f) &&& 31)) &&& 1 = b2i (s.testBit (4 + f)) := by decide +kernel
theorem bfN_mod (p : Nat → Bool) : bfN p 9 % 16 = bfN p 4 := by
  refine Nat.eq_of_testBit_eq (fun j => ?_)
  rw [show (16 : Nat) = 2 ^ 4 from rfl, Nat.testBit_mod_two_pow, bfN_bit, bfN_bit]
  by_cases c : j < 4
  · simp [c, show j < 9 by omega]
  · simp [c]
theorem bfN_shr (p : Nat → Bool) : bfN p 9 >>> 4 = bfN (fun i => p (4 + i)) 5 := by
  refine Nat.eq_of_testBit_eq (fun j => ?_)
  rw [Nat.testBit_shiftRight, bfN_bit, bfN_bit]
  by_cases c : j < 5
  · simp [c, show 4 + j < 9 by omega]
  · simp [c, show ¬ 4 + j < 9 by omega]
theorem veto_bf {H : Hd} {f m : Nat} (hm : m < 512) (h : ∀ k, k < 9 → m.testBit k = H.2.2 f k) : m = bfN (H.2.2 f) 9 := by
  refine Nat.eq_of_testBit_eq (fun j => ?_)
  rw [bfN_bit]
  by_cases c : j < 9
  · simp [c, h j c]
  · rw [Nat.testBit_lt_two_pow (Nat.lt_of_lt_of_le hm (show 512 ≤ 2 ^ j from Nat.pow_le_pow_right (n := 2) (by omega) (show 9 ≤ j by omega))), decide_eq_false c]
    rfl
