/-! CONTROL: what falls to whom, by rounds -/
def allN (p : Nat → Bool) : Nat → Bool
  | 0 => true
  | n + 1 => allN p n && p n
theorem allN_iff {p : Nat → Bool} : ∀ {n : Nat}, allN p n = true ↔ ∀ k, k < n → p k = true
  | 0 => ⟨fun _ k h => absurd h (by omega), fun _ => rfl⟩
  | n + 1 => by
    simp only [allN, Bool.and_eq_true]
    rw [allN_iff (n := n)]
    constructor
    · rintro ⟨h1, h2⟩ k hk
      rcases Nat.lt_succ_iff_lt_or_eq.mp hk with h | h
      · exact h1 k h
      · rw [h]; exact h2
    · intro h
      exact ⟨fun k hk => h k (by omega), h n (by omega)⟩
theorem allN_false {p : Nat → Bool} {n k : Nat} (hk : k < n) (h : p k = false) : allN p n = false := by
  cases e : allN p n with
  | false => rfl
  | true => have := allN_iff.mp e k hk; rw [h] at this; cases this
def blk (H : Hd) (f x s : Nat) : Nat → Nat
  | 0 => 0
  | m + 1 => blk H f x s m + (if isw m x s then H.2.1 f m else 0)
theorem blk_le (H : Hd) (f x s : Nat) : ∀ m, blk H f x s m ≤ sumN (H.2.1 f) m
  | 0 => Nat.le_refl 0
  | m + 1 => by
    have := blk_le H f x s m
    simp only [blk, sumN]
    split <;> omega
theorem blk_bd {H : Hd} (hH : okH H) {f x s m : Nat} (hf : f < 5) (hm : m ≤ 10) : blk H f x s m ≤ 100 := by
  have h1 := blk_le H f x s m
  have h2 : ∀ j, sumN (H.2.1 f) m ≤ sumN (H.2.1 f) (m + j) := by
    intro j
    induction j with
    | zero => exact Nat.le_refl _
    | succ j ih => exact Nat.le_trans ih (Nat.le_add_right _ _)
  have h3 := h2 (10 - m)
  rw [show m + (10 - m) = 10 by omega, (hH f hf).2.1] at h3
  omega
def fallsN (H : Hd) (hf dm f x s : Nat) : Bool :=
  allN (fun h => !H.2.2 f h || isw h x s) 9 && (decide (hf < blk H f x s 9) || (decide (dm ≤ blk H f x s 9) && allN (fun h => isw h x s || decide (H.2.1 f h < blk H f x s 9)) 9))
theorem block_ok {h f x s : Nat} {σ : Sg} {H : Hd} (hr : repC h σ H) (hH : okH H) (hf : f < 5) (hx : x < 9) (hs : s < 32) : f_X2_block h (nI f) (nI (alN x s)) σ = some (nI (blk H f x s 9)) := by
  have hrun := run_FU (fun m k => L_X2_block_5 h (nI f) (nI (alN x s)) σ m (nI (blk H f x s k)) (nI k)) 9 (some (nI (blk H f x s 9), nI 9)) (by omega) (fun k hk m => by
    have hb : (nI (alN x s) &&& (nI 1 <<< (nI k &&& nI 31)) = nI 0) = (isw k x s = false) := by
      have := bit_ok _ (al_lt x hx s hs) k hk
      rw [al_bit x hx s hs k hk] at this
      exact this
    have hv := (hr.1 f hf k (by omega)).2
    show L_X2_block_5 h (nI f) (nI (alN x s)) σ (m + 1) _ (nI k) = _
    rw [L_X2_block_5]
    cases hc : isw k x s with
    | true => simp (disch := omega) only [li0, li1, li2, li3, li4, li5, li6, li7, li8, li9, li10, li15, li31, li32, li40, li41, li49, li50, li99, li100, li999, c_le, c_lt, c_eq, c_tn, c_inb, c_add, hb, hc, hv, hf, show ¬ 9 ≤ k by omega, show k < 10 by omega, blk, Bool.true_eq_false, if_true, if_false, ite_true, ite_false, ↓reduceIte, Nat.le_refl, Nat.lt_irrefl, Nat.reduceAdd, Nat.reduceLeDiff, Nat.reduceLT, Nat.reduceEqDiff, Bool.false_eq_true]
    | false => simp (disch := omega) only [li0, li1, li2, li3, li4, li5, li6, li7, li8, li9, li10, li15, li31, li32, li40, li41, li49, li50, li99, li100, li999, c_le, c_lt, c_eq, c_tn, c_inb, c_add, hb, hc, show ¬ 9 ≤ k by omega, blk, Nat.add_zero, if_true, if_false, ite_true, ite_false, ↓reduceIte, Nat.le_refl, Nat.lt_irrefl, Nat.reduceAdd, Nat.reduceLeDiff, Nat.reduceLT, Nat.reduceEqDiff, Bool.false_eq_true]) (fun m => by
    show L_X2_block_5 h (nI f) (nI (alN x s)) σ (m + 1) _ (nI 9) = _
    rw [L_X2_block_5]
    simp (disch := omega) only [li0, li1, li2, li3, li4, li5, li6, li7, li8, li9, li10, li15, li31, li32, li40, li41, li49, li50, li99, li100, li999, c_le, c_lt, c_eq, c_tn, c_inb, c_add, if_true, if_false, ite_true, ite_false, ↓reduceIte, Nat.le_refl, Nat.lt_irrefl, Nat.reduceAdd, Nat.reduceLeDiff, Nat.reduceLT, Nat.reduceEqDiff, Bool.false_eq_true])
  unfold f_X2_block
  rw [show L_X2_block_5 h (nI f) (nI (alN x s)) σ FU 0 0 = _ from hrun]
  rfl
theorem match_ok {h f x s B : Nat} {σ : Sg} {H : Hd} (hr : repC h σ H) (hH : okH H) (hf : f < 5) (hx : x < 9) (hs : s < 32) (hB : B < 1000) : f_X2_isMatched h (nI f) (nI (alN x s)) (nI B) σ = some (b2i (!allN (fun h => isw h x s || decide (H.2.1 f h < B)) 9)) := by
  have key := run_invFU (fun m k (_ : Unit) => L_X2_isMatched_3 h (nI f) (nI (alN x s)) (nI B) σ m (nI k)) (fun k _ => allN (fun h => isw h x s || decide (H.2.1 f h < B)) k = true) 9
    (fun q => q = if allN (fun h => isw h x s || decide (H.2.1 f h < B)) 9 then some (.inr (nI 9)) else some (.inl (nI 1))) (by omega) (fun k hk m a ha => ?_) (fun m a ha => ?_) () rfl
  · unfold f_X2_isMatched
    rw [show L_X2_isMatched_3 h (nI f) (nI (alN x s)) (nI B) σ FU 0 = _ from key]
    cases allN (fun h => isw h x s || decide (H.2.1 f h < B)) 9 <;> rfl
  · have hb : (nI (alN x s) &&& (nI 1 <<< (nI k &&& nI 31)) = nI 0) = (isw k x s = false) := by
      have := bit_ok _ (al_lt x hx s hs) k hk
      rw [al_bit x hx s hs k hk] at this
      exact this
    have hv := (hr.1 f hf k (by omega)).2
    have hvb := hH.vo hf (show k < 10 by omega)
    cases hc : isw k x s with
    | true =>
      left
      refine ⟨(), ?_, ?_⟩
      · simp only [allN, ha, hc]; rfl
      · show L_X2_isMatched_3 h (nI f) (nI (alN x s)) (nI B) σ (m + 1) (nI k) = _
        rw [L_X2_isMatched_3]
        simp (disch := omega) only [li0, li1, li2, li3, li4, li5, li6, li7, li8, li9, li10, li15, li31, li32, li40, li41, li49, li50, li99, li100, li999, c_le, c_lt, c_eq, c_tn, c_inb, c_add, hb, hc, show ¬ 9 ≤ k by omega, Bool.true_eq_false, if_true, if_false, ite_true, ite_false, ↓reduceIte, Nat.le_refl, Nat.lt_irrefl, Nat.reduceAdd, Nat.reduceLeDiff, Nat.reduceLT, Nat.reduceEqDiff, Bool.false_eq_true]
    | false =>
      by_cases c2 : H.2.1 f k < B
      · left
        refine ⟨(), ?_, ?_⟩
        · simp only [allN, ha, hc, c2]; rfl
        · show L_X2_isMatched_3 h (nI f) (nI (alN x s)) (nI B) σ (m + 1) (nI k) = _
          rw [L_X2_isMatched_3]
          simp (disch := omega) only [li0, li1, li2, li3, li4, li5, li6, li7, li8, li9, li10, li15, li31, li32, li40, li41, li49, li50, li99, li100, li999, c_le, c_lt, c_eq, c_tn, c_inb, c_add, hb, hc, hv, hf, c2, show ¬ 9 ≤ k by omega, show k < 10 by omega, if_true, if_false, ite_true, ite_false, ↓reduceIte, Nat.le_refl, Nat.lt_irrefl, Nat.reduceAdd, Nat.reduceLeDiff, Nat.reduceLT, Nat.reduceEqDiff, Bool.false_eq_true]
      · right
        rw [allN_false hk (show (isw k x s || decide (H.2.1 f k < B)) = false by simp [hc, c2])]
        show L_X2_isMatched_3 h (nI f) (nI (alN x s)) (nI B) σ (m + 1) (nI k) = _
        rw [L_X2_isMatched_3]
        simp (disch := omega) only [li0, li1, li2, li3, li4, li5, li6, li7, li8, li9, li10, li15, li31, li32, li40, li41, li49, li50, li99, li100, li999, c_le, c_lt, c_eq, c_tn, c_inb, c_add, hb, hc, hv, hf, c2, show ¬ 9 ≤ k by omega, show k < 10 by omega, if_true, if_false, ite_true, ite_false, ↓reduceIte, Nat.le_refl, Nat.lt_irrefl, Nat.reduceAdd, Nat.reduceLeDiff, Nat.reduceLT, Nat.reduceEqDiff, Bool.false_eq_true]
  · rw [ha]
    show L_X2_isMatched_3 h (nI f) (nI (alN x s)) (nI B) σ (m + 1) (nI 9) = _
    rw [L_X2_isMatched_3]
    simp (disch := omega) only [li0, li1, li2, li3, li4, li5, li6, li7, li8, li9, li10, li15, li31, li32, li40, li41, li49, li50, li99, li100, li999, c_le, c_lt, c_eq, c_tn, c_inb, c_add, if_true, if_false, ite_true, ite_false, ↓reduceIte, Nat.le_refl, Nat.lt_irrefl, Nat.reduceAdd, Nat.reduceLeDiff, Nat.reduceLT, Nat.reduceEqDiff, Bool.false_eq_true]
theorem andx_ok {m a : Nat} (hm : m < 512) (ha : a < 512) : nI m &&& (nI a ^^^ (-1 : Int32)) = nI (m &&& (511 ^^^ a)) := by
  apply Int32.toBitVec_inj.mp
  apply BitVec.eq_of_getLsbD_eq
  intro i hi
  have e1 : (nI m).toBitVec.getLsbD i = m.testBit i := by
    show (BitVec.ofNat 32 m).getLsbD i = _
    rw [BitVec.getLsbD_ofNat]
    simp [hi]
  have e2 : (nI a).toBitVec.getLsbD i = a.testBit i := by
    show (BitVec.ofNat 32 a).getLsbD i = _
    rw [BitVec.getLsbD_ofNat]
    simp [hi]
  have e3 : (nI (m &&& (511 ^^^ a))).toBitVec.getLsbD i = (m &&& (511 ^^^ a)).testBit i := by
    show (BitVec.ofNat 32 _).getLsbD i = _
    rw [BitVec.getLsbD_ofNat]
    simp [hi]
  have e4 : (-1 : Int32).toBitVec.getLsbD i = true := by
    have : (-1 : Int32).toBitVec = BitVec.allOnes 32 := by decide
    rw [this, BitVec.getLsbD_allOnes]
    simp [hi]
  rw [e3, Int32.toBitVec_and, Int32.toBitVec_xor, BitVec.getLsbD_and, BitVec.getLsbD_xor, e1, e2, e4, Nat.testBit_and, Nat.testBit_xor]
  by_cases h9 : i < 9
  · rw [tb_511 i h9]
    cases m.testBit i <;> cases a.testBit i <;> rfl
  · have : m.testBit i = false := Nat.testBit_lt_two_pow (Nat.lt_of_lt_of_le hm (Nat.pow_le_pow_right (n := 2) (by decide) (show 9 ≤ i by omega)))
    rw [this]
    rfl
theorem sub_iff {m a : Nat} (hm : m < 512) (ha : a < 512) : (nI m &&& (nI a ^^^ (-1 : Int32)) = nI 0) = (∀ h, h < 9 → m.testBit h = true → a.testBit h = true) := by
  have hlt : m &&& (511 ^^^ a) < 512 := Nat.lt_of_le_of_lt Nat.and_le_left hm
  rw [andx_ok hm ha, c_eq (by omega) (by omega)]
  apply propext
  constructor
  · intro e h hh ht
    have : (m &&& (511 ^^^ a)).testBit h = false := by rw [e]; simp
    rw [Nat.testBit_and, Nat.testBit_xor, ht, tb_511 h hh] at this
    cases hc : a.testBit h with
    | true => rfl
    | false => rw [hc] at this; cases this
  · intro hall
    apply Nat.eq_of_testBit_eq
    intro i
    rw [Nat.testBit_and, Nat.testBit_xor, Nat.zero_testBit]
    by_cases h9 : i < 9
    · rw [tb_511 i h9]
      cases hc : m.testBit i with
      | false => rfl
      | true => rw [hall i h9 hc]; rfl
    · have : m.testBit i = false := Nat.testBit_lt_two_pow (Nat.lt_of_lt_of_le hm (Nat.pow_le_pow_right (n := 2) (by decide) (show 9 ≤ i by omega)))
      rw [this]
      rfl
theorem falls_ok {h b f x s hf dm : Nat} {σ : Sg} {H : Hd} (hr : repC h σ H) (hH : okH H) (h1 : σ.1 b 9 = nI hf) (h2 : σ.1 b 10 = nI dm) (hhf : hf < 1000) (hdm : dm < 1000) (hfi : f < 5) (hx : x < 9) (hs : s < 32) : f_X2_falls h (nI f) (nI x) (nI s) b σ = some (b2i (fallsN H hf dm f x s)) := by
  obtain ⟨mk, m1, m2, m3⟩ := hr.2 f hfi
  have hal := al_ok x hx s hs
  have hbl := block_ok hr hH hfi hx hs
  have hbb := blk_bd (x := x) (s := s) (m := 9) hH hfi (by omega)
  have hmt := match_ok (B := blk H f x s 9) hr hH hfi hx hs (by omega)
  have hsub : (nI mk &&& (nI (alN x s) ^^^ -nI 1) = nI 0) = (allN (fun h => !H.2.2 f h || isw h x s) 9 = true) := by
    rw [show (nI mk &&& (nI (alN x s) ^^^ -nI 1) = nI 0) = _ from sub_iff m1 (al_lt x hx s hs)]
    apply propext
    rw [allN_iff]
    constructor
    · intro hh k hk
      have := hh k hk
      rw [m3 k hk, al_bit x hx s hs k hk] at this
      cases e : H.2.2 f k with
      | false => rfl
      | true => rw [this e]; rfl
    · intro hh k hk ht
      have := hh k hk
      rw [m3 k hk] at ht
      rw [al_bit x hx s hs k hk]
      rw [ht] at this
      simpa using this
  unfold f_X2_falls fallsN
  cases c1 : allN (fun h => !H.2.2 f h || isw h x s) 9 with
  | false =>
    simp (disch := omega) only [li0, li1, li2, li3, li4, li5, li6, li7, li8, li9, li10, li15, li31, li32, li40, li41, li49, li50, li99, li100, li999, c_le, c_lt, c_eq, c_tn, c_inb, c_add, hfi, m2, hal, hsub, c1, if_true, if_false, ite_true, ite_false, ↓reduceIte, Nat.le_refl, Nat.lt_irrefl, Nat.reduceAdd, Nat.reduceLeDiff, Nat.reduceLT, Nat.reduceEqDiff, Bool.false_eq_true]
    rfl
  | true =>
    by_cases c2 : hf < blk H f x s 9
    · simp (disch := omega) only [li0, li1, li2, li3, li4, li5, li6, li7, li8, li9, li10, li15, li31, li32, li40, li41, li49, li50, li99, li100, li999, c_le, c_lt, c_eq, c_tn, c_inb, c_add, hfi, m2, hal, hsub, c1, hbl, Option.bind_some, h1, show ¬ blk H f x s 9 ≤ hf by omega, c2, decide_true, if_true, if_false, ite_true, ite_false, ↓reduceIte, Nat.le_refl, Nat.lt_irrefl, Nat.reduceAdd, Nat.reduceLeDiff, Nat.reduceLT, Nat.reduceEqDiff, Bool.false_eq_true]
      rfl
    · by_cases c3 : dm ≤ blk H f x s 9
      · cases c4 : allN (fun h => isw h x s || decide (H.2.1 f h < blk H f x s 9)) 9 with
        | true =>
          rw [c4] at hmt
          simp (disch := omega) only [li0, li1, li2, li3, li4, li5, li6, li7, li8, li9, li10, li15, li31, li32, li40, li41, li49, li50, li99, li100, li999, c_le, c_lt, c_eq, c_tn, c_inb, c_add, hfi, m2, hal, hsub, c1, hbl, Option.bind_some, h1, h2, show blk H f x s 9 ≤ hf by omega, show ¬ blk H f x s 9 < dm by omega, c2, c3, decide_true, decide_false, hmt, if_true, if_false, ite_true, ite_false, ↓reduceIte, Nat.le_refl, Nat.lt_irrefl, Nat.reduceAdd, Nat.reduceLeDiff, Nat.reduceLT, Nat.reduceEqDiff, Bool.false_eq_true]
          rfl
        | false =>
          rw [c4] at hmt
          simp (disch := omega) only [li0, li1, li2, li3, li4, li5, li6, li7, li8, li9, li10, li15, li31, li32, li40, li41, li49, li50, li99, li100, li999, c_le, c_lt, c_eq, c_tn, c_inb, c_add, hfi, m2, hal, hsub, c1, hbl, Option.bind_some, h1, h2, show blk H f x s 9 ≤ hf by omega, show ¬ blk H f x s 9 < dm by omega, c2, c3, decide_true, decide_false, hmt, if_true, if_false, ite_true, ite_false, ↓reduceIte, Nat.le_refl, Nat.lt_irrefl, Nat.reduceAdd, Nat.reduceLeDiff, Nat.reduceLT, Nat.reduceEqDiff, Bool.false_eq_true]
          rfl
      · simp (disch := omega) only [li0, li1, li2, li3, li4, li5, li6, li7, li8, li9, li10, li15, li31, li32, li40, li41, li49, li50, li99, li100, li999, c_le, c_lt, c_eq, c_tn, c_inb, c_add, hfi, m2, hal, hsub, c1, hbl, Option.bind_some, h1, h2, show blk H f x s 9 ≤ hf by omega, show blk H f x s 9 < dm by omega, c2, c3, decide_false, if_true, if_false, ite_true, ite_false, ↓reduceIte, Nat.le_refl, Nat.lt_irrefl, Nat.reduceAdd, Nat.reduceLeDiff, Nat.reduceLT, Nat.reduceEqDiff, Bool.false_eq_true]
        rfl
/-! ### the same by the reference -/
theorem b2i_t : b2i true = nI 1 := rfl
theorem b2i_f : b2i false = nI 0 := rfl
theorem blockM_ok {f x s : Nat} {σ : Sg} {H : Hd} (hr : repM σ H) (hf : f < 5) (hx : x < 9) (hs : s < 32) : f_X7_block (nI x) (nI f) (nI s) σ = some (nI (blk H f x s 9)) := by
  have hrun := run_FU (fun m k => L_X7_block_6 (nI x) (nI f) (nI s) σ m (nI (blk H f x s k)) (nI k)) 9 (some (nI (blk H f x s 9), nI 9)) (by omega) (fun k hk m => by
    have hw := isw_ok k hk x hx s hs
    have hv := (hr f hf k (by omega)).2.1
    show L_X7_block_6 (nI x) (nI f) (nI s) σ (m + 1) _ (nI k) = _
    rw [L_X7_block_6]
    cases hc : isw k x s with
    | true =>
      rw [hc] at hw
      simp (disch := omega) only [li0, li1, li2, li3, li4, li5, li6, li7, li8, li9, li10, li15, li31, li32, li40, li41, li49, li50, li99, li100, li999, c_le, c_lt, c_eq, c_tn, c_inb, c_add, hw, b2i_t, hv, at_ok, show ¬ 9 ≤ k by omega, show 5 * k + f < 50 by omega, blk, Option.bind_some, hc, Nat.one_ne_zero, if_true, if_false, ite_true, ite_false, ↓reduceIte, Nat.le_refl, Nat.lt_irrefl, Nat.reduceAdd, Nat.reduceLeDiff, Nat.reduceLT, Nat.reduceEqDiff, Bool.false_eq_true]
    | false =>
      rw [hc] at hw
      simp (disch := omega) only [li0, li1, li2, li3, li4, li5, li6, li7, li8, li9, li10, li15, li31, li32, li40, li41, li49, li50, li99, li100, li999, c_le, c_lt, c_eq, c_tn, c_inb, c_add, hw, b2i_f, show ¬ 9 ≤ k by omega, blk, Option.bind_some, hc, Nat.add_zero, if_true, if_false, ite_true, ite_false, ↓reduceIte, Nat.le_refl, Nat.lt_irrefl, Nat.reduceAdd, Nat.reduceLeDiff, Nat.reduceLT, Nat.reduceEqDiff, Bool.false_eq_true]) (fun m => by
    show L_X7_block_6 (nI x) (nI f) (nI s) σ (m + 1) _ (nI 9) = _
    rw [L_X7_block_6]
    simp (disch := omega) only [li0, li1, li2, li3, li4, li5, li6, li7, li8, li9, li10, li15, li31, li32, li40, li41, li49, li50, li99, li100, li999, c_le, c_lt, c_eq, c_tn, c_inb, c_add, if_true, if_false, ite_true, ite_false, ↓reduceIte, Nat.le_refl, Nat.lt_irrefl, Nat.reduceAdd, Nat.reduceLeDiff, Nat.reduceLT, Nat.reduceEqDiff, Bool.false_eq_true])
  unfold f_X7_block
  rw [show L_X7_block_6 (nI x) (nI f) (nI s) σ FU 0 0 = _ from hrun]
  rfl
theorem fallsM_in {f x s B : Nat} {σ : Sg} {H : Hd} {l0 : Bool} (hr : repM σ H) (hH : okH H) (hf : f < 5) (hx : x < 9) (hs : s < 32) (hB : B < 1000) : L_X7_falls_33 (nI x) (nI f) (nI s) (nI B) σ FU (b2i l0) 1 0 = some (b2i (l0 && allN (fun h => isw h x s || decide (H.2.1 f h < B)) 9), b2i (allN (fun h => !H.2.2 f h || isw h x s) 9), nI 9) := by
  have hrun := run_FU (fun m k => L_X7_falls_33 (nI x) (nI f) (nI s) (nI B) σ m (b2i (l0 && allN (fun h => isw h x s || decide (H.2.1 f h < B)) k)) (b2i (allN (fun h => !H.2.2 f h || isw h x s) k)) (nI k)) 9 (some (b2i (l0 && allN (fun h => isw h x s || decide (H.2.1 f h < B)) 9), b2i (allN (fun h => !H.2.2 f h || isw h x s) 9), nI 9)) (by omega) (fun k hk m => by
    have hw := isw_ok k hk x hx s hs
    have hv := hr f hf k (by omega)
    have hvb := hH.vo hf (show k < 10 by omega)
    show L_X7_falls_33 (nI x) (nI f) (nI s) (nI B) σ (m + 1) _ _ (nI k) = _
    rw [L_X7_falls_33]
    have hL1 : (l0 && allN (fun h => isw h x s || decide (H.2.1 f h < B)) (k + 1)) = ((l0 && allN (fun h => isw h x s || decide (H.2.1 f h < B)) k) && (isw k x s || decide (H.2.1 f k < B))) := by simp only [allN, Bool.and_assoc]
    have hF1 : allN (fun h => !H.2.2 f h || isw h x s) (k + 1) = (allN (fun h => !H.2.2 f h || isw h x s) k && (!H.2.2 f k || isw k x s)) := rfl
    rw [hL1, hF1]
    generalize (l0 && allN (fun h => isw h x s || decide (H.2.1 f h < B)) k) = L
    generalize allN (fun h => !H.2.2 f h || isw h x s) k = F
    cases hc : isw k x s with
    | true =>
      rw [hc] at hw
      simp (disch := omega) only [li0, li1, li2, li3, li4, li5, li6, li7, li8, li9, li10, li15, li31, li32, li40, li41, li49, li50, li99, li100, li999, c_le, c_lt, c_eq, c_tn, c_inb, c_add, hw, b2i_t, show ¬ 9 ≤ k by omega, Nat.one_ne_zero, Bool.true_or, Bool.or_true, Bool.and_true, if_true, if_false, ite_true, ite_false, ↓reduceIte, Nat.le_refl, Nat.lt_irrefl, Nat.reduceAdd, Nat.reduceLeDiff, Nat.reduceLT, Nat.reduceEqDiff, Bool.false_eq_true]
    | false =>
      rw [hc] at hw
      cases L <;> cases F <;> cases hz : H.2.2 f k <;> by_cases c2 : H.2.1 f k < B <;>
        (rw [hz] at hv; simp (disch := omega) only [li0, li1, li2, li3, li4, li5, li6, li7, li8, li9, li10, li15, li31, li32, li40, li41, li49, li50, li99, li100, li999, c_le, c_lt, c_eq, c_tn, c_inb, c_add, hw, b2i_t, b2i_f, at_ok, show ¬ 9 ≤ k by omega, show 5 * k + f < 50 by omega, hv.2.1, hv.2.2, Nat.one_ne_zero, Option.bind_some, c2, show (B ≤ H.2.1 f k) = ¬ (H.2.1 f k < B) by simp, decide_true, decide_false, Bool.true_or, Bool.or_true, Bool.and_true, Bool.and_false, Bool.not_true, Bool.not_false, Bool.or_false, Bool.true_and, Bool.false_and, not_true_eq_false, not_false_eq_true, if_true, if_false, ite_true, ite_false, ↓reduceIte, Nat.le_refl, Nat.lt_irrefl, Nat.reduceAdd, Nat.reduceLeDiff, Nat.reduceLT, Nat.reduceEqDiff, Bool.false_eq_true])) (fun m => by
    show L_X7_falls_33 (nI x) (nI f) (nI s) (nI B) σ (m + 1) _ _ (nI 9) = _
    rw [L_X7_falls_33]
    simp (disch := omega) only [li0, li1, li2, li3, li4, li5, li6, li7, li8, li9, li10, li15, li31, li32, li40, li41, li49, li50, li99, li100, li999, c_le, c_lt, c_eq, c_tn, c_inb, c_add, if_true, if_false, ite_true, ite_false, ↓reduceIte, Nat.le_refl, Nat.lt_irrefl, Nat.reduceAdd, Nat.reduceLeDiff, Nat.reduceLT, Nat.reduceEqDiff, Bool.false_eq_true])
  have e0 : (l0 && allN (fun h => isw h x s || decide (H.2.1 f h < B)) 0) = l0 := Bool.and_true l0
  simp only [e0] at hrun
  exact hrun
theorem fallsM_ok {f x s hf dm : Nat} {σ : Sg} {H : Hd} (hr : repM σ H) (hH : okH H) (h1 : σ.1 139 0 = nI hf) (h2 : σ.1 139 1 = nI dm) (hhf : hf < 1000) (hdm : dm < 1000) (hfi : f < 5) (hx : x < 9) (hs : s < 32) : f_X7_falls (nI x) (nI f) (nI s) σ = some (b2i (fallsN H hf dm f x s)) := by
  have hbl := blockM_ok hr hfi hx hs
  have hbb := blk_bd (x := x) (s := s) (m := 9) hH hfi (by omega)
  have hin := fun l0 => fallsM_in (l0 := l0) (B := blk H f x s 9) hr hH hfi hx hs (by omega)
  unfold f_X7_falls fallsN
  have hl : ∀ c : Prop, [Decidable c] → (if c then (0 : Int32) else 1) = b2i (decide (¬ c)) := by
    intro c _
    by_cases h : c <;> simp [h, b2i]
  rw [hbl]
  simp only [Option.bind_some, hl, jn]
  rw [show ((1 : Int32).toNatClampNeg) = 1 from rfl, show ((0 : Int32).toNatClampNeg) = 0 from rfl, h1, h2, hin]
  cases c1 : allN (fun h => !H.2.2 f h || isw h x s) 9 with
  | false => simp (disch := omega) only [li0, li1, li2, li3, li4, li5, li6, li7, li8, li9, li10, li15, li31, li32, li40, li41, li49, li50, li99, li100, li999, c_le, c_lt, c_eq, c_tn, c_inb, c_add, Option.bind_some, b2i_f, b2i_t, Bool.false_and, if_true, if_false, ite_true, ite_false, ↓reduceIte, Nat.le_refl, Nat.lt_irrefl, Nat.reduceAdd, Nat.reduceLeDiff, Nat.reduceLT, Nat.reduceEqDiff, Bool.false_eq_true]
  | true =>
    by_cases c2 : hf < blk H f x s 9
    · simp (disch := omega) only [li0, li1, li2, li3, li4, li5, li6, li7, li8, li9, li10, li15, li31, li32, li40, li41, li49, li50, li99, li100, li999, c_le, c_lt, c_eq, c_tn, c_inb, c_add, Option.bind_some, b2i_f, b2i_t, Bool.true_and, c2, decide_true, Bool.true_or, Nat.one_ne_zero, if_true, if_false, ite_true, ite_false, ↓reduceIte, Nat.le_refl, Nat.lt_irrefl, Nat.reduceAdd, Nat.reduceLeDiff, Nat.reduceLT, Nat.reduceEqDiff, Bool.false_eq_true]
    · by_cases c3 : dm ≤ blk H f x s 9
      · cases c4 : allN (fun h => isw h x s || decide (H.2.1 f h < blk H f x s 9)) 9 <;>
          simp (disch := omega) only [li0, li1, li2, li3, li4, li5, li6, li7, li8, li9, li10, li15, li31, li32, li40, li41, li49, li50, li99, li100, li999, c_le, c_lt, c_eq, c_tn, c_inb, c_add, Option.bind_some, b2i_f, b2i_t, Bool.true_and, Bool.and_true, Bool.and_false, Bool.false_or, c2, c3, show ¬ blk H f x s 9 < dm by omega, decide_true, decide_false, Nat.one_ne_zero, not_false_eq_true, if_true, if_false, ite_true, ite_false, ↓reduceIte, Nat.le_refl, Nat.lt_irrefl, Nat.reduceAdd, Nat.reduceLeDiff, Nat.reduceLT, Nat.reduceEqDiff, Bool.false_eq_true]
      · simp (disch := omega) only [li0, li1, li2, li3, li4, li5, li6, li7, li8, li9, li10, li15, li31, li32, li40, li41, li49, li50, li99, li100, li999, c_le, c_lt, c_eq, c_tn, c_inb, c_add, Option.bind_some, b2i_f, b2i_t, Bool.true_and, Bool.false_and, Bool.or_false, c2, c3, show blk H f x s 9 < dm by omega, decide_true, decide_false, Nat.one_ne_zero, not_true_eq_false, if_true, if_false, ite_true, ite_false, ↓reduceIte, Nat.le_refl, Nat.lt_irrefl, Nat.reduceAdd, Nat.reduceLeDiff, Nat.reduceLT, Nat.reduceEqDiff, Bool.false_eq_true]
