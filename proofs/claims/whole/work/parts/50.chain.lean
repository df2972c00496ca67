/-! WITNESS by the reference; CHAINS -/
/-- the reference's rows of the holder that was looked at last -/
def rowM (σ : Sg) (H : Hd) (hf dm x : Nat) : Prop := ∀ f, f < 5 → σ.1 144 f = rd H hf dm x f 5
theorem witM_5 {x f hf dm : Nat} {σ : Sg} {H : Hd} {y : Int32} (hfi : f < 5) (hr : rowM σ H hf dm x) (h0 : rdN H hf dm x f 5 ≠ 0) : L_X7_witness_5 y (nI f) σ FU 0 0 = some (nI (bfo H hf dm x f), nI 5) := by
  have h5 := rdN_le (H := H) (hf := hf) (dm := dm) (x := x) f 5
  have hrf := hr f hfi
  rw [rd_eq, if_neg h0] at hrf
  have hrun := run_FU (fun m k => L_X7_witness_5 y (nI f) σ m (nI (bfN (bfP H hf dm x f) k)) (nI k)) 5 (some (nI (bfN (bfP H hf dm x f) 5), nI 5)) (by omega) (fun k hk m => by
    have hrd := hr k hk
    rw [rd_eq] at hrd
    have hk5 := rdN_le (H := H) (hf := hf) (dm := dm) (x := x) k 5
    have hor : nI (bfN (bfP H hf dm x f) k) ||| (nI 1 <<< (nI k &&& nI 31)) = nI (bfN (bfP H hf dm x f) k ||| (1 <<< k)) := or_ok _ (Nat.lt_of_lt_of_le (bfN_lt _ k (by omega)) (by decide : 32 ≤ 512)) k (by omega)
    have hor0 : nI (bfN (bfP H hf dm x f) k) ||| nI 0 = nI (bfN (bfP H hf dm x f) k) := by
      have := oror_ok _ (bfN_lt (bfP H hf dm x f) k (by omega)) 0 (by decide)
      rw [Nat.or_zero] at this
      exact this
    show L_X7_witness_5 y (nI f) σ (m + 1) _ (nI k) = _
    rw [L_X7_witness_5]
    by_cases c1 : rdN H hf dm x k 5 = 0
    · have : bfP H hf dm x f k = false := by simp [bfP, c1]
      rw [if_pos c1] at hrd
      have hz : (-6 : Int32) ≤ nI 0 := neg6_le0
      rw [hrd.symm] at hz
      simp (disch := omega) only [li0, li1, li2, li3, li4, li5, li6, li7, li8, li9, li10, li15, li31, li32, li40, li41, li49, li50, li99, li100, li999, c_le, c_lt, c_eq, c_tn, c_inb, c_add, hk, hz, show ¬ 5 ≤ k by omega, bfN, this, Nat.or_zero, Option.bind_some, hor0, if_true, if_false, ite_true, ite_false, ↓reduceIte, Nat.le_refl, Nat.lt_irrefl, Nat.reduceAdd, Nat.reduceLeDiff, Nat.reduceLT, Nat.reduceEqDiff, Bool.false_eq_true]
    · rw [if_neg c1] at hrd
      by_cases c2 : rdN H hf dm x f 5 ≤ rdN H hf dm x k 5
      · have : bfP H hf dm x f k = false := by simp [bfP]; omega
        simp (disch := omega) only [li0, li1, li2, li3, li4, li5, li6, li7, li8, li9, li10, li15, li31, li32, li40, li41, li49, li50, li99, li100, li999, c_le, c_lt, c_eq, c_tn, c_inb, c_add, hk, hfi, hrd, hrf, c2, show ¬ rdN H hf dm x k 5 ≤ 0 by omega, show ¬ 5 ≤ k by omega, bfN, this, Nat.or_zero, Option.bind_some, hor0, if_true, if_false, ite_true, ite_false, ↓reduceIte, Nat.le_refl, Nat.lt_irrefl, Nat.reduceAdd, Nat.reduceLeDiff, Nat.reduceLT, Nat.reduceEqDiff, Bool.false_eq_true]
      · have : bfP H hf dm x f k = true := by simp [bfP]; omega
        simp (disch := omega) only [li0, li1, li2, li3, li4, li5, li6, li7, li8, li9, li10, li15, li31, li32, li40, li41, li49, li50, li99, li100, li999, c_le, c_lt, c_eq, c_tn, c_inb, c_add, hk, hfi, hrd, hrf, c2, show ¬ rdN H hf dm x k 5 ≤ 0 by omega, show ¬ 5 ≤ k by omega, bfN, this, Option.bind_some, hor, if_true, if_false, ite_true, ite_false, ↓reduceIte, Nat.le_refl, Nat.lt_irrefl, Nat.reduceAdd, Nat.reduceLeDiff, Nat.reduceLT, Nat.reduceEqDiff, Bool.false_eq_true]) (fun m => by
    show L_X7_witness_5 y (nI f) σ (m + 1) _ (nI 5) = _
    rw [L_X7_witness_5]
    simp (disch := omega) only [li0, li1, li2, li3, li4, li5, li6, li7, li8, li9, li10, li15, li31, li32, li40, li41, li49, li50, li99, li100, li999, c_le, c_lt, c_eq, c_tn, c_inb, c_add, if_true, if_false, ite_true, ite_false, ↓reduceIte, Nat.le_refl, Nat.lt_irrefl, Nat.reduceAdd, Nat.reduceLeDiff, Nat.reduceLT, Nat.reduceEqDiff, Bool.false_eq_true])
  rw [bf_eq h0] at hrun
  exact hrun
def o6 (o : Option Nat) : Int32 := match o with
  | none => -6
  | some b => nI b
theorem witM_ok {x f hf dm : Nat} {σ : Sg} {H : Hd} (hx : x < 9) (hfi : f < 5) (hr : rowM σ H hf dm x) (hR : repR σ H hf dm) (hH : okH H) (hhf : hf < 1000) (hdm : dm < 1000) (h0 : rdN H hf dm x f 5 ≠ 0) : f_X7_witness (nI x) (nI f) σ = some (nI (wit H hf dm x f)) := by
  have hb := bfo_lt H hf dm x f
  have hrun := run_FU (fun m k => L_X7_witness_61 (nI x) (nI f) (nI (bfo H hf dm x f)) σ m (o6 (wN (fun s => fallsN H hf dm f x s) (bfo H hf dm x f) k)) (nI k)) 32 (some (nI (wit H hf dm x f), nI 32)) (by omega) (fun k hk m => by
    have hfa := fallsM_ok hR.1 hH hR.2.1 hR.2.2 hhf hdm hfi hx hk
    have hsub := subM_ok k _ hk hb
    have hpk := popc_le k hk
    show L_X7_witness_61 (nI x) (nI f) (nI (bfo H hf dm x f)) σ (m + 1) _ (nI k) = _
    rw [L_X7_witness_61]
    by_cases d1 : k &&& bfo H hf dm x f = k
    · rcases Bool.eq_false_or_eq_true (fallsN H hf dm f x k) with hz | hz
      · rw [hz] at hfa
        cases e : wN (fun s => fallsN H hf dm f x s) (bfo H hf dm x f) k with
        | none =>
          have z : (-6 : Int32) < nI 0 := neg6_lt0
          have e2 : wN (fun s => fallsN H hf dm f x s) (bfo H hf dm x f) (k + 1) = some k := by simp only [wN, e, d1, hz, and_self, if_true]
          rw [e2]
          have : o6 none < nI 0 := z
          simp (disch := omega) only [li0, li1, li2, li3, li4, li5, li6, li7, li8, li9, li10, li15, li31, li32, li40, li41, li49, li50, li99, li100, li999, c_le, c_lt, c_eq, c_tn, c_inb, c_add, hsub, d1, hfa, b2i_t, Nat.one_ne_zero, Option.bind_some, this, show ¬ 32 ≤ k by omega, if_true, if_false, ite_true, ite_false, ↓reduceIte, Nat.le_refl, Nat.lt_irrefl, Nat.reduceAdd, Nat.reduceLeDiff, Nat.reduceLT, Nat.reduceEqDiff, Bool.false_eq_true]
          rfl
        | some w =>
          have hs := wN_some e
          have hpw := popc_le w (by omega)
          have mk := many_ok k hk σ
          have mw := many_ok w (by omega) σ
          by_cases d2 : popc k < popc w
          · have e2 : wN (fun s => fallsN H hf dm f x s) (bfo H hf dm x f) (k + 1) = some k := by simp only [wN, e, d1, hz, d2, and_self, if_true]
            rw [e2]
            simp (disch := omega) only [li0, li1, li2, li3, li4, li5, li6, li7, li8, li9, li10, li15, li31, li32, li40, li41, li49, li50, li99, li100, li999, c_le, c_lt, c_eq, c_tn, c_inb, c_add, o6, hsub, d1, hfa, b2i_t, Nat.one_ne_zero, Option.bind_some, show ¬ w < 0 by omega, mk, mw, show ¬ popc w ≤ popc k by omega, show ¬ 32 ≤ k by omega, if_true, if_false, ite_true, ite_false, ↓reduceIte, Nat.le_refl, Nat.lt_irrefl, Nat.reduceAdd, Nat.reduceLeDiff, Nat.reduceLT, Nat.reduceEqDiff, Bool.false_eq_true]
          · have e2 : wN (fun s => fallsN H hf dm f x s) (bfo H hf dm x f) (k + 1) = some w := by simp only [wN, e, d2, and_false, if_false]
            rw [e2]
            simp (disch := omega) only [li0, li1, li2, li3, li4, li5, li6, li7, li8, li9, li10, li15, li31, li32, li40, li41, li49, li50, li99, li100, li999, c_le, c_lt, c_eq, c_tn, c_inb, c_add, o6, hsub, d1, hfa, b2i_t, Nat.one_ne_zero, Option.bind_some, show ¬ w < 0 by omega, mk, mw, show popc w ≤ popc k by omega, show ¬ 32 ≤ k by omega, if_true, if_false, ite_true, ite_false, ↓reduceIte, Nat.le_refl, Nat.lt_irrefl, Nat.reduceAdd, Nat.reduceLeDiff, Nat.reduceLT, Nat.reduceEqDiff, Bool.false_eq_true]
      · rw [hz] at hfa
        have e2 : wN (fun s => fallsN H hf dm f x s) (bfo H hf dm x f) (k + 1) = wN (fun s => fallsN H hf dm f x s) (bfo H hf dm x f) k := by
          simp only [wN, hz, Bool.false_eq_true, and_false, false_and, if_false]
          cases wN (fun s => fallsN H hf dm f x s) (bfo H hf dm x f) k <;> rfl
        rw [e2]
        simp (disch := omega) only [li0, li1, li2, li3, li4, li5, li6, li7, li8, li9, li10, li15, li31, li32, li40, li41, li49, li50, li99, li100, li999, c_le, c_lt, c_eq, c_tn, c_inb, c_add, hsub, d1, hfa, b2i_f, Option.bind_some, show ¬ 32 ≤ k by omega, if_true, if_false, ite_true, ite_false, ↓reduceIte, Nat.le_refl, Nat.lt_irrefl, Nat.reduceAdd, Nat.reduceLeDiff, Nat.reduceLT, Nat.reduceEqDiff, Bool.false_eq_true]
    · have e2 : wN (fun s => fallsN H hf dm f x s) (bfo H hf dm x f) (k + 1) = wN (fun s => fallsN H hf dm f x s) (bfo H hf dm x f) k := by
        simp only [wN, d1, false_and, if_false]
        cases wN (fun s => fallsN H hf dm f x s) (bfo H hf dm x f) k <;> rfl
      rw [e2]
      simp (disch := omega) only [li0, li1, li2, li3, li4, li5, li6, li7, li8, li9, li10, li15, li31, li32, li40, li41, li49, li50, li99, li100, li999, c_le, c_lt, c_eq, c_tn, c_inb, c_add, hsub, d1, show ¬ 32 ≤ k by omega, if_true, if_false, ite_true, ite_false, ↓reduceIte, Nat.le_refl, Nat.lt_irrefl, Nat.reduceAdd, Nat.reduceLeDiff, Nat.reduceLT, Nat.reduceEqDiff, Bool.false_eq_true]) (fun m => by
    show L_X7_witness_61 (nI x) (nI f) (nI (bfo H hf dm x f)) σ (m + 1) _ (nI 32) = _
    rw [L_X7_witness_61, wN_bf hb (bfo_falls hfi h0)]
    simp (disch := omega) only [li0, li1, li2, li3, li4, li5, li6, li7, li8, li9, li10, li15, li31, li32, li40, li41, li49, li50, li99, li100, li999, c_le, c_lt, c_eq, c_tn, c_inb, c_add, if_true, if_false, ite_true, ite_false, ↓reduceIte, Nat.le_refl, Nat.lt_irrefl, Nat.reduceAdd, Nat.reduceLeDiff, Nat.reduceLT, Nat.reduceEqDiff, Bool.false_eq_true]
    rfl)
  unfold f_X7_witness
  rw [witM_5 hfi hr h0, Option.bind_some]
  rw [show L_X7_witness_61 (nI x) (nI f) (nI (bfo H hf dm x f)) σ FU (-6) 0 = _ from hrun]
  rfl
/-! ### closures -/
def sb (a b : Nat) : Prop := ∀ j, j < 5 → a.testBit j = true → b.testBit j = true
theorem sb_iff : ∀ a, a < 32 → ∀ b, b < 32 → a &&& b = a → sb a b := by
  intro a _ b _ e j _ hj
  rw [← e, Nat.testBit_and] at hj
  simp only [Bool.and_eq_true] at hj
  exact hj.2
theorem sb_and {a b : Nat} (ha : a < 32) (h : sb a b) : a &&& b = a := by
  refine eq5 (Nat.lt_of_le_of_lt Nat.and_le_left ha) ha (fun j hj => ?_)
  rw [Nat.testBit_and]
  cases e : a.testBit j with
  | false => rfl
  | true => rw [h j hj e]; rfl
theorem sb_or {a b c : Nat} (h1 : sb a c) (h2 : sb b c) : sb (a ||| b) c := by
  intro j hj h
  rw [Nat.testBit_or] at h
  simp only [Bool.or_eq_true] at h
  exact h.elim (h1 j hj) (h2 j hj)
theorem sb_l (a b : Nat) : sb a (a ||| b) := fun j _ h => by rw [Nat.testBit_or, h]; rfl
theorem sb_r (a b : Nat) : sb b (a ||| b) := fun j _ h => by rw [Nat.testBit_or, h, Bool.or_true]
theorem sb_tr {a b c : Nat} (h1 : sb a b) (h2 : sb b c) : sb a c := fun j hj h => h2 j hj (h1 j hj h)
theorem sb_rf (a : Nat) : sb a a := fun _ _ h => h
theorem sb_0 (c : Nat) : sb 0 c := fun j _ h => by simp at h
theorem sb_eq {a b : Nat} (ha : a < 32) (hb : b < 32) (h1 : sb a b) (h2 : sb b a) : a = b := eq5 ha hb (fun j hj => by
  cases e : a.testBit j with
  | true => rw [h1 j hj e]
  | false =>
    cases e2 : b.testBit j with
    | false => rfl
    | true => rw [h2 j hj e2] at e; cases e)
def clo (w : Nat → Nat) (C : Nat) : Prop := ∀ g, g < 5 → C.testBit g = true → sb (w g) C
/-- one pass over the firms: what those that a test takes bring along -/
def pas (w : Nat → Nat) (p : Nat → Bool) (s : Nat) : Nat → Nat
  | 0 => s
  | k + 1 => pas w p s k ||| (if (pas w p s k).testBit k && p k then w k else 0)
theorem pas_lt {w : Nat → Nat} (hw : ∀ g, w g < 32) {p : Nat → Bool} {s : Nat} (hs : s < 32) : ∀ k, pas w p s k < 32
  | 0 => hs
  | k + 1 => by
    simp only [pas]
    refine or_lt5 _ (pas_lt hw hs k) _ ?_
    split
    · exact hw k
    · decide
theorem pas_ge (w : Nat → Nat) (p : Nat → Bool) (s : Nat) : ∀ k, sb s (pas w p s k)
  | 0 => sb_rf s
  | k + 1 => sb_tr (pas_ge w p s k) (sb_l _ _)
theorem pas_ge2 (w : Nat → Nat) (p : Nat → Bool) (s k : Nat) : ∀ j, sb (pas w p s k) (pas w p s (k + j))
  | 0 => sb_rf _
  | j + 1 => sb_tr (pas_ge2 w p s k j) (sb_l _ _)
theorem pas_in {w : Nat → Nat} {p : Nat → Bool} {s C : Nat} (h : sb s C) (hc : clo w C) : ∀ k, k ≤ 5 → sb (pas w p s k) C
  | 0, _ => h
  | k + 1, hk => by
    have i := pas_in (p := p) h hc k (by omega)
    simp only [pas]
    refine sb_or i ?_
    split
    · rename_i c
      simp only [Bool.and_eq_true] at c
      exact hc k (by omega) (i k (by omega) c.1)
    · exact sb_0 C
theorem pas_has {w : Nat → Nat} {p : Nat → Bool} {s g : Nat} (hg : g < 5) (h : s.testBit g = true) (hp : p g = true) : sb (w g) (pas w p s 5) := by
  have h1 := pas_ge w p s g g hg h
  have h2 : sb (w g) (pas w p s (g + 1)) := by
    simp only [pas, h1, hp, Bool.and_self, if_true]
    exact sb_r _ _
  have h3 := pas_ge2 w p s (g + 1) (4 - g)
  rw [show g + 1 + (4 - g) = 5 by omega] at h3
  exact sb_tr h2 h3
/-- the reference's chain: five passes -/
def chR (w : Nat → Nat) (s : Nat) : Nat → Nat
  | 0 => s
  | i + 1 => pas w (fun _ => true) (chR w s i) 5
theorem chR_lt {w : Nat → Nat} (hw : ∀ g, w g < 32) {s : Nat} (hs : s < 32) : ∀ i, chR w s i < 32
  | 0 => hs
  | i + 1 => pas_lt hw (chR_lt hw hs i) 5
theorem chR_ge (w : Nat → Nat) (s : Nat) : ∀ i, sb s (chR w s i)
  | 0 => sb_rf s
  | i + 1 => sb_tr (chR_ge w s i) (pas_ge _ _ _ 5)
theorem chR_in {w : Nat → Nat} {s C : Nat} (h : sb s C) (hc : clo w C) : ∀ i, sb (chR w s i) C
  | 0 => h
  | i + 1 => pas_in (chR_in h hc i) hc 5 (by omega)
theorem chR_fix {w : Nat → Nat} {s : Nat} (i : Nat) (h : chR w s (i + 1) = chR w s i) : ∀ j, chR w s (i + j) = chR w s i
  | 0 => rfl
  | j + 1 => by
    show pas w (fun _ => true) (chR w s (i + j)) 5 = _
    rw [chR_fix i h j]
    exact h
theorem chR_pop {w : Nat → Nat} (hw : ∀ g, w g < 32) {s : Nat} (hs : s < 32) : ∀ i, (∀ k, k < i → chR w s (k + 1) ≠ chR w s k) → i ≤ popc (chR w s i)
  | 0, _ => Nat.zero_le _
  | i + 1, h => by
    have i1 := chR_pop hw hs i (fun k hk => h k (by omega))
    have h1 := sb_and (chR_lt hw hs i) (pas_ge w (fun _ => true) (chR w s i) 5)
    have h2 := popc_sub _ (chR_lt hw hs i) _ (chR_lt hw hs (i + 1)) h1 (fun q => h i (by omega) q.symm)
    omega
theorem chR_clo {w : Nat → Nat} (hw : ∀ g, w g < 32) {s : Nat} (hs : s < 32) : clo w (chR w s 5) := by
  have fix : chR w s 6 = chR w s 5 := by
    by_cases hall : ∀ k, k < 6 → chR w s (k + 1) ≠ chR w s k
    · have h1 := chR_pop hw hs 6 hall
      have h2 := popc_le _ (chR_lt hw hs 6)
      omega
    · obtain ⟨k, hk⟩ : ∃ k, k < 6 ∧ chR w s (k + 1) = chR w s k := by
        apply Classical.byContradiction
        intro q
        exact hall (fun k h1 h2 => q ⟨k, h1, h2⟩)
      have h5 := chR_fix k hk.2 (5 - k)
      have h6 := chR_fix k hk.2 (6 - k)
      rw [show k + (5 - k) = 5 by omega] at h5
      rw [show k + (6 - k) = 6 by omega] at h6
      rw [h5, h6]
  intro g hg hb
  have := pas_has (w := w) (p := fun _ => true) hg hb rfl
  rw [show pas w (fun _ => true) (chR w s 5) 5 = chR w s 6 from rfl, fix] at this
  exact this
/-- the component's chain: a pass for each round, from the last one down -/
def chC (w rn : Nat → Nat) (s : Nat) : Nat → Nat → Nat
  | 0, _ => s
  | i + 1, r => pas w (fun g => decide (rn g = r - i)) (chC w rn s i r) 5
theorem chC_lt {w rn : Nat → Nat} (hw : ∀ g, w g < 32) {s r : Nat} (hs : s < 32) : ∀ i, chC w rn s i r < 32
  | 0 => hs
  | i + 1 => pas_lt hw (chC_lt hw hs i) 5
theorem chC_ge (w rn : Nat → Nat) (s r : Nat) : ∀ i, sb s (chC w rn s i r)
  | 0 => sb_rf s
  | i + 1 => sb_tr (chC_ge w rn s r i) (pas_ge _ _ _ 5)
theorem chC_in {w rn : Nat → Nat} {s r C : Nat} (h : sb s C) (hc : clo w C) : ∀ i, sb (chC w rn s i r) C
  | 0 => h
  | i + 1 => pas_in (chC_in h hc i) hc 5 (by omega)
/-- what a pass of a round adds is of earlier rounds -/
theorem pas_new {w rn : Nat → Nat} {ρ s : Nat} (hdec : ∀ g, g < 5 → ∀ e, e < 5 → rn g ≠ 0 → (w g).testBit e = true → rn e < rn g ∧ rn e ≠ 0) (h0 : ∀ g, g < 5 → s.testBit g = true → rn g ≠ 0) : ∀ k, k ≤ 5 → ∀ e, e < 5 → (pas w (fun g => decide (rn g = ρ)) s k).testBit e = true → s.testBit e = true ∨ (rn e < ρ ∧ rn e ≠ 0)
  | 0, _, e, _, h => Or.inl h
  | k + 1, hk, e, he, h => by
    simp only [pas, Nat.testBit_or, Bool.or_eq_true] at h
    rcases h with h | h
    · exact pas_new hdec h0 k (by omega) e he h
    · split at h
      · rename_i c
        simp only [Bool.and_eq_true, decide_eq_true_eq] at c
        have hk0 : rn k ≠ 0 := by
          rcases pas_new hdec h0 k (by omega) k (by omega) c.1 with q | q
          · exact h0 k (by omega) q
          · exact q.2
        have := hdec k (by omega) e he hk0 h
        rw [c.2] at this
        exact Or.inr this
      · simp at h
theorem chC_clo {w rn : Nat → Nat} (hdec : ∀ g, g < 5 → ∀ e, e < 5 → rn g ≠ 0 → (w g).testBit e = true → rn e < rn g ∧ rn e ≠ 0) {s r : Nat} (hs : ∀ g, g < 5 → s.testBit g = true → rn g ≠ 0 ∧ rn g ≤ r) : ∀ i, i ≤ r → (∀ g, g < 5 → (chC w rn s i r).testBit g = true → rn g ≠ 0 ∧ rn g ≤ r) ∧ ∀ g, g < 5 → (chC w rn s i r).testBit g = true → r - i < rn g → sb (w g) (chC w rn s i r)
  | 0, _ => ⟨hs, fun g hg h hr => absurd (hs g hg h).2 (by omega)⟩
  | i + 1, hi => by
    obtain ⟨i1, i2⟩ := chC_clo hdec hs i (by omega)
    have nw1 := pas_new (ρ := r - i) hdec (fun g hg h => (i1 g hg h).1) 5 (Nat.le_refl 5)
    refine ⟨fun g hg h => ?_, fun g hg h hr => ?_⟩
    · rcases nw1 g hg h with q | q
      · exact i1 g hg q
      · exact ⟨q.2, by omega⟩
    · rcases nw1 g hg h with q | q
      · by_cases c : rn g = r - i
        · exact pas_has hg q (by simp [c])
        · exact sb_tr (i2 g hg q (by omega)) (pas_ge _ _ _ 5)
      · omega
theorem ch_eq {w rn : Nat → Nat} (hw : ∀ g, w g < 32) (hdec : ∀ g, g < 5 → ∀ e, e < 5 → rn g ≠ 0 → (w g).testBit e = true → rn e < rn g ∧ rn e ≠ 0) {s r : Nat} (hs0 : s < 32) (hs : ∀ g, g < 5 → s.testBit g = true → rn g ≠ 0 ∧ rn g ≤ r) : chC w rn s r r = chR w s 5 := by
  have c1 : clo w (chC w rn s r r) := fun g hg h => (chC_clo hdec hs r (Nat.le_refl r)).2 g hg h (by have := ((chC_clo hdec hs r (Nat.le_refl r)).1 g hg h).1; omega)
  have c2 := chR_clo hw hs0
  exact sb_eq (chC_lt hw hs0 r) (chR_lt hw hs0 5) (chC_in (chR_ge w s 5) c2 r) (chR_in (chC_ge w rn s r r) c1 5)
