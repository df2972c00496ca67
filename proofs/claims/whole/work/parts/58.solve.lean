/-! THE COMPONENT'S ELIMINATION, number by number -/
def ddN (p : Nat) : (Nat → Nat → Int) → Int := match p with
  | 0 => dd0
  | 1 => dd1
  | 2 => dd2
  | 3 => dd3
  | 4 => dd4
  | _ => dd5
abbrev col (A : Nat → Nat → Int) (j : Nat) : Nat → Int := fun i => A i j
def VV (A : Nat → Nat → Int) (p i : Nat) (c : Nat → Int) : Int := if i < p then ddN p (rep A i c) else ddN p A * c i - sumI (fun k => A i k * ddN p (rep A k c)) p
theorem V_step {A : Nat → Nat → Int} {p : Nat} (hp : p < 5) : VV A p p (col A p) = ddN (p + 1) A ∧ (∀ c, VV A (p + 1) p c = VV A p p c) ∧ (ddN (p + 1) A ≠ 0 → ∀ c i, i ≠ p → ddN p A * VV A (p + 1) i c = ddN (p + 1) A * VV A p i c - VV A p i (col A p) * VV A p p c) := by
  have core : (∀ c : Nat → Int, ddN (p + 1) (rep A p c) = ddN p A * c p - sumI (fun k => A p k * ddN p (rep A k c)) p) ∧ (ddN (p + 1) A ≠ 0 → ∀ c : Nat → Int, (∀ k, k < p → ddN p A * ddN (p + 1) (rep A k c) = ddN (p + 1) A * ddN p (rep A k c) - ddN p (rep A k (fun i => A i p)) * ddN (p + 1) (rep A p c)) ∧
    ∀ i, ddN p A * (ddN (p + 1) A * c i - sumI (fun k => A i k * ddN (p + 1) (rep A k c)) (p + 1)) = ddN (p + 1) A * (ddN p A * c i - sumI (fun k => A i k * ddN p (rep A k c)) p) - (ddN p A * A i p - sumI (fun k => A i k * ddN p (rep A k (fun j => A j p))) p) * ddN (p + 1) (rep A p c)) := by
    rcases (show p = 0 ∨ p = 1 ∨ p = 2 ∨ p = 3 ∨ p = 4 by omega) with rfl | rfl | rfl | rfl | rfl
    · exact ⟨laF0 A, fun hd c => bar_step (p := 0) (dp := dd0) (dq := dd1) (cr0 A) (laF0 A) (linF1 A) (homF1 A) (congF1 A) hd c⟩
    · exact ⟨laF1 A, fun hd c => bar_step (p := 1) (dp := dd1) (dq := dd2) (crF1 A) (laF1 A) (linF2 A) (homF2 A) (congF2 A) hd c⟩
    · exact ⟨laF2 A, fun hd c => bar_step (p := 2) (dp := dd2) (dq := dd3) (crF2 A) (laF2 A) (linF3 A) (homF3 A) (congF3 A) hd c⟩
    · exact ⟨laF3 A, fun hd c => bar_step (p := 3) (dp := dd3) (dq := dd4) (crF3 A) (laF3 A) (linF4 A) (homF4 A) (congF4 A) hd c⟩
    · exact ⟨laF4 A, fun hd c => bar_step (p := 4) (dp := dd4) (dq := dd5) (crF4 A) (laF4 A) (linF5 A) (homF5 A) (congF5 A) hd c⟩
  obtain ⟨hLa, hst⟩ := core
  have hpp : ∀ c, VV A p p c = ddN (p + 1) (rep A p c) := fun c => by
    rw [hLa c]
    simp only [VV, Nat.lt_irrefl, if_false]
  refine ⟨?_, fun c => ?_, fun hd c i hip => ?_⟩
  · rw [hpp, rep_self]
  · rw [hpp]
    simp only [VV, show p < p + 1 by omega, if_true]
  · rw [hpp c]
    by_cases c1 : i < p
    · have := (hst hd c).1 i c1
      simp only [VV, c1, show i < p + 1 by omega, if_true]
      exact this
    · have := (hst hd c).2 i
      simp only [VV, c1, show ¬ i < p + 1 by omega, if_false]
      exact this
/-- the matrices with which the elimination begins -/
def okM (A B : Nat → Nat → Int) : Prop := Inv 0 1 A (fun i s => B s i)
theorem V_inv {A B : Nat → Nat → Int} (h : okM A B) : ∀ p, p ≤ 5 → Inv p (ddN p A) (fun i j => VV A p i (col A j)) (fun i s => VV A p i (B s)) ∧ ddN p A ≤ 100 ^ p
  | 0, _ => by
    have e1 : (fun i j => VV A 0 i (col A j)) = A := by
      funext i j
      show (if i < 0 then _ else (1 : Int) * _ - 0) = _
      rw [if_neg (Nat.not_lt_zero i), Int.one_mul, Int.sub_zero]
    have e2 : (fun i s => VV A 0 i (B s)) = (fun i s => B s i) := by
      funext i s
      show (if i < 0 then _ else (1 : Int) * _ - 0) = _
      rw [if_neg (Nat.not_lt_zero i), Int.one_mul, Int.sub_zero]
    rw [e1, e2]
    exact ⟨h, Int.le_refl 1⟩
  | p + 1, hp => by
    obtain ⟨i1, i2⟩ := V_inv h p (by omega)
    obtain ⟨v1, v2, v3⟩ := V_step (A := A) (show p < 5 by omega)
    have own := i1.own (show p < 5 by omega)
    have hd : ddN (p + 1) A ≠ 0 := by
      have : 0 < VV A p p (col A p) := own
      rw [v1] at this
      omega
    have st := i1.step (show p < 5 by omega) (M' := fun i j => VV A (p + 1) i (col A j)) (N' := fun i s => VV A (p + 1) i (B s)) (fun i j hi hj hip => by
      have := v3 hd (col A j) i hip
      rw [← v1] at this
      exact this) (fun j hj => v2 (col A j)) (fun i s hi hs hip => by
      have := v3 hd (B s) i hip
      rw [← v1] at this
      exact this) (fun s hs => v2 (B s))
    have st' : Inv (p + 1) (VV A p p (col A p)) (fun i j => VV A (p + 1) i (col A j)) (fun i s => VV A (p + 1) i (B s)) := st
    rw [v1] at st'
    refine ⟨st', ?_⟩
    have := (i1.le (show p < 5 by omega)).2.2.1
    have w : VV A p p (col A p) ≤ 100 * ddN p A := this
    rw [v1] at w
    rw [Int.pow_succ]
    omega
/-! ### in longs -/
theorem div_exact {n d q : Int} (h : n = d * q) (hd : 0 < d) (hd2 : d < 9000000000000000000) (h1 : -9000000000000000000 < n) (h2 : n < 9000000000000000000) : Int64.ofInt n / Int64.ofInt d = Int64.ofInt q := by
  have e := Int64.ofInt_tdiv (a := n) (b := d) (by rw [show Int64.minValue.toInt = -9223372036854775808 from rfl]; omega) (by rw [show Int64.maxValue.toInt = 9223372036854775807 from rfl]; omega) (by rw [show Int64.minValue.toInt = -9223372036854775808 from rfl]; omega) (by rw [show Int64.maxValue.toInt = 9223372036854775807 from rfl]; omega)
  rw [← e, h, Int.mul_tdiv_cancel_left _ (by omega)]
theorem ofI_ne0 {d : Int} (hd : 0 < d) (hd2 : d < 9000000000000000000) : ¬ Int64.ofInt d = 0 := by
  intro h
  have := congrArg Int64.toInt h
  rw [Int64.toInt_ofInt_of_le (by omega) (by omega)] at this
  have z : (0 : Int64).toInt = 0 := rfl
  omega
/-- column c of the ten, at stage p -/
def WW (A B : Nat → Nat → Int) (p f c : Nat) : Int := if c < 5 then VV A p f (col A c) else VV A p f (B (c - 5))
theorem mul_bd {a b x y : Int} (h1 : -x ≤ a) (h2 : a ≤ x) (h3 : -y ≤ b) (h4 : b ≤ y) : -(x * y) ≤ a * b ∧ a * b ≤ x * y := by
  have p1 := Int.mul_nonneg (show 0 ≤ x - a by omega) (show 0 ≤ y - b by omega)
  have p2 := Int.mul_nonneg (show 0 ≤ x + a by omega) (show 0 ≤ y + b by omega)
  have p3 := Int.mul_nonneg (show 0 ≤ x - a by omega) (show 0 ≤ y + b by omega)
  have p4 := Int.mul_nonneg (show 0 ≤ x + a by omega) (show 0 ≤ y - b by omega)
  constructor <;> grind
theorem pw_le {p : Nat} (hp : p ≤ 5) : (100 : Int) ^ p ≤ 10000000000 := by
  rcases (show p = 0 ∨ p = 1 ∨ p = 2 ∨ p = 3 ∨ p = 4 ∨ p = 5 by omega) with rfl | rfl | rfl | rfl | rfl | rfl <;> decide
theorem big_bd {A B : Nat → Nat → Int} (h : okM A B) {p i : Nat} (hp : p < 5) (hi : i < 5) (hip : i ≠ p) : VV A p p (col A p) * VV A p i (col A i) ≤ 1000000000000000000 := by
  obtain ⟨i1, i2⟩ := V_inv h p (by omega)
  obtain ⟨v1, -, -⟩ := V_step (A := A) hp
  have o1 : 0 < VV A p p (col A p) := i1.own hp
  have o2 := (V_inv h (p + 1) (by omega)).2
  rw [← v1] at o2
  have l0 : 0 ≤ VV A p i (col A i) := (i1.le hi).2.2.2
  have key : ∀ {x y X Y : Int}, 0 < x → 0 ≤ y → x ≤ X → y ≤ Y → X * Y ≤ 1000000000000000000 → x * y ≤ 1000000000000000000 := by
    intro x y X Y hx hy hX hY hb
    have a := Int.mul_le_mul hX hY hy (by omega)
    omega
  by_cases c : p = 4
  · subst c
    have e : VV A 4 i (col A i) = ddN 4 A := i1.2.2.2.2.1 i (by omega)
    rw [e] at l0 ⊢
    exact key o1 l0 o2 i2 (by decide)
  · have l1 : VV A p i (col A i) ≤ 100 * ddN p A := (i1.le hi).2.2.1
    have l2 : VV A p i (col A i) ≤ 100 ^ (p + 1) := by
      rw [Int.pow_succ]; omega
    have q : (100 : Int) ^ (p + 1) ≤ 100000000 := by
      rcases (show p = 0 ∨ p = 1 ∨ p = 2 ∨ p = 3 by omega) with rfl | rfl | rfl | rfl <;> decide
    exact key o1 l0 (Int.le_trans o2 q) (Int.le_trans l2 q) (by decide)
theorem WW_step {A B : Nat → Nat → Int} (h : okM A B) {p i c : Nat} (hp : p < 5) (hi : i < 5) (hip : i ≠ p) (hc : c < 10) : (Int64.ofInt (WW A B p p p) * Int64.ofInt (WW A B p i c) - Int64.ofInt (WW A B p i p) * Int64.ofInt (WW A B p p c)) / Int64.ofInt (ddN p A) = Int64.ofInt (WW A B (p + 1) i c) := by
  obtain ⟨i1, i2⟩ := V_inv h p (by omega)
  obtain ⟨v1, v2, v3⟩ := V_step (A := A) hp
  have own : 0 < VV A p p (col A p) := i1.own hp
  have hd : ddN (p + 1) A ≠ 0 := by rw [v1] at own; omega
  have dp := i1.1
  have dle := pw_le (p := p) (by omega)
  have l1 := i1.le hi
  have l2 := i1.le hp
  have bb := big_bd h hp hi hip
  have b1 : -VV A p i (col A i) ≤ WW A B p i c ∧ WW A B p i c ≤ VV A p i (col A i) := by
    unfold WW
    split
    · rename_i c5; exact l1.1 c c5
    · have := l1.2.1 (c - 5) (by omega)
      have n0 := l1.2.2.2
      constructor <;> omega
  have b2 : -VV A p p (col A p) ≤ WW A B p p c ∧ WW A B p p c ≤ VV A p p (col A p) := by
    unfold WW
    split
    · rename_i c5; exact l2.1 c c5
    · have := l2.2.1 (c - 5) (by omega)
      constructor <;> omega
  have e1 : WW A B p p p = VV A p p (col A p) := by simp only [WW, hp, if_true]
  have e2 : WW A B p i p = VV A p i (col A p) := by simp only [WW, hp, if_true]
  have b3 : -VV A p i (col A i) ≤ VV A p i (col A p) ∧ VV A p i (col A p) ≤ VV A p i (col A i) := l1.1 p hp
  have m1 := mul_bd (show -VV A p p (col A p) ≤ VV A p p (col A p) by omega) (Int.le_refl _) b1.1 b1.2
  have m2 := mul_bd b3.1 b3.2 b2.1 b2.2
  rw [Int.mul_comm (VV A p i (col A i)) (VV A p p (col A p))] at m2
  have id1 : VV A p p (col A p) * WW A B p i c - VV A p i (col A p) * WW A B p p c = ddN p A * WW A B (p + 1) i c := by
    unfold WW
    split
    · have := v3 hd (col A c) i hip
      rw [← v1] at this
      exact this.symm
    · have := v3 hd (B (c - 5)) i hip
      rw [← v1] at this
      exact this.symm
  rw [e1, e2, ← Int64.ofInt_mul, ← Int64.ofInt_mul, ← Int64.ofInt_sub]
  exact div_exact id1 dp (by omega) (by omega) (by omega)
def rowW (σ : Sg) (A B : Nat → Nat → Int) (p f : Nat) : Prop := ∀ c, c < 10 → σ.2 (80 + 1 + f) c = Int64.ofInt (WW A B p f c)
theorem uL_s (f : Nat → Int64) (k : Nat) (x : Int64) : vp_updL f k x k = x := pk_uLs
theorem uL_n (f : Nat → Int64) {k j : Nat} (x : Int64) (h : j ≠ k) : vp_updL f k x j = f j := pk_uLn h
theorem elim_ok {A B : Nat → Nat → Int} {σ : Sg} (h : okM A B) {p i : Nat} (hp : p < 5) (hi : i < 5) (hip : i ≠ p) (h1 : rowW σ A B p i) (h2 : rowW σ A B p p) : ∃ σ', f_X4_eliminate (nI i) (nI p) (Int64.ofInt (ddN p A)) σ = some σ' ∧ rowW σ' A B (p + 1) i ∧ fr (fun j => j = 80 + 1 + i) σ σ' := by
  have dpos := (V_inv h p (by omega)).1.1
  have dle := Int.le_trans (V_inv h p (by omega)).2 (pw_le (p := p) (by omega))
  have hne := ofI_ne0 dpos (by omega)
  have hcm : ¬ lg_cmp (Int64.ofInt (ddN p A)) 0 = nI 0 := fun q => hne ((lg_cmp_eq _ _).mp q)
  refine ex_use (loop_inv (fun m k (a : Sg) => L_X4_eliminate_30 (nI i) (nI p) (Int64.ofInt (ddN p A)) (Int64.ofInt (WW A B p p p)) (Int64.ofInt (WW A B p i p)) m (nI k) a) (fun k a => (∀ c, c < 10 → a.2 (80 + 1 + i) c = Int64.ofInt (if c < k then WW A B (p + 1) i c else WW A B p i c)) ∧ fr (fun j => j = 80 + 1 + i) σ a) 10 (fun a => (nI 10, a)) (by decide) (fun k hk m a ha => ?_) (fun m a ha => ?_) σ ⟨fun c hc => by simp [h1 c hc], fr.rf⟩) (fun σ' q1 q2 => ?_)
  · obtain ⟨i1, i2⟩ := ha
    have w1 := i1 k hk
    rw [if_neg (Nat.lt_irrefl k)] at w1
    have w2 : a.2 (80 + 1 + p) k = Int64.ofInt (WW A B p p k) := by rw [(i2 (80 + 1 + p) (by omega)).2]; exact h2 k hk
    have w3 := WW_step h hp hi hip hk
    refine ⟨setL a (80 + 1 + i) (vp_updL (a.2 (80 + 1 + i)) k (Int64.ofInt (WW A B (p + 1) i k))), ?_, fun c hc => ?_, i2.tr (fr.setL rfl)⟩
    · show L_X4_eliminate_30 (nI i) (nI p) _ _ _ (m + 1) (nI k) a = _
      rw [L_X4_eliminate_30]
      simp only [hne, not_false_eq_true]
      simp (disch := omega) only [li0, li1, li2, li3, li4, li5, li6, li7, li8, li9, li10, li15, li31, li32, li40, li41, li49, li50, li99, li100, li999, c_le, c_lt, c_eq, c_tn, c_inb, c_add, hi, hp, hk, show ¬ 10 ≤ k by omega, jn, w1, w2, w3, if_true, if_false, ite_true, ite_false, ↓reduceIte, Nat.le_refl, Nat.lt_irrefl, Nat.reduceAdd, Nat.reduceLeDiff, Nat.reduceLT, Nat.reduceEqDiff, Bool.false_eq_true]
    · by_cases e : c = k
      · subst e
        rw [sL_s, uL_s, if_pos (by omega)]
      · rw [sL_s, uL_n _ _ e, i1 c hc]
        simp only [show (c < k + 1) = (c < k) from propext ⟨fun h => by omega, fun h => by omega⟩]
  · rw [L_X4_eliminate_30]
    simp (disch := omega) only [li0, li1, li2, li3, li4, li5, li6, li7, li8, li9, li10, li15, li31, li32, li40, li41, li49, li50, li99, li100, li999, c_le, c_lt, c_eq, c_tn, c_inb, c_add, if_true, if_false, ite_true, ite_false, ↓reduceIte, Nat.le_refl, Nat.lt_irrefl, Nat.reduceAdd, Nat.reduceLeDiff, Nat.reduceLT, Nat.reduceEqDiff, Bool.false_eq_true]
  · refine ⟨σ', ?_, fun c hc => by rw [q1.1 c hc, if_pos hc], q1.2⟩
    unfold f_X4_eliminate
    simp (disch := omega) only [li0, li1, li2, li3, li4, li5, li6, li7, li8, li9, li10, li15, li31, li32, li40, li41, li49, li50, li99, li100, li999, c_le, c_lt, c_eq, c_tn, c_inb, c_add, hcm, hp, hi, show p < 10 by omega, h1 p (by omega), h2 p (by omega), if_true, if_false, ite_true, ite_false, ↓reduceIte, Nat.le_refl, Nat.lt_irrefl, Nat.reduceAdd, Nat.reduceLeDiff, Nat.reduceLT, Nat.reduceEqDiff, Bool.false_eq_true]
    have hz : lg_cmp (Int64.ofInt (ddN p A)) 0 ≠ nI 0 := hcm
    rw [show L_X4_eliminate_30 (nI i) (nI p) (Int64.ofInt (ddN p A)) (Int64.ofInt (WW A B p p p)) (Int64.ofInt (WW A B p i p)) FU (nI 0) σ = _ from q2]
    rfl
def inS (j : Nat) : Prop := 80 < j ∧ j < 86
theorem solve_in {A B : Nat → Nat → Int} {σ : Sg} (h : okM A B) {p : Nat} (hp : p < 5) (hr : ∀ i, i < 5 → rowW σ A B p i) : ∃ σ', L_X4_solve_19 (Int64.ofInt (ddN p A)) (nI p) FU 0 σ = some (nI 5, σ') ∧ (∀ i, i < 5 → rowW σ' A B (p + 1) i) ∧ fr inS σ σ' := by
  obtain ⟨v1, v2, v3⟩ := V_step (A := A) hp
  have same : ∀ c, WW A B (p + 1) p c = WW A B p p c := by
    intro c
    unfold WW
    split
    · exact v2 _
    · exact v2 _
  refine ex_use (loop_inv (fun m k (a : Sg) => L_X4_solve_19 (Int64.ofInt (ddN p A)) (nI p) m (nI k) a) (fun k a => (∀ i, i < 5 → rowW a A B (if i < k then p + 1 else p) i) ∧ fr inS σ a) 5 (fun a => (nI 5, a)) (by decide) (fun k hk m a ha => ?_) (fun m a ha => ?_) σ ⟨fun i hi => by simp; exact hr i hi, fr.rf⟩) (fun σ' q1 q2 => ⟨σ', q2, fun i hi => by have := q1.1 i hi; rw [if_pos hi] at this; exact this, q1.2⟩)
  · obtain ⟨i1, i2⟩ := ha
    by_cases c : k = p
    · subst c
      refine ⟨a, (by rw [L_X4_solve_19]; simp (disch := omega) only [li0, li1, li2, li3, li4, li5, li6, li7, li8, li9, li10, li15, li31, li32, li40, li41, li49, li50, li99, li100, li999, c_le, c_lt, c_eq, c_tn, c_inb, c_add, show ¬ 5 ≤ k by omega, if_true, if_false, ite_true, ite_false, ↓reduceIte, Nat.le_refl, Nat.lt_irrefl, Nat.reduceAdd, Nat.reduceLeDiff, Nat.reduceLT, Nat.reduceEqDiff, Bool.false_eq_true]), fun i hi => ?_, i2⟩
      by_cases e : i = k
      · subst e
        have := i1 i hi
        rw [if_neg (Nat.lt_irrefl i)] at this
        rw [if_pos (by omega)]
        intro c hc
        rw [same c]
        exact this c hc
      · have := i1 i hi
        simp only [show (i < k + 1) = (i < k) from propext ⟨fun h => by omega, fun h => by omega⟩]
        exact this
    · have r1 := i1 k hk
      rw [if_neg (Nat.lt_irrefl k)] at r1
      have r2 : rowW a A B p p := by
        have := i1 p hp
        by_cases e : p < k
        · rw [if_pos e] at this
          intro c hc
          rw [← same c]
          exact this c hc
        · rw [if_neg e] at this
          exact this
      obtain ⟨σ1, e1, e2, e3⟩ := elim_ok h hp hk c r1 r2
      refine ⟨σ1, (by rw [L_X4_solve_19]; simp (disch := omega) only [li0, li1, li2, li3, li4, li5, li6, li7, li8, li9, li10, li15, li31, li32, li40, li41, li49, li50, li99, li100, li999, c_le, c_lt, c_eq, c_tn, c_inb, c_add, show ¬ 5 ≤ k by omega, c, e1, Option.bind_some, if_true, if_false, ite_true, ite_false, ↓reduceIte, Nat.le_refl, Nat.lt_irrefl, Nat.reduceAdd, Nat.reduceLeDiff, Nat.reduceLT, Nat.reduceEqDiff, Bool.false_eq_true]), fun i hi => ?_, i2.tr (e3.mono (fun j hj => by unfold inS; omega))⟩
      by_cases e : i = k
      · subst e
        rw [if_pos (by omega)]
        exact e2
      · have := i1 i hi
        simp only [show (i < k + 1) = (i < k) from propext ⟨fun h => by omega, fun h => by omega⟩]
        intro c hc
        rw [(e3 (80 + 1 + i) (by omega)).2]
        exact this c hc
  · rw [L_X4_solve_19]
    simp (disch := omega) only [li0, li1, li2, li3, li4, li5, li6, li7, li8, li9, li10, li15, li31, li32, li40, li41, li49, li50, li99, li100, li999, c_le, c_lt, c_eq, c_tn, c_inb, c_add, if_true, if_false, ite_true, ite_false, ↓reduceIte, Nat.le_refl, Nat.lt_irrefl, Nat.reduceAdd, Nat.reduceLeDiff, Nat.reduceLT, Nat.reduceEqDiff, Bool.false_eq_true]
theorem solve_ok {A B : Nat → Nat → Int} {σ : Sg} (h : okM A B) (hr : ∀ i, i < 5 → rowW σ A B 0 i) : ∃ σ', f_X4_solve σ = some σ' ∧ (∀ i, i < 5 → rowW σ' A B 5 i) ∧ fr inS σ σ' := by
  refine ex_use (loop_inv (fun m k (a : Sg) => L_X4_solve_4 m (Int64.ofInt (ddN k A)) (nI k) a) (fun k a => (∀ i, i < 5 → rowW a A B k i) ∧ fr inS σ a) 5 (fun a => .inr (Int64.ofInt (ddN 5 A), nI 5, a)) (by decide) (fun k hk m a ha => ?_) (fun m a ha => ?_) σ ⟨hr, fr.rf⟩) (fun σ' q1 q2 => ⟨σ', ?_, q1⟩)
  · have dpos := (V_inv h k (by omega)).1.1
    have dle := Int.le_trans (V_inv h k (by omega)).2 (pw_le (p := k) (by omega))
    have hne := ofI_ne0 dpos (by omega)
    have hcm : ¬ lg_cmp (Int64.ofInt (ddN k A)) 0 = nI 0 := fun q => hne ((lg_cmp_eq _ _).mp q)
    obtain ⟨σ1, e1, e2, e3⟩ := solve_in h hk ha.1
    obtain ⟨v1, v2, v3⟩ := V_step (A := A) hk
    have hx : σ1.2 (80 + 1 + k) k = Int64.ofInt (ddN (k + 1) A) := by
      rw [e2 k hk k (by omega)]
      simp only [WW, hk, if_true]
      rw [v2, v1]
    refine ⟨σ1, ?_, e2, ha.2.tr e3⟩
    show L_X4_solve_4 (m + 1) (Int64.ofInt (ddN k A)) (nI k) a = _
    rw [L_X4_solve_4]
    simp (disch := omega) only [li0, li1, li2, li3, li4, li5, li6, li7, li8, li9, li10, li15, li31, li32, li40, li41, li49, li50, li99, li100, li999, c_le, c_lt, c_eq, c_tn, c_inb, c_add, show ¬ 5 ≤ k by omega, hcm, if_true, if_false, ite_true, ite_false, ↓reduceIte, Nat.le_refl, Nat.lt_irrefl, Nat.reduceAdd, Nat.reduceLeDiff, Nat.reduceLT, Nat.reduceEqDiff, Bool.false_eq_true]
    rw [show L_X4_solve_19 (Int64.ofInt (ddN k A)) (nI k) FU (nI 0) a = _ from e1]
    simp (disch := omega) only [li0, li1, li2, li3, li4, li5, li6, li7, li8, li9, li10, li15, li31, li32, li40, li41, li49, li50, li99, li100, li999, c_le, c_lt, c_eq, c_tn, c_inb, c_add, Option.bind_some, hk, show k < 10 by omega, hx, if_true, if_false, ite_true, ite_false, ↓reduceIte, Nat.le_refl, Nat.lt_irrefl, Nat.reduceAdd, Nat.reduceLeDiff, Nat.reduceLT, Nat.reduceEqDiff, Bool.false_eq_true]
  · rw [L_X4_solve_4]
    simp (disch := omega) only [li0, li1, li2, li3, li4, li5, li6, li7, li8, li9, li10, li15, li31, li32, li40, li41, li49, li50, li99, li100, li999, c_le, c_lt, c_eq, c_tn, c_inb, c_add, if_true, if_false, ite_true, ite_false, ↓reduceIte, Nat.le_refl, Nat.lt_irrefl, Nat.reduceAdd, Nat.reduceLeDiff, Nat.reduceLT, Nat.reduceEqDiff, Bool.false_eq_true]
  · unfold f_X4_solve
    rw [show L_X4_solve_4 FU 1 0 σ = _ from q2]
    rfl
