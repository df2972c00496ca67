/-! THE FIRST DAY FROM ONE ON: component -/
/-- the answer: from the t-th day on, the first at whose end the bit is as asked -/
def fst1 (B : Bk) (x f : Nat) (is : Bool) (t : Nat) : Nat → Int32
  | 0 => -6
  | j + 1 => if bsB B t < bN B then (if (CT B (bsB B (t + 1)) x).testBit f = is then nI (dp (bD B) (bO B) (bsB B t)) else fst1 B x f is (t + 1) j) else -6
theorem fst1_end {B : Bk} {x f : Nat} {is : Bool} {t : Nat} (h : ¬ bsB B t < bN B) : ∀ j, fst1 B x f is t j = -6
  | 0 => rfl
  | j + 1 => if_neg h
theorem fst1_more {B : Bk} {x f : Nat} {is : Bool} : ∀ (j t i : Nat), bsB B (t + j) = bN B → fst1 B x f is t (j + i) = fst1 B x f is t j
  | 0, t, i, h => by
    rw [fst1_end (by rw [show bsB B t = bN B from h]; exact Nat.lt_irrefl _), fst1_end (by rw [show bsB B t = bN B from h]; exact Nat.lt_irrefl _)]
  | j + 1, t, i, h => by
    rw [show j + 1 + i = (j + i) + 1 by omega]
    simp only [fst1]
    rw [fst1_more j (t + 1) i (by rw [show t + 1 + j = t + (j + 1) by omega]; exact h)]
def whn (B : Bk) (x f : Nat) (is : Bool) : Int32 := if (CT B (dnN (bD B) (bN B) (bL B)) x).testBit f = is then nI (bL B) else -6
theorem fd28 {B : Bk} {σ : Sg} {T x f : Nat} {is : Bool} (hT : nT B T) (hr : TR σ B T) (hx : x < 9) (hf : f < 5) : ∀ (j t m : Nat), t + j = T → j < m → (L_X5_firstDay_28 (nI x) (nI f) (b2i is) σ m (nI t) = some (.inl (fst1 B x f is t j)) ∨ (∃ z, L_X5_firstDay_28 (nI x) (nI f) (b2i is) σ m (nI t) = some (.inr z)) ∧ fst1 B x f is t j = -6) := by
  have hT2 := hT.2.2
  intro j
  induction j with
  | zero =>
    intro t m ht hm
    obtain ⟨m', rfl⟩ : ∃ m', m = m' + 1 := ⟨m - 1, by omega⟩
    right
    refine ⟨⟨nI t, ?_⟩, rfl⟩
    rw [L_X5_firstDay_28, hr.1, if_pos (show nI T ≤ nI t by rw [c_le (by omega) (by omega)]; omega)]
  | succ j ih =>
    intro t m ht hm
    obtain ⟨m', rfl⟩ : ∃ m', m = m' + 1 := ⟨m - 1, by omega⟩
    have hlt := hT.2.1 t (by omega)
    have hc := isC_s hT2 hr (t := t) (by omega) hx hf
    have hday := hr.2.1 t (by omega)
    simp only [fst1]
    rw [L_X5_firstDay_28, hr.1, if_neg (show ¬ nI T ≤ nI t by rw [c_le (by omega) (by omega)]; omega), hc, Option.bind_some, if_pos hlt]
    by_cases c : (CT B (bsB B (t + 1)) x).testBit f = is
    · left
      rw [if_pos (congrArg b2i c), if_pos c, if_pos (show inb (nI t) 40 by rw [c_inb (by omega)]; omega), c_tn (by omega), hday]
    · rw [if_neg (fun w => c (by rw [b2i_eq] at w; exact w)), if_neg c, li1, c_add]
      exact ih (t + 1) m' (by omega) (by omega)
/-- t: how many days of deals lie up to the day that is looked at -/
def whA (B : Bk) (x f : Nat) (is : Bool) (t : Nat) : Int32 := if (CT B (bsB B t) x).testBit f = is then nI (bL B) else fst1 B x f is t 40
theorem firstDay_ok {B : Bk} {σ : Sg} {T x f : Nat} {is : Bool} (hB : okB B) (hT : nT B T) (hr : TR σ B T) (hx : x < 9) (hf : f < 5) : ∃ t, t ≤ T ∧ dnN (bD B) (bN B) (bL B) = bsB B t ∧ f_X5_firstDay (nI (bL B)) (nI x) (nI f) (b2i is) σ = some (whA B x f is t) := by
  have hT2 := hT.2.2
  obtain ⟨t, t1, t2, t3⟩ := lastBy_ok hB hB.2.2.2.1 hT hr
  refine ⟨t, t1, t3, ?_⟩
  have hc := isC_m hT2 hr t1 hx hf
  unfold f_X5_firstDay whA
  rw [t2, Option.bind_some, hc, Option.bind_some]
  by_cases c : (CT B (bsB B t) x).testBit f = is
  · rw [if_pos (congrArg b2i c), if_pos c]
  · rw [if_neg (fun w => c (by rw [b2i_eq] at w; exact w)), if_neg c]
    have e : nI t - 1 + 1 = nI t := by
      by_cases q : t = 0
      · subst q; rfl
      · rw [li1, c_sub (by omega), c_add, show t - 1 + 1 = t by omega]
    have hm := fst1_more (B := B) (x := x) (f := f) (is := is) (T - t) t (40 - (T - t)) (by rw [show t + (T - t) = T by omega]; exact hT.1)
    rw [show T - t + (40 - (T - t)) = 40 by omega] at hm
    rw [e, hm]
    rcases fd28 (is := is) hT hr hx hf (T - t) t FU (by omega) (by unfold FU; omega) with k | ⟨⟨z, k⟩, k2⟩
    · rw [k]; rfl
    · rw [k, k2]; rfl
/-! ### what is laid at the end of a day -/
theorem hold_c2 {B : Bk} (hB : okB B) (L : Nat) : holdB B L (Hp B (dnN (bD B) (bN B) L)) := by
  obtain ⟨H, h1, h2, h3⟩ := hold_some hB L
  rw [Hp_some h2]
  exact ⟨h1, h3⟩
theorem hold_bs {B : Bk} (hB : okB B) {t : Nat} (h : bsB B t < bN B) : holdB B (dp (bD B) (bO B) (bsB B t)) (Hp B (bsB B (t + 1))) := by
  have := hold_c2 hB (dp (bD B) (bO B) (bsB B t))
  rw [← en_eq h] at this
  exact this
/-! ### the first day from one on: reference -/
theorem lt_ctl {B : Bk} {σ : Sg} {L x f : Nat} (hB : okB B) (hL : L < 2000) (hx : x < 9) (hf : f < 5) (hM : repMB σ B) : ∃ s2, (∀ Z : Int32 × Sg → Option ((Int32 × Sg) ⊕ (Int32 × Int32 × Sg)), (f_X7_lay (nI L) (-6) σ).bind (fun q3 => (f_X7_control (nI x) q3.2).bind Z) = Z (nI (CT B (dnN (bD B) (bN B) L) x), s2)) ∧ repMB s2 B ∧ kpM σ s2 := by
  obtain ⟨b1, b2, b3, b4, b5, b6, b7, b8⟩ := id hB
  have hh := hold_c2 hB L
  obtain ⟨s1, g1, g2, g3, g4⟩ := layQ hB hL hM hh
  obtain ⟨s2, k1, k2, k3, k4⟩ := ctlM_ok (x := x) g2 hh.2 (by omega) (by omega) hx
  refine ⟨s2, fun Z => ?_, g3.kp (kpM.off k4), g4.tr (kpM.off k4)⟩
  rw [g1, Option.bind_some]
  show (f_X7_control (nI x) s1).bind Z = _
  rw [k1]
  rfl
theorem wm31 {B : Bk} {x f : Nat} {is : Bool} {y : Int32} (hB : okB B) (hx : x < 9) (hf : f < 5) (hy : (if y = 1 then (1 : Int32) else 0) = b2i is) : ∀ (j t m k : Nat) (σ : Sg), repMB σ B → t + j = 40 → k + j ≤ 41 → j < m → 1 ≤ k → ∃ s2, kpM σ s2 ∧ (L_X7_when_31 (nI x) (nI f) y m (nx (bD B) (bN B) (bO B) (bsB B t)) (nI k) σ = some (.inl (fst1 B x f is t j, s2)) ∨ ((∃ z1 z2, L_X7_when_31 (nI x) (nI f) y m (nx (bD B) (bN B) (bO B) (bsB B t)) (nI k) σ = some (.inr (z1, z2, s2))) ∧ fst1 B x f is t j = -6)) := by
  obtain ⟨b1, b2, b3, b4, b5, b6, b7, b8⟩ := id hB
  intro j
  induction j with
  | zero =>
    intro t m k σ hM ht hk hm h1
    obtain ⟨m', rfl⟩ : ∃ m', m = m' + 1 := ⟨m - 1, by omega⟩
    have ht2 : ¬ bsB B t < bN B := by
      intro q
      have := bs_lt b3 q
      omega
    refine ⟨σ, kpM.rf, Or.inr ⟨⟨nx (bD B) (bN B) (bO B) (bsB B t), nI k, ?_⟩, rfl⟩⟩
    rw [L_X7_when_31]
    by_cases c : (40 : Int32) < nI k
    · rw [if_pos c]
    · rw [if_neg c, if_pos (show nx (bD B) (bN B) (bO B) (bsB B t) < 0 by rw [nx_neg b3 b2]; exact ht2)]
  | succ j ih =>
    intro t m k σ hM ht hk hm h1
    obtain ⟨m', rfl⟩ : ∃ m', m = m' + 1 := ⟨m - 1, by omega⟩
    have hk40 : ¬ (40 : Int32) < nI k := by rw [li40, c_lt (by omega) (by omega)]; omega
    by_cases c0 : bsB B t < bN B
    · have hd : dp (bD B) (bO B) (bsB B t) ≤ 999 := (b2 _ (b3 _ c0).1).1
      have enx : nx (bD B) (bN B) (bO B) (bsB B t) = nI (dp (bD B) (bO B) (bsB B t)) := if_pos c0
      obtain ⟨s2, e1, e2, e3⟩ := lt_ctl (L := dp (bD B) (bO B) (bsB B t)) (f := f) hB (by omega) hx hf hM
      have edn : dnN (bD B) (bN B) (dp (bD B) (bO B) (bsB B t)) = bsB B (t + 1) := (en_eq c0).symm
      rw [edn] at e1
      have hw := hasM_ok _ (CT_lt B (bsB B (t + 1)) x) f hf
      have hbh := behind_n (c := bsB B t) b1 e2.1 b2 b3 c0
      by_cases c : (CT B (bsB B (t + 1)) x).testBit f = is
      · refine ⟨s2, e3, Or.inl ?_⟩
        simp only [fst1]
        rw [L_X7_when_31, if_neg hk40, if_neg (show ¬ nx (bD B) (bN B) (bO B) (bsB B t) < 0 by rw [nx_neg b3 b2]; exact not_not_intro c0), enx, e1]
        simp only [jn]
        rw [hw, hy, if_pos (congrArg b2i c), if_pos c0, if_pos c]
      · obtain ⟨s3, i1, i2⟩ := ih (t + 1) m' (k + 1) s2 e2 (by omega) (by omega) (by omega) (by omega)
        refine ⟨s3, e3.tr i1, ?_⟩
        have estep : L_X7_when_31 (nI x) (nI f) y (m' + 1) (nx (bD B) (bN B) (bO B) (bsB B t)) (nI k) σ = L_X7_when_31 (nI x) (nI f) y m' (nx (bD B) (bN B) (bO B) (bsB B (t + 1))) (nI (k + 1)) s2 := by
          rw [L_X7_when_31, if_neg hk40, if_neg (show ¬ nx (bD B) (bN B) (bO B) (bsB B t) < 0 by rw [nx_neg b3 b2]; exact not_not_intro c0), enx, e1]
          simp only [jn]
          rw [hw, hy, if_neg (fun w => c (by rw [b2i_eq] at w; exact w)), ← enx, hbh, Option.bind_some, li1, c_add]
          rfl
        rw [estep]
        simp only [fst1]
        rw [if_pos c0, if_neg c]
        exact i2
    · refine ⟨σ, kpM.rf, Or.inr ⟨⟨nx (bD B) (bN B) (bO B) (bsB B t), nI k, ?_⟩, if_neg c0⟩⟩
      rw [L_X7_when_31, if_neg hk40, if_pos (show nx (bD B) (bN B) (bO B) (bsB B t) < 0 by rw [nx_neg b3 b2]; exact c0)]
def TQ (B : Bk) (σ : Sg) (F : Option (Int32 × Sg)) (M : Sg → Option (Int32 × Sg)) : Prop := ∃ r σ1 σ2, F = some (r, σ1) ∧ M σ1 = some (r, σ2) ∧ kpT σ σ1 ∧ traceOK σ1 B ∧ kpM σ1 σ2
theorem repMB.kt {σ σ' : Sg} {B : Bk} (h : repMB σ B) (k : kpT σ σ') : repMB σ' B := by
  have w : ∀ j, 132 ≤ j → σ'.1 j = σ.1 j := fun j a => (k.1 j (by unfold inTr inH; omega)).1
  obtain ⟨h1, h2, h3, h4, h5⟩ := h
  refine ⟨h1.kept (fun j a _ => w j a), by rw [w 132 (by omega)]; exact h2, ?_, ?_, ?_⟩ <;> rw [w 139 (by omega)]
  · exact h3
  · exact h4
  · exact h5
theorem q_when {B : Bk} {σ : Sg} (hB : okB B) (hr : repB 1 σ B) (hM : repMB σ B) (ht : traceOK σ B) (x1 x2 x3 : Int32) : TQ B σ (f_X6_when x1 x2 x3 σ) (f_X7_when x1 x2 x3) := by
  rcases ctl_c x1 with ⟨u1, v1, _⟩ | ⟨u1, v1, a, ha, rfl⟩
  · refine ⟨-1, σ, σ, ?_, ?_, kpT.rf, ht, kpM.rf⟩
    · unfold f_X6_when; rw [if_pos u1]
    · unfold f_X7_when; rw [if_pos (by unfold f_X7_areKnown; rw [if_pos v1])]
  rcases firm_c x2 with ⟨u2, v2, _⟩ | ⟨u2, v2, f, hf, rfl⟩
  · refine ⟨-1, σ, σ, ?_, ?_, kpT.rf, ht, kpM.rf⟩
    · unfold f_X6_when; rw [if_neg u1, if_pos u2]
    · unfold f_X7_when; rw [if_pos (by unfold f_X7_areKnown; rw [if_neg v1, if_pos v2])]
  have hkn := known_c v1 v2
  rcases yn_c x3 with ⟨u3, v3, _⟩ | ⟨u3, v3, k, hk, rfl⟩
  · refine ⟨-2, σ, σ, ?_, ?_, kpT.rf, ht, kpM.rf⟩
    · unfold f_X6_when; rw [if_neg u1, if_neg u2, if_pos u3]
    · unfold f_X7_when; rw [if_neg hkn, if_pos v3]
  obtain ⟨b1, b2, b3, b4, b5, b6, b7, b8⟩ := id hB
  obtain ⟨is, his⟩ : ∃ is : Bool, is = decide (k = 1) := ⟨_, rfl⟩
  have hy : (if nI k = 1 then (1 : Int32) else 0) = b2i is := by
    rw [his]
    rcases (show k = 0 ∨ k = 1 by omega) with rfl | rfl <;> rfl
  obtain ⟨s1, e1, ⟨T, l1, l2, l3⟩, e3, e4⟩ := traceQ hB hr ht
  have r1 : repB 1 s1 B := hr.kept (fun j g1 g2 => (e4.1 j (by unfold inTr inH; omega)).1)
  have hM1 := hM.kt e4
  obtain ⟨t, t1, t2, t3⟩ := firstDay_ok (is := is) hB l1 l2 ha hf
  have hT2 := l1.2.2
  obtain ⟨s2, p1, p2, p3⟩ := lt_ctl (L := bL B) (f := f) hB (by omega) ha hf hM1
  rw [t2] at p1
  have hw := hasM_ok _ (CT_lt B (bsB B t) a) f hf
  have hC : f_X6_when (nI a) (nI f) (nI k) σ = some (whA B a f is t, s1) := by
    unfold f_X6_when
    rw [if_neg u1, if_neg u2, if_neg u3, e1, Option.bind_some]
    simp only [jn]
    rw [hy, r1.2.1, t3]
    rfl
  have hfu : FU = 3999 + 1 := rfl
  have h40 : ¬ (40 : Int32) < 0 := by decide
  have hnn : ¬ nI (bL B) < 0 := by rw [li0, c_lt (by omega) (by omega)]; omega
  by_cases c : (CT B (bsB B t) a).testBit f = is
  · refine ⟨whA B a f is t, s1, s2, hC, ?_, e4, Or.inr ⟨e3, T, l1, l2, l3⟩, p3⟩
    unfold f_X7_when whA
    rw [if_neg hkn, if_neg v3, hM1.2.1, hfu, L_X7_when_31, if_neg h40, if_neg hnn, p1]
    simp only [jn]
    rw [hw, hy, if_pos (congrArg b2i c), if_pos c]
    rfl
  · have hm : fst1 B a f is t (40 - t) = fst1 B a f is t 40 := by
      have h := fst1_more (B := B) (x := a) (f := f) (is := is) (40 - t) t t (by
        rw [show t + (40 - t) = 40 by omega]
        exact bs_stop2 l1.1 hT2)
      rw [show 40 - t + t = 40 by omega] at h
      exact h.symm
    obtain ⟨s3, i1, i2⟩ := wm31 (x := a) (f := f) (is := is) (y := nI k) hB ha hf hy (40 - t) t 3999 1 s2 p2 (by omega) (by omega) (by omega) (by omega)
    have hbh := behind_L (L := bL B) b1 (by omega) p2.1 b2 b3
    rw [t2] at hbh
    refine ⟨whA B a f is t, s1, s3, hC, ?_, e4, Or.inr ⟨e3, T, l1, l2, l3⟩, p3.tr i1⟩
    unfold f_X7_when whA
    rw [if_neg hkn, if_neg v3, hM1.2.1, hfu, L_X7_when_31, if_neg h40, if_neg hnn, p1]
    simp only [jn]
    rw [hw, hy, if_neg (fun w => c (by rw [b2i_eq] at w; exact w)), if_neg c, hbh, Option.bind_some, show (0 : Int32) + 1 = nI 1 from rfl, ← hm]
    rcases i2 with i2 | ⟨⟨z1, z2, i2⟩, i3⟩
    · rw [i2]; rfl
    · rw [i2, i3]; rfl
