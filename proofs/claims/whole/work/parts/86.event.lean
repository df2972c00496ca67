/-! EVENTS, as the component lists them -/
section
variable {B : Bk} {T : Nat} {σ : Sg}
theorem b2i_eq (a b : Bool) : (b2i a = b2i b) = (a = b) := by cases a <;> cases b <;> simp [b2i]
theorem isC_s (hT : T ≤ 40) (hr : TR σ B T) {t x f : Nat} (ht : t < T) (hx : x < 9) (hf : f < 5) : f_X5_isControlled (nI t) (nI x) (nI f) σ = some (b2i ((CT B (bsB B (t + 1)) x).testBit f)) := by
  have h1 := hr.2.2 t ht x hx
  have h2 := has_ok _ (CT_lt B (bsB B (t + 1)) x) f hf
  unfold f_X5_isControlled
  cases c : (CT B (bsB B (t + 1)) x).testBit f with
  | true =>
    rw [c, b2i_t] at h2
    simp (disch := omega) only [li0, li1, li2, li3, li4, li5, li6, li7, li8, li9, li10, li15, li31, li32, li40, li41, li49, li50, li99, li100, li999, c_le, c_lt, c_eq, c_tn, c_inb, c_add, Nat.not_lt_zero, show t < 40 by omega, hx, h1, h2, Nat.one_ne_zero, b2i_t, if_true, if_false, ite_true, ite_false, ↓reduceIte, Nat.le_refl, Nat.lt_irrefl, Nat.reduceAdd, Nat.reduceLeDiff, Nat.reduceLT, Nat.reduceEqDiff, Bool.false_eq_true]
  | false =>
    rw [c, b2i_f] at h2
    simp (disch := omega) only [li0, li1, li2, li3, li4, li5, li6, li7, li8, li9, li10, li15, li31, li32, li40, li41, li49, li50, li99, li100, li999, c_le, c_lt, c_eq, c_tn, c_inb, c_add, Nat.not_lt_zero, show t < 40 by omega, hx, h1, h2, b2i_f, if_true, if_false, ite_true, ite_false, ↓reduceIte, Nat.le_refl, Nat.lt_irrefl, Nat.reduceAdd, Nat.reduceLeDiff, Nat.reduceLT, Nat.reduceEqDiff, Bool.false_eq_true]
theorem isC_m (hT : T ≤ 40) (hr : TR σ B T) {t x f : Nat} (ht : t ≤ T) (hx : x < 9) (hf : f < 5) : f_X5_isControlled (nI t - 1) (nI x) (nI f) σ = some (b2i ((CT B (bsB B t) x).testBit f)) := by
  by_cases c : t = 0
  · subst c
    have : CT B (bsB B 0) x = 0 := CT_0 hx
    rw [this, Nat.zero_testBit]
    unfold f_X5_isControlled
    rw [if_pos (show nI 0 - 1 < 0 by decide)]
    rfl
  · have h := isC_s hT hr (t := t - 1) (by omega) hx hf
    rw [show t - 1 + 1 = t by omega] at h
    rw [li1, c_sub (by omega)]
    exact h
def LE (B : Bk) (σ : Sg) (Q : Nat) (a : Sg) : Prop := TE a B Q ∧ (∀ y, y ≠ 4 → a.1 88 y = σ.1 88 y) ∧ fr (fun j => j = 88 ∨ j = 131) σ a
theorem LE.tr (hT : T ≤ 40) (hr : TR σ B T) {Q : Nat} {a : Sg} (h : LE B σ Q a) : TR a B T := by
  obtain ⟨h1, h2, h3⟩ := h
  refine ⟨by rw [h2 2 (by omega)]; exact hr.1, fun u hu => by rw [(h3 89 (by omega)).1]; exact hr.2.1 u hu, ?_⟩
  intro u hu x hx
  rw [(h3 (90 + 1 + u) (by omega)).1]
  exact hr.2.2 u hu x hx
theorem cnt_bd {p : Nat → Bool} {n : Nat} : cnt p n ≤ n := cnt_le
theorem cnt_step {p : Nat → Bool} {n m : Nat} (h : n < m) (hp : p n = true) : cnt p n < cnt p m := by
  have : ∀ j, cnt p n + 1 ≤ cnt p (n + 1 + j) := by
    intro j
    induction j with
    | zero => simp only [Nat.add_zero, cnt, hp, if_true]; omega
    | succ j ih =>
      rw [show n + 1 + (j + 1) = (n + 1 + j) + 1 by omega]
      simp only [cnt]
      omega
  have h2 := this (m - n - 1)
  rw [show n + 1 + (m - n - 1) = m by omega] at h2
  omega
theorem q_div {t x f : Nat} (hx : x < 9) (hf : f < 5) : ((t * 9 + x) * 5 + f) / 45 = t ∧ ((t * 9 + x) * 5 + f) / 5 % 9 = x ∧ ((t * 9 + x) * 5 + f) % 5 = f := by omega
theorem lev_ok (hT : T ≤ 40) (hr : TR σ B T) {t x f : Nat} (ht : t < T) (hx : x < 9) (hf : f < 5) {a : Sg} (ha : LE B σ ((t * 9 + x) * 5 + f) a) : ∃ a', f_X5_listEvent (nI t) (nI x) (nI f) a = some a' ∧ LE B σ ((t * 9 + x) * 5 + f + 1) a' := by
  have hra := ha.tr hT hr
  have h1 := isC_s hT hra ht hx hf
  have h2 := isC_m hT hra (Nat.le_of_lt ht) hx hf
  obtain ⟨d1, d2, d3⟩ := q_div (t := t) hx hf
  obtain ⟨Q, hQ⟩ : ∃ Q, Q = (t * 9 + x) * 5 + f := ⟨_, rfl⟩
  rw [← hQ] at ha d1 d2 d3 ⊢
  have hQ2 : Q < 1800 := by omega
  have hc : cnt (ev B) Q ≤ Q := cnt_le
  obtain ⟨⟨i1, i2⟩, i3, i4⟩ := ha
  have hev : ev B Q = ((CT B (bsB B (t + 1)) x).testBit f != (CT B (bsB B t) x).testBit f) := by
    unfold ev
    rw [d1, d2, d3]
  have his : isE B Q = (CT B (bsB B (t + 1)) x).testBit f := by
    unfold isE
    rw [d1, d2, d3]
  unfold f_X5_listEvent
  rw [h1, h2, Option.bind_some, Option.bind_some]
  by_cases c : (CT B (bsB B (t + 1)) x).testBit f = (CT B (bsB B t) x).testBit f
  · have e0 : ev B Q = false := by rw [hev, c]; simp
    refine ⟨a, by rw [if_pos (congrArg b2i c)], ⟨?_, fun q hq he => ?_⟩, i3, i4⟩
    · simp only [cnt, e0]
      exact i1
    · by_cases w : q = Q
      · subst w; rw [e0] at he; cases he
      · exact i2 q (by omega) he
  · have e1 : ev B Q = true := by rw [hev]; simp [c]
    have hval : ((((nI t * 9 + nI x) * 5 + nI f) * 2) + f_X6_asNumber (b2i ((CT B (bsB B (t + 1)) x).testBit f))) = nI (2 * Q + (isE B Q).toNat) := by
      rw [li9, li5, li2, c_mul, c_add, c_mul, c_add, c_mul, b2i_as, his, ← hQ, Nat.mul_comm Q 2]
      cases (CT B (bsB B (t + 1)) x).testBit f
      · rw [b2i_f, c_add]; rfl
      · rw [b2i_t, c_add]; rfl
    refine ⟨setR (setR a 131 (upd (a.1 131) (cnt (ev B) Q) (nI (2 * Q + (isE B Q).toNat)))) 88 (upd (a.1 88) 4 (nI (cnt (ev B) Q + 1))), ?_, ⟨?_, fun q hq he => ?_⟩, fun y hy => ?_, ?_⟩
    · rw [if_neg (fun w => c (by rw [b2i_eq] at w; exact w)), i1, if_neg (show ¬ (1800 : Int32) ≤ nI (cnt (ev B) Q) by rw [show (1800 : Int32) = nI 1800 from rfl, c_le (by omega) (by omega)]; omega), if_pos (show inb (nI (cnt (ev B) Q)) 1800 by rw [c_inb (by omega)]; omega), hval, c_tn (by omega)]
      simp only [jn]
      rw [sR_n _ _ (show (88 : Nat) ≠ 131 by omega), i1, li1, c_add]
    · rw [sR_s, up_s]
      simp only [cnt, e1, if_true]
    · rw [sR_n _ _ (by omega), sR_s]
      by_cases w : q = Q
      · subst w; rw [up_s]
      · have := cnt_step (p := ev B) (show q < Q by omega) he
        rw [up_n _ _ (by omega)]
        exact i2 q (by omega) he
    · rw [sR_s, up_n _ _ hy]
      exact i3 y hy
    · exact (i4.tr (fr.setR (Or.inr rfl))).tr (fr.setR (Or.inl rfl))
theorem le25 (hT : T ≤ 40) (hr : TR σ B T) {t x : Nat} (ht : t < T) (hx : x < 9) {a : Sg} (ha : LE B σ ((t * 9 + x) * 5) a) : ∃ a', L_X5_listEvents_25 (nI t) (nI x) FU 0 a = some (nI 5, a') ∧ LE B σ ((t * 9 + x + 1) * 5) a' := by
  refine ex_use (loop_inv (fun m f (a : Sg) => L_X5_listEvents_25 (nI t) (nI x) m (nI f) a) (fun f a => LE B σ ((t * 9 + x) * 5 + f) a) 5 (fun a => (nI 5, a)) (by omega) (fun f hf m a ha => ?_) (fun m a ha => ?_) a ha) (fun a' h1 h2 => ⟨a', h2, by rw [show (t * 9 + x + 1) * 5 = (t * 9 + x) * 5 + 5 by omega]; exact h1⟩)
  · obtain ⟨a', e1, e2⟩ := lev_ok hT hr ht hx hf ha
    refine ⟨a', ?_, e2⟩
    rw [L_X5_listEvents_25, e1]
    simp (disch := omega) only [li0, li1, li2, li3, li4, li5, li6, li7, li8, li9, li10, li15, li31, li32, li40, li41, li49, li50, li99, li100, li999, c_le, c_lt, c_eq, c_tn, c_inb, c_add, show ¬ 5 ≤ f by omega, Option.bind_some, if_true, if_false, ite_true, ite_false, ↓reduceIte, Nat.le_refl, Nat.lt_irrefl, Nat.reduceAdd, Nat.reduceLeDiff, Nat.reduceLT, Nat.reduceEqDiff, Bool.false_eq_true]
  · rw [L_X5_listEvents_25]
    simp (disch := omega) only [li0, li1, li2, li3, li4, li5, li6, li7, li8, li9, li10, li15, li31, li32, li40, li41, li49, li50, li99, li100, li999, c_le, c_lt, c_eq, c_tn, c_inb, c_add, if_true, if_false, ite_true, ite_false, ↓reduceIte, Nat.le_refl, Nat.lt_irrefl, Nat.reduceAdd, Nat.reduceLeDiff, Nat.reduceLT, Nat.reduceEqDiff, Bool.false_eq_true]
theorem le17 (hT : T ≤ 40) (hr : TR σ B T) {t : Nat} (ht : t < T) {a : Sg} (ha : LE B σ (45 * t) a) : ∃ a', L_X5_listEvents_17 (nI t) FU 0 a = some (nI 9, a') ∧ LE B σ (45 * (t + 1)) a' := by
  refine ex_use (loop_inv (fun m x (a : Sg) => L_X5_listEvents_17 (nI t) m (nI x) a) (fun x a => LE B σ ((t * 9 + x) * 5) a) 9 (fun a => (nI 9, a)) (by omega) (fun x hx m a ha => ?_) (fun m a ha => ?_) a (by rw [show (t * 9 + 0) * 5 = 45 * t by omega]; exact ha)) (fun a' h1 h2 => ⟨a', h2, by rw [show 45 * (t + 1) = (t * 9 + 9) * 5 by omega]; exact h1⟩)
  · obtain ⟨a', e1, e2⟩ := le25 hT hr ht hx ha
    refine ⟨a', ?_, e2⟩
    rw [L_X5_listEvents_17, e1]
    simp (disch := omega) only [li0, li1, li2, li3, li4, li5, li6, li7, li8, li9, li10, li15, li31, li32, li40, li41, li49, li50, li99, li100, li999, c_le, c_lt, c_eq, c_tn, c_inb, c_add, show ¬ 9 ≤ x by omega, Option.bind_some, if_true, if_false, ite_true, ite_false, ↓reduceIte, Nat.le_refl, Nat.lt_irrefl, Nat.reduceAdd, Nat.reduceLeDiff, Nat.reduceLT, Nat.reduceEqDiff, Bool.false_eq_true]
  · rw [L_X5_listEvents_17]
    simp (disch := omega) only [li0, li1, li2, li3, li4, li5, li6, li7, li8, li9, li10, li15, li31, li32, li40, li41, li49, li50, li99, li100, li999, c_le, c_lt, c_eq, c_tn, c_inb, c_add, if_true, if_false, ite_true, ite_false, ↓reduceIte, Nat.le_refl, Nat.lt_irrefl, Nat.reduceAdd, Nat.reduceLeDiff, Nat.reduceLT, Nat.reduceEqDiff, Bool.false_eq_true]
theorem list_ok (hT : T ≤ 40) (hr : TR σ B T) : ∃ a', f_X5_listEvents σ = some a' ∧ TR a' B T ∧ TE a' B (45 * T) ∧ fr (fun j => j = 88 ∨ j = 131) σ a' := by
  obtain ⟨s0, hs0⟩ : ∃ s0, s0 = setR σ 88 (upd (σ.1 88) 4 0) := ⟨_, rfl⟩
  have l0 : LE B σ (45 * 0) s0 := by
    refine ⟨⟨by rw [hs0, sR_s, up_s]; rfl, fun q hq => absurd hq (by omega)⟩, fun y hy => by rw [hs0, sR_s, up_n _ _ hy], ?_⟩
    rw [hs0]
    exact fr.setR (Or.inl rfl)
  refine ex_use (loop_inv (fun m t (a : Sg) => L_X5_listEvents_7 m (nI t) a) (fun t a => LE B σ (45 * t) a) T (fun a => (nI T, a)) (by omega) (fun t ht m a ha => ?_) (fun m a ha => ?_) s0 l0) (fun a' h1 h2 => ⟨a', ?_, h1.tr hT hr, h1.1, h1.2.2⟩)
  · obtain ⟨a', e1, e2⟩ := le17 hT hr ht ha
    refine ⟨a', ?_, e2⟩
    have hs := (ha.tr hT hr).1
    rw [L_X5_listEvents_7, e1]
    simp (disch := omega) only [li0, li1, li2, li3, li4, li5, li6, li7, li8, li9, li10, li15, li31, li32, li40, li41, li49, li50, li99, li100, li999, c_le, c_lt, c_eq, c_tn, c_inb, c_add, hs, show ¬ T ≤ t by omega, Option.bind_some, if_true, if_false, ite_true, ite_false, ↓reduceIte, Nat.le_refl, Nat.lt_irrefl, Nat.reduceAdd, Nat.reduceLeDiff, Nat.reduceLT, Nat.reduceEqDiff, Bool.false_eq_true]
  · have hs := (ha.tr hT hr).1
    rw [L_X5_listEvents_7]
    simp (disch := omega) only [li0, li1, li2, li3, li4, li5, li6, li7, li8, li9, li10, li15, li31, li32, li40, li41, li49, li50, li99, li100, li999, c_le, c_lt, c_eq, c_tn, c_inb, c_add, hs, if_true, if_false, ite_true, ite_false, ↓reduceIte, Nat.le_refl, Nat.lt_irrefl, Nat.reduceAdd, Nat.reduceLeDiff, Nat.reduceLT, Nat.reduceEqDiff, Bool.false_eq_true]
  · unfold f_X5_listEvents
    simp only [jn]
    rw [← hs0, show L_X5_listEvents_7 FU 0 s0 = _ from h2]
    rfl
end
/-! ### all days, when asked for -/
def traceOK (σ : Sg) (B : Bk) : Prop := σ.1 0 10 = nI 0 ∨ (σ.1 0 10 = nI 1 ∧ TL σ B)
def inTr (j : Nat) : Prop := j = 0 ∨ inH 39 j ∨ (66 < j ∧ j ≤ 78) ∨ (88 ≤ j ∧ j ≤ 131)
def kpT (σ σ' : Sg) : Prop := fr inTr σ σ' ∧ ∀ y, y ≠ 10 → σ'.1 0 y = σ.1 0 y
theorem kpT.rf {σ : Sg} : kpT σ σ := ⟨fr.rf, fun _ _ => rfl⟩
theorem traceQ {B : Bk} {σ : Sg} (hB : okB B) (hr : repB 1 σ B) (ht : traceOK σ B) : ∃ σ', f_X6_trace σ = some σ' ∧ TL σ' B ∧ σ'.1 0 10 = nI 1 ∧ kpT σ σ' := by
  rcases ht with h0 | ⟨h0, hL⟩
  · obtain ⟨b1, b2, b3, b4, b5, b6, b7, b8⟩ := id hB
    obtain ⟨s0, hs0⟩ : ∃ s0, s0 = setR σ 88 (upd (σ.1 88) 2 0) := ⟨_, rfl⟩
    have f0 : fr (fun j => j = 88) σ s0 := by rw [hs0]; exact fr.setR rfl
    obtain ⟨s1, e1, e2, e3⟩ := begin_ok 39 s0
    have r1 : repB 1 s1 B := hr.kept (fun j g1 g2 => by rw [(e3 j (by unfold inH; omega)).1, (f0 j (by omega)).1])
    obtain ⟨s2, g1, t, H, g2, g3, g4, g5, g6, g7, g8, g9⟩ := tl12 hB r1 e2 (by rw [(e3 88 (by unfold inH; omega)).1, hs0, sR_s, up_s]; rfl)
    have ht : nT B t := by
      have hb := g4 rfl
      refine ⟨hb, g8, ?_⟩
      by_cases c : t = 0
      · omega
      · have := bs_lt b3 (g8 (t - 1) (by omega))
        omega
    obtain ⟨s3, k1, k2, k3, k4⟩ := list_ok ht.2.2 g7
    have hz : ∀ j, j ≤ 38 → s3.1 j = σ.1 j := fun j hj => by
      rw [(k4 j (by omega)).1, (g9 j (by unfold inTL inH; omega)).1, (e3 j (by unfold inH; omega)).1, (f0 j (by omega)).1]
    refine ⟨setR s3 0 (upd (s3.1 0) 10 1), ?_, ⟨t, ht, ⟨by rw [sR_n _ _ (by omega)]; exact k2.1, fun u hu => by rw [sR_n _ _ (by omega)]; exact k2.2.1 u hu, fun u hu x hx => by rw [sR_n _ _ (by omega)]; exact k2.2.2 u hu x hx⟩, ⟨by rw [sR_n _ _ (by omega)]; exact k3.1, fun q hq he => by rw [sR_n _ _ (by omega)]; exact k3.2 q hq he⟩⟩, by rw [sR_s, up_s]; rfl, ?_, fun y hy => by rw [sR_s, up_n _ _ hy, hz 0 (by omega)]⟩
    · unfold f_X6_trace f_X5_workOut
      simp only [jn]
      rw [h0, if_pos (show nI 0 = 0 from rfl), ← hs0, e1, Option.bind_some, g1, Option.bind_some, k1, Option.bind_some, Option.bind_some]
    · have q1 : fr inTr σ s0 := f0.mono (fun j hj => by unfold inTr; omega)
      have q2 : fr inTr s0 s1 := e3.mono (fun j hj => Or.inr (Or.inl hj))
      have q3 : fr inTr s1 s2 := g9.mono (fun j hj => by unfold inTL inH at hj; unfold inTr inH; omega)
      have q4 : fr inTr s2 s3 := k4.mono (fun j hj => by unfold inTr; omega)
      exact q1.tr (q2.tr (q3.tr (q4.tr (fr.setR (Or.inl rfl)))))
  · refine ⟨σ, ?_, hL, h0, kpT.rf⟩
    unfold f_X6_trace
    rw [h0, if_neg (by decide)]
/-! ### what the component tells of an event -/
theorem cnt_at {p : Nat → Bool} : ∀ {n k : Nat}, k < cnt p n → ∃ q, q < n ∧ p q = true ∧ cnt p q = k
  | 0, k, h => absurd h (Nat.not_lt_zero _)
  | n + 1, k, h => by
    by_cases c : k < cnt p n
    · obtain ⟨q, h1, h2⟩ := cnt_at c
      exact ⟨q, by omega, h2⟩
    · simp only [cnt] at h
      by_cases e : p n = true
      · rw [if_pos e] at h
        exact ⟨n, by omega, e, by omega⟩
      · rw [if_neg e] at h
        omega
theorem c_lt0 (x : Int32) (h : ¬ x < 0) : ∃ k, k < 2147483648 ∧ x = nI k := by
  have hb := Int32.toInt_lt x
  rw [Int32.lt_iff_toInt_lt] at h
  have h0 : (0 : Int32).toInt = 0 := rfl
  exact ⟨x.toInt.toNat, by omega, asN (by omega)⟩
def evA (B : Bk) (q w : Nat) : Int32 := if w = 0 then nI (dp (bD B) (bO B) (bsB B (q / 45))) else if w = 1 then nI (q / 5 % 9) else if w = 2 then nI (q % 5) else b2i (isE B q)
theorem ofE_ok {B : Bk} {σ : Sg} {T : Nat} (hT : nT B T) (hr : TR σ B T) (he : TE σ B (45 * T)) (x1 : Int32) {w : Nat} (hw : w < 4) : (x1 < 0 ∧ f_X5_ofEvent x1 (nI w) σ = some (-6)) ∨ (∃ k, x1 = nI k ∧ k < 2147483648 ∧ cnt (ev B) (45 * T) ≤ k ∧ f_X5_ofEvent x1 (nI w) σ = some (-6)) ∨ (∃ q, q < 45 * T ∧ ev B q = true ∧ x1 = nI (cnt (ev B) q) ∧ f_X5_ofEvent x1 (nI w) σ = some (evA B q w)) := by
  have hT2 := hT.2.2
  have hcl : cnt (ev B) (45 * T) ≤ 45 * T := cnt_le
  by_cases c0 : x1 < 0
  · left
    refine ⟨c0, ?_⟩
    unfold f_X5_ofEvent
    rw [if_pos c0]
  right
  obtain ⟨k, hk, rfl⟩ := c_lt0 x1 c0
  by_cases c1 : k < cnt (ev B) (45 * T)
  · right
    obtain ⟨q, q1, q2, q3⟩ := cnt_at c1
    subst q3
    refine ⟨q, q1, q2, rfl, ?_⟩
    have hv := he.2 q q1 q2
    have hb : (isE B q).toNat ≤ 1 := Bool.toNat_le _
    have e1 : (2 * q + (isE B q).toNat) / 2 = q := by omega
    have e2 : (2 * q + (isE B q).toNat) % 2 = (isE B q).toNat := by omega
    have hday := hr.2.1 (q / 45) (by omega)
    unfold f_X5_ofEvent evA
    rw [if_neg c0, he.1, if_pos (show nI (cnt (ev B) q) < nI (cnt (ev B) (45 * T)) by rw [c_lt (by omega) (by omega)]; exact c1), if_pos (show inb (nI (cnt (ev B) q)) 1800 by rw [c_inb (by omega)]; omega), c_tn (by omega), hv, li2, li5, li9, show (45 : Int32) = nI 45 from rfl, c_div (by omega) (by omega) (by omega), e1]
    rcases (show w = 0 ∨ w = 1 ∨ w = 2 ∨ w = 3 by omega) with rfl | rfl | rfl | rfl
    · rw [if_pos (show nI 0 = 0 from rfl), if_pos rfl, c_div (by omega) (by omega) (by omega), if_pos (show inb (nI (q / 45)) 40 by rw [c_inb (by omega)]; omega), c_tn (by omega), hday]
    · rw [if_neg (show ¬ nI 1 = 0 by decide), if_pos (show nI 1 = 1 from rfl), if_neg (by omega), if_pos rfl, c_div (by omega) (by omega) (by omega), c_rem (by omega) (by omega) (by omega)]
    · rw [if_neg (show ¬ nI 2 = 0 by decide), if_neg (show ¬ nI 2 = 1 by decide), if_pos rfl, if_neg (by omega), if_neg (by omega), if_pos rfl, c_rem (by omega) (by omega) (by omega)]
    · rw [if_neg (show ¬ nI 3 = 0 by decide), if_neg (show ¬ nI 3 = 1 by decide), if_neg (show ¬ nI 3 = nI 2 by decide), if_pos (show inb (nI (cnt (ev B) q)) 1800 by rw [c_inb (by omega)]; omega), if_neg (show ¬ (3 : Nat) = 0 by decide), if_neg (show ¬ (3 : Nat) = 1 by decide), if_neg (show ¬ (3 : Nat) = 2 by decide)]
      rw [c_mul, c_sub (by omega), show 2 * q + (isE B q).toNat - q * 2 = (isE B q).toNat by omega]
      cases isE B q <;> rfl
  · left
    refine ⟨k, rfl, hk, by omega, ?_⟩
    unfold f_X5_ofEvent
    rw [if_neg c0, he.1, if_neg (show ¬ nI k < nI (cnt (ev B) (45 * T)) by rw [c_lt (by omega) (by omega)]; exact c1)]
/-! ### the first day from one on -/
theorem lastBy_ok {B : Bk} {σ : Sg} {T L : Nat} (hB : okB B) (hL : L ≤ 999) (hT : nT B T) (hr : TR σ B T) : ∃ t, t ≤ T ∧ f_X5_lastBy (nI L) σ = some (nI t - 1) ∧ dnN (bD B) (bN B) L = bsB B t := by
  obtain ⟨b1, b2, b3, b4, b5, b6, b7, b8⟩ := id hB
  have hT2 := hT.2.2
  have hdn : ∀ t, t ≤ T → (∀ u, u < t → dp (bD B) (bO B) (bsB B u) ≤ L) → (t < T → L < dp (bD B) (bO B) (bsB B t)) → dnN (bD B) (bN B) L = bsB B t := by
    intro t ht h1 h2
    have hle : dnN (bD B) (bN B) L ≤ bN B := cnt_le
    have hb := bs_le (ds := bD B) (n := bN B) (o := bO B) t
    apply Nat.le_antisymm
    · apply Nat.le_of_not_lt
      intro q
      have hlt : bsB B t < bN B := Nat.lt_of_lt_of_le q hle
      have g := (dn_iff b3 hlt).mp q
      have tt : t < T := by
        apply Nat.lt_of_not_le
        intro w
        have : t = T := by omega
        rw [this, hT.1] at hlt
        omega
      have := h2 tt
      unfold dp at this
      omega
    · by_cases c : t = 0
      · subst c; exact Nat.zero_le _
      · apply Nat.le_of_not_lt
        intro q
        have hu := hT.2.1 (t - 1) (by omega)
        have e : bsB B t = enD (bD B) (bN B) (bO B) (bsB B (t - 1)) := by
          have : t = t - 1 + 1 := by omega
          rw [this]; rfl
        have hge := en_gt b3 hu
        have hw := h1 (t - 1) (by omega)
        have hp : bsB B t - 1 < enD (bD B) (bN B) (bO B) (bsB B (t - 1)) := by omega
        obtain ⟨k1, k2⟩ := en_dp b3 hu (show bsB B (t - 1) ≤ bsB B t - 1 by omega) hp
        have := (dn_iff (L := L) b3 k1).mpr (by
          have : dDay (bD B (bO B (bsB B t - 1))) = dp (bD B) (bO B) (bsB B t - 1) := rfl
          omega)
        omega
  have hdb : ∀ u, u < T → dp (bD B) (bO B) (bsB B u) ≤ 999 := fun u hu => (b2 _ (b3 _ (hT.2.1 u hu)).1).1
  have key := run_invFU (fun m t (_ : Unit) => L_X5_lastBy_4 (nI L) σ m (nI t - 1) (nI t)) (fun t _ => ∀ u, u < t → dp (bD B) (bO B) (bsB B u) ≤ L) T (fun q => ∃ t z, t ≤ T ∧ q = some (nI t - 1, z) ∧ dnN (bD B) (bN B) L = bsB B t) (by omega) (fun t ht m a ha => ?_) (fun m a ha => ?_) () (fun u hu => absurd hu (by omega))
  · obtain ⟨t, z, k1, k2, k3⟩ := key
    refine ⟨t, k1, ?_, k3⟩
    unfold f_X5_lastBy
    rw [show L_X5_lastBy_4 (nI L) σ FU (-1) 0 = _ from k2]
    rfl
  · have hday := hr.2.1 t ht
    have hb := hdb t ht
    rw [L_X5_lastBy_4]
    by_cases c : L < dp (bD B) (bO B) (bsB B t)
    · right
      refine ⟨t, nI t, by omega, ?_, hdn t (by omega) ha (fun _ => c)⟩
      rw [hr.1, if_neg (show ¬ nI T ≤ nI t by rw [c_le (by omega) (by omega)]; omega), if_pos (show inb (nI t) 40 by rw [c_inb (by omega)]; omega), c_tn (by omega), hday, if_pos (show nI L < nI _ by rw [c_lt (by omega) (by omega)]; exact c)]
    · left
      refine ⟨(), fun u hu => ?_, ?_⟩
      · by_cases q : u = t
        · subst q; omega
        · exact ha u (by omega)
      · rw [hr.1, if_neg (show ¬ nI T ≤ nI t by rw [c_le (by omega) (by omega)]; omega), if_pos (show inb (nI t) 40 by rw [c_inb (by omega)]; omega), c_tn (by omega), hday, if_neg (show ¬ nI L < nI _ by rw [c_lt (by omega) (by omega)]; exact c), li1, c_add, c_sub (by omega), Nat.add_sub_cancel]
  · refine ⟨T, nI T, Nat.le_refl _, ?_, hdn T (Nat.le_refl _) ha (fun h => absurd h (Nat.lt_irrefl _))⟩
    rw [L_X5_lastBy_4, hr.1, if_pos (show nI T ≤ nI T by rw [c_le (by omega) (by omega)]; exact Nat.le_refl _)]
