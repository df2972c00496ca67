/-! THE ORDER of the deals, and all deals done one after another -/
theorem cnt_or {p : Nat → Bool} {d : Nat} : ∀ {n : Nat}, d < n → p d = false → cnt (fun e => p e || decide (e = d)) n = cnt p n + 1
  | 0, h, _ => absurd h (by omega)
  | n + 1, h, hp => by
    simp only [cnt]
    by_cases e : d = n
    · subst e
      rw [cnt_congr (q := p) (fun c hc => by simp [show ¬ c = d by omega])]
      simp [hp]
    · rw [cnt_or (p := p) (n := n) (by omega) hp]
      simp only [show ¬ n = d by omega, decide_false, Bool.or_false]
      omega
theorem cnt_zero {p : Nat → Bool} : ∀ {n : Nat}, (∀ e, e < n → p e = false) → cnt p n = 0
  | 0, _ => rfl
  | n + 1, h => by
    simp only [cnt]
    rw [cnt_zero (fun e he => h e (by omega)), h n (by omega)]
    rfl
theorem ord_surj {dy : Nat → Nat} {n : Nat} {o : Nat → Nat} (h : ordOK dy n o) {e : Nat} (he : e < n) : o (rk dy n e) = e := rk_inj (h _ (rk_bd he)).1 he (h _ (rk_bd he)).2
/-- one deal more, put at its place -/
theorem ord_ins {dy : Nat → Nat} {k p : Nat} {o : Nat → Nat} (h : ordOK dy k o) (hp : p ≤ k) (h1 : ∀ j, p ≤ j → j < k → dy k < dy (o j)) (h2 : p = 0 ∨ dy (o (p - 1)) ≤ dy k) : ordOK dy (k + 1) (fun j => if j < p then o j else if j = p then k else o (j - 1)) := by
  have low : ∀ j, j < p → dy (o j) ≤ dy k := by
    intro j hj
    rcases h2 with h2 | h2
    · omega
    · by_cases e : j = p - 1
      · rw [e]; exact h2
      · have := ord_mono h (show j < p - 1 by omega) (by omega)
        rw [lx_iff] at this
        omega
  have rkS : ∀ e, rk dy (k + 1) e = rk dy k e + (if lx dy k e then 1 else 0) := fun e => rfl
  have own : rk dy k k = p := by
    rcases h2 with h2 | h2
    · subst h2
      refine cnt_zero (fun e he => ?_)
      have := h1 (rk dy k e) (Nat.zero_le _) (rk_bd he)
      rw [ord_surj h he] at this
      have w : ¬ lx dy e k = true := by rw [lx_iff]; omega
      simpa using w
    · by_cases hp0 : p = 0
      · subst hp0
        refine cnt_zero (fun e he => ?_)
        have := h1 (rk dy k e) (Nat.zero_le _) (rk_bd he)
        rw [ord_surj h he] at this
        have w : ¬ lx dy e k = true := by rw [lx_iff]; omega
        simpa using w
      · have hs := h (p - 1) (by omega)
        have e1 : rk dy k k = cnt (fun e => lx dy e (o (p - 1)) || decide (e = o (p - 1))) k := by
          refine cnt_congr (fun e he => ?_)
          have hr := rk_bd (dy := dy) he
          have hq := ord_surj h he
          by_cases w : rk dy k e < p
          · have a1 : lx dy e k = true := by
              have := low _ w
              rw [hq] at this
              rw [lx_iff]
              omega
            rw [a1]
            by_cases w2 : rk dy k e = p - 1
            · rw [w2] at hq
              simp [hq]
            · have := ord_mono h (show rk dy k e < p - 1 by omega) (by omega)
              rw [hq] at this
              simp [this]
          · have a1 : ¬ lx dy e k = true := by
              have := h1 _ (by omega) hr
              rw [hq] at this
              rw [lx_iff]
              omega
            have a2 : ¬ lx dy e (o (p - 1)) = true := by
              have := ord_mono h (show p - 1 < rk dy k e by omega) hr
              rw [hq, lx_iff] at this
              rw [lx_iff]
              omega
            have a3 : ¬ e = o (p - 1) := by
              intro q
              rw [q] at w
              omega
            simp only [Bool.not_eq_true] at a1 a2
            simp [a1, a2, a3]
        rw [e1, cnt_or hs.1 (by
          have w : ¬ lx dy (o (p - 1)) (o (p - 1)) = true := by rw [lx_iff]; omega
          simpa using w)]
        have : cnt (fun e => lx dy e (o (p - 1))) k = p - 1 := hs.2
        omega
  intro j hj
  by_cases c1 : j < p
  · simp only [c1, if_true]
    have hs := h j (by omega)
    have w : ¬ lx dy k (o j) = true := by
      have := low j c1
      rw [lx_iff]
      omega
    refine ⟨by omega, ?_⟩
    rw [rkS, hs.2, if_neg w]
    rfl
  · by_cases c2 : j = p
    · subst c2
      simp only [c1, if_false, if_true]
      refine ⟨by omega, ?_⟩
      have w : ¬ lx dy k k = true := by rw [lx_iff]; omega
      rw [rkS, own, if_neg w]
      rfl
    · simp only [c1, c2, if_false]
      have hs := h (j - 1) (by omega)
      have w : lx dy k (o (j - 1)) = true := by
        have := h1 (j - 1) (by omega) (by omega)
        rw [lx_iff]
        omega
      refine ⟨by omega, ?_⟩
      rw [rkS, hs.2, if_pos w]
      omega
theorem c_m1 (n : Nat) : nI (n + 1) + -nI 1 = nI n := pk_m1 n
theorem arr_in {b k : Nat} {dy o : Nat → Nat} {σ : Sg} (hk : k < 41) (hdy : ∀ d, d ≤ k → σ.1 (b + 1) d = nI (dy d) ∧ dy d < 2000) (ho : ordOK dy k o) : ∀ (p m : Nat) (a : Sg), p < m → p ≤ k → (∀ j, j < p → a.1 (b + 7) j = nI (o j)) → (∀ j, p ≤ j → j < k → a.1 (b + 7) (j + 1) = nI (o j) ∧ dy k < dy (o j)) → fr (fun j => j = b + 7) σ a →
    ∃ p' a', L_X0_arrange_12 b (nI k) m (nI p) a = some (nI p', a') ∧ p' ≤ k ∧ (∀ j, j < p' → a'.1 (b + 7) j = nI (o j)) ∧ (∀ j, p' ≤ j → j < k → a'.1 (b + 7) (j + 1) = nI (o j) ∧ dy k < dy (o j)) ∧ fr (fun j => j = b + 7) σ a' ∧ (p' = 0 ∨ dy (o (p' - 1)) ≤ dy k) := by
  intro p
  induction p with
  | zero =>
    intro m a hm hp i1 i2 i3
    obtain ⟨m', rfl⟩ : ∃ m', m = m' + 1 := ⟨m - 1, by omega⟩
    refine ⟨0, a, ?_, hp, i1, i2, i3, Or.inl rfl⟩
    rw [L_X0_arrange_12]
    simp (disch := omega) only [li0, li1, li2, li3, li4, li5, li6, li7, li8, li9, li10, li15, li31, li32, li40, li41, li49, li50, li99, li100, li999, c_le, c_lt, c_eq, c_tn, c_inb, c_add, if_true, if_false, ite_true, ite_false, ↓reduceIte, Nat.le_refl, Nat.lt_irrefl, Nat.reduceAdd, Nat.reduceLeDiff, Nat.reduceLT, Nat.reduceEqDiff, Bool.false_eq_true]
  | succ p ih =>
    intro m a hm hp i1 i2 i3
    obtain ⟨m', rfl⟩ : ∃ m', m = m' + 1 := ⟨m - 1, by omega⟩
    have op := ho p (by omega)
    have w1 := i1 p (by omega)
    have w2 : a.1 (b + 1) (o p) = nI (dy (o p)) := by rw [(i3 (b + 1) (by omega)).1]; exact (hdy _ (by omega)).1
    have w3 : a.1 (b + 1) k = nI (dy k) := by rw [(i3 (b + 1) (by omega)).1]; exact (hdy _ (by omega)).1
    have w4 := (hdy (o p) (by omega)).2
    have w5 := (hdy k (by omega)).2
    have w6 : nI (p + 1) - nI 1 = nI p := nI_pred p
    by_cases hle : dy (o p) ≤ dy k
    · refine ⟨p + 1, a, ?_, hp, i1, i2, i3, Or.inr hle⟩
      rw [L_X0_arrange_12]
      simp (disch := omega) only [li0, li1, li2, li3, li4, li5, li6, li7, li8, li9, li10, li15, li31, li32, li40, li41, li49, li50, li99, li100, li999, c_le, c_lt, c_eq, c_tn, c_inb, c_add, w6, w1, w2, w3, hle, show p < 41 by omega, show o p < 41 by omega, hk, show ¬ p + 1 ≤ 0 by omega, if_true, if_false, ite_true, ite_false, ↓reduceIte, Nat.le_refl, Nat.lt_irrefl, Nat.reduceAdd, Nat.reduceLeDiff, Nat.reduceLT, Nat.reduceEqDiff, Bool.false_eq_true]
    · have hgt : dy k < dy (o p) := by omega
      obtain ⟨p', a', e1, e2, e3, e4, e5, e6⟩ := ih m' (setR a (b + 7) (upd (a.1 (b + 7)) (p + 1) (nI (o p)))) (by omega) (by omega) (fun j hj => by simp (disch := omega) only [sR_s, sR_n, sL_s, sL_n, sR_2, sL_1, up_s, up_n]; exact i1 j (by omega)) (fun j hj1 hj2 => by
        by_cases e : j = p
        · subst e; simp (disch := omega) only [sR_s, sR_n, sL_s, sL_n, sR_2, sL_1, up_s, up_n]; exact ⟨trivial, hgt⟩
        · simp (disch := omega) only [sR_s, sR_n, sL_s, sL_n, sR_2, sL_1, up_s, up_n]; exact i2 j (by omega) hj2) (fr.tr i3 (fr.setR rfl))
      refine ⟨p', a', ?_, e2, e3, e4, e5, e6⟩
      rw [L_X0_arrange_12]
      simp (disch := omega) only [li0, li1, li2, li3, li4, li5, li6, li7, li8, li9, li10, li15, li31, li32, li40, li41, li49, li50, li99, li100, li999, c_le, c_lt, c_eq, c_tn, c_inb, c_add, w6, w1, w2, w3, hle, show p < 41 by omega, show o p < 41 by omega, hk, show ¬ p + 1 ≤ 0 by omega, show p + 1 < 41 by omega, jn, c_m1, if_true, if_false, ite_true, ite_false, ↓reduceIte, Nat.le_refl, Nat.lt_irrefl, Nat.reduceAdd, Nat.reduceLeDiff, Nat.reduceLT, Nat.reduceEqDiff, Bool.false_eq_true]
      exact e1
theorem arr_ok {b n : Nat} {dy : Nat → Nat} {σ : Sg} (hn : n ≤ 41) (hs : σ.1 b 7 = nI n) (hdy : ∀ d, d < n → σ.1 (b + 1) d = nI (dy d) ∧ dy d < 2000) : ∃ σ' o, f_X0_arrange b σ = some σ' ∧ ordOK dy n o ∧ (∀ k, k < n → σ'.1 (b + 7) k = nI (o k)) ∧ fr (fun j => j = b + 7) σ σ' := by
  refine ex_use (loop_inv (fun m k a => L_X0_arrange_2 b m (nI k) a) (fun k a => ∃ o, ordOK dy k o ∧ (∀ j, j < k → a.1 (b + 7) j = nI (o j)) ∧ fr (fun j => j = b + 7) σ a) n (fun a => (nI n, a)) (by omega) (fun k hk m a ha => ?_) (fun m a ha => ?_) σ ⟨fun _ => 0, fun j hj => absurd hj (by omega), fun j hj => absurd hj (by omega), fr.rf⟩) (fun σ' h1 h2 => ?_)
  · obtain ⟨o, i1, i2, i3⟩ := ha
    have hs' : a.1 b 7 = nI n := by rw [(i3 b (by omega)).1]; exact hs
    obtain ⟨p', a', e1, e2, e3, e4, e5, e6⟩ := arr_in (b := b) (σ := σ) (show k < 41 by omega) (fun d hd => hdy d (by omega)) i1 k FU a (by unfold FU; omega) (Nat.le_refl k) i2 (fun j h1 h2 => absurd h1 (by omega)) i3
    refine ⟨_, (by rw [L_X0_arrange_2]; simp (disch := omega) only [li0, li1, li2, li3, li4, li5, li6, li7, li8, li9, li10, li15, li31, li32, li40, li41, li49, li50, li99, li100, li999, c_le, c_lt, c_eq, c_tn, c_inb, c_add, hs', show ¬ n ≤ k by omega, e1, Option.bind_some, show p' < 41 by omega, jn, if_true, if_false, ite_true, ite_false, ↓reduceIte, Nat.le_refl, Nat.lt_irrefl, Nat.reduceAdd, Nat.reduceLeDiff, Nat.reduceLT, Nat.reduceEqDiff, Bool.false_eq_true]; rfl), _, ord_ins i1 e2 (fun j h1 h2 => (e4 j h1 h2).2) e6, fun j hj => ?_, fr.tr e5 (fr.setR rfl)⟩
    by_cases c1 : j < p'
    · simp (disch := omega) only [sR_s, sR_n, sL_s, sL_n, sR_2, sL_1, up_s, up_n, c1, if_true]
      exact e3 j c1
    · by_cases c2 : j = p'
      · subst c2
        simp (disch := omega) only [sR_s, sR_n, sL_s, sL_n, sR_2, sL_1, up_s, up_n, c1, if_true, if_false]
      · simp (disch := omega) only [sR_s, sR_n, sL_s, sL_n, sR_2, sL_1, up_s, up_n, c1, c2, if_false]
        have := (e4 (j - 1) (by omega) (by omega)).1
        rw [show j - 1 + 1 = j by omega] at this
        exact this
  · obtain ⟨o, i1, i2, i3⟩ := ha
    have hs' : a.1 b 7 = nI n := by rw [(i3 b (by omega)).1]; exact hs
    show L_X0_arrange_2 b (m + 1) (nI n) a = _
    rw [L_X0_arrange_2]
    simp (disch := omega) only [li0, li1, li2, li3, li4, li5, li6, li7, li8, li9, li10, li15, li31, li32, li40, li41, li49, li50, li99, li100, li999, c_le, c_lt, c_eq, c_tn, c_inb, c_add, hs', if_true, if_false, ite_true, ite_false, ↓reduceIte, Nat.le_refl, Nat.lt_irrefl, Nat.reduceAdd, Nat.reduceLeDiff, Nat.reduceLT, Nat.reduceEqDiff, Bool.false_eq_true]
  · obtain ⟨o, i1, i2, i3⟩ := h1
    refine ⟨σ', o, ?_, i1, i2, i3⟩
    unfold f_X0_arrange
    rw [show (0 : Int32) = nI 0 from rfl, h2]
    rfl
