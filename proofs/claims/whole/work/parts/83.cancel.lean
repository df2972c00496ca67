/-! A DEAL CANCELLED -/
theorem ord_of {dy : Nat → Nat} {n : Nat} {o : Nat → Nat} (h1 : ∀ k, k < n → o k < n) (h2 : ∀ i j, i < j → j < n → lx dy (o i) (o j) = true) : ordOK dy n o := by
  have st : ∀ j k, k + j < n → rk dy n (o k) + j ≤ rk dy n (o (k + j)) := by
    intro j
    induction j with
    | zero => intro k _; exact Nat.le_refl _
    | succ j ih =>
      intro k hk
      have a := ih k (by omega)
      have b := rk_lt (n := n) (h1 (k + j) (by omega)) (h2 (k + j) (k + (j + 1)) (by omega) hk)
      omega
  intro k hk
  refine ⟨h1 k hk, ?_⟩
  have a := st (n - 1 - k) k (by omega)
  have b := rk_bd (dy := dy) (h1 (k + (n - 1 - k)) (by omega))
  have c := st k 0 (by omega)
  rw [Nat.zero_add] at c
  omega
def uk (d e : Nat) : Nat := if e < d then e else e - 1
theorem sk_uk {d e : Nat} (h : e ≠ d) : sk d (uk d e) = e := by
  unfold sk uk
  by_cases c : e < d
  · rw [if_pos c, if_pos c]
  · rw [if_neg c, if_neg (by omega)]; omega
theorem uk_lt {d e n : Nat} (h : e ≠ d) (he : e < n) (hd : d < n) : uk d e < n - 1 := by
  unfold uk
  split <;> omega
theorem sk_mono {d a b : Nat} : sk d a < sk d b ↔ a < b := by
  unfold sk
  split <;> split <;> omega
theorem lx_rem {ds : Nat → Dl} {d a b : Nat} : lx (days (rem ds d)) a b = lx (days ds) (sk d a) (sk d b) := by
  have e : (lx (days (rem ds d)) a b = true) ↔ (lx (days ds) (sk d a) (sk d b) = true) := by
    rw [lx_iff, lx_iff, sk_mono]
    exact Iff.rfl
  cases h1 : lx (days (rem ds d)) a b <;> cases h2 : lx (days ds) (sk d a) (sk d b) <;> rw [h1, h2] at e <;> simp at e <;> rfl
theorem ord_rem {ds : Nat → Dl} {n d : Nat} {o : Nat → Nat} (hd : d < n) (ho : ordOK (days ds) n o) : ∃ p, p < n ∧ o p = d ∧ (∀ k, k < n - 1 → o (sk p k) ≠ d) ∧ ordOK (days (rem ds d)) (n - 1) (fun k => uk d (o (sk p k))) := by
  refine ⟨rk (days ds) n d, rk_bd hd, ord_at ho hd, ?_, ?_⟩
  · intro k hk q
    have h := ho (sk (rk (days ds) n d) k) (sk_lt hk)
    rw [q] at h
    have := h.2
    unfold sk at this
    split at this <;> omega
  · have ne : ∀ k, k < n - 1 → o (sk (rk (days ds) n d) k) ≠ d := by
      intro k hk q
      have h := ho (sk (rk (days ds) n d) k) (sk_lt hk)
      rw [q] at h
      have := h.2
      unfold sk at this
      split at this <;> omega
    refine ord_of (fun k hk => uk_lt (ne k hk) (ho _ (sk_lt hk)).1 hd) (fun i j hij hj => ?_)
    rw [lx_rem, sk_uk (ne i (by omega)), sk_uk (ne j hj)]
    exact ord_mono ho (sk_mono.mpr hij) (sk_lt hj)
theorem runS_rem {ds : Nat → Dl} {n d : Nat} {o o' : Nat → Nat} (hd : d < n) (ho : ordOK (days ds) n o) (ho' : ordOK (days (rem ds d)) (n - 1) o') : runS ds o (fun e => !decide (e = d)) n = runS (rem ds d) o' (fun _ => true) (n - 1) := by
  obtain ⟨p, p1, p2, p3, p4⟩ := ord_rem hd ho
  have e : ∀ k, k < n - 1 → (rem ds d) (o' k) = ds (o (sk p k)) := fun k hk => by
    rw [ord_uniq ho' p4 hk]
    show ds (sk d (uk d (o (sk p k)))) = _
    rw [sk_uk (p3 k hk)]
  have low : ∀ k, k ≤ p → runS ds o (fun e => !decide (e = d)) k = runS (rem ds d) o' (fun _ => true) k := by
    intro k hk
    refine runS_congr (fun i hi => ?_)
    have q := p3 i (by omega)
    have q2 := e i (by omega)
    rw [show sk p i = i by unfold sk; rw [if_pos (by omega)]] at q q2
    exact ⟨q2.symm, by simp [q]⟩
  have high : ∀ j, p + j ≤ n - 1 → runS ds o (fun e => !decide (e = d)) (p + j + 1) = runS (rem ds d) o' (fun _ => true) (p + j) := by
    intro j
    induction j with
    | zero =>
      intro hj
      show (runS ds o (fun e => !decide (e = d)) p).bind (fun H => if (!decide (o p = d)) = true then doD (ds (o p)) H else some H) = runS (rem ds d) o' (fun _ => true) p
      rw [low p (Nat.le_refl _), p2]
      cases runS (rem ds d) o' (fun _ => true) p <;> simp
    | succ j ih =>
      intro hj
      have i := ih (by omega)
      have q := p3 (p + j) (by omega)
      have q2 := e (p + j) (by omega)
      rw [show sk p (p + j) = p + j + 1 by unfold sk; rw [if_neg (by omega)]] at q q2
      show (runS ds o (fun e => !decide (e = d)) (p + j + 1)).bind (fun H => if (!decide (o (p + j + 1) = d)) = true then doD (ds (o (p + j + 1))) H else some H) = (runS (rem ds d) o' (fun _ => true) (p + j)).bind (fun H => if (true : Bool) = true then doD (rem ds d (o' (p + j))) H else some H)
      rw [i, q2]
      simp [q]
  have := high (n - 1 - p) (by omega)
  rw [show p + (n - 1 - p) + 1 = n by omega, show p + (n - 1 - p) = n - 1 by omega] at this
  exact this
theorem canc36 {σ : Sg} {n d : Nat} {ds : Nat → Dl} (hn : n ≤ 40) (hd : d < n) (h6 : σ.1 132 6 = nI (n - 1)) (hr : ∀ e, e < n → repDM σ e (ds e)) : ∃ σ', L_X7_cancel_36 FU (nI d) σ = some (nI (n - 1), σ') ∧ (∀ e, e < n - 1 → repDM σ' e (rem ds d e)) ∧ fr (fun j => 133 ≤ j ∧ j ≤ 138) σ σ' := by
  have key := run_inv (fun m k (a : Sg) => L_X7_cancel_36 m (nI k) a) (fun k a => d ≤ k ∧ (∀ e, e < k → e < n - 1 → repDM a e (rem ds d e)) ∧ (∀ e, k ≤ e → e < n → repDM a e (ds e)) ∧ fr (fun j => 133 ≤ j ∧ j ≤ 138) σ a) (n - 1) (fun q => ∃ σ', q = some (nI (n - 1), σ') ∧ (∀ e, e < n - 1 → repDM σ' e (rem ds d e)) ∧ fr (fun j => 133 ≤ j ∧ j ≤ 138) σ σ') (fun k hk m a ha => ?_) (fun m a ha => ?_) (n - 1 - d) d FU σ (by omega) (by unfold FU; omega) ⟨Nat.le_refl _, fun e he _ => ?_, fun e _ he => hr e he, fr.rf⟩
  · exact key
  · obtain ⟨i0, i1, i2, i3⟩ := ha
    left
    obtain ⟨m1, m2, m3, m4, m5, m6⟩ := i2 (k + 1) (by omega) (by omega)
    have hs : a.1 132 6 = nI (n - 1) := by rw [(i3 132 (by omega)).1]; exact h6
    obtain ⟨s1, e1, t1, t2, t3, t4, t5, t6, e2⟩ := put_ok (d := k) (by omega) (nI (dDay (ds (k + 1)))) (nI (dFirm (ds (k + 1)))) (nI (dKind (ds (k + 1)))) (nI (dFrom (ds (k + 1)))) (nI (dTo (ds (k + 1)))) (nI (dAmt (ds (k + 1)))) a
    refine ⟨s1, ⟨by omega, fun e he he2 => ?_, fun e he he2 => ?_, i3.tr e2⟩, ?_⟩
    · unfold repDM
      rw [t1, t2, t3, t4, t5, t6]
      by_cases q : e = k
      · subst q
        have : rem ds d e = ds (e + 1) := by unfold rem sk; rw [if_neg (by omega)]
        rw [this, up_s, up_s, up_s, up_s, up_s, up_s]
        exact ⟨rfl, rfl, rfl, rfl, rfl, rfl⟩
      · rw [up_n _ _ q, up_n _ _ q, up_n _ _ q, up_n _ _ q, up_n _ _ q, up_n _ _ q]
        exact i1 e (by omega) he2
    · unfold repDM
      have q : e ≠ k := by omega
      rw [t1, t2, t3, t4, t5, t6, up_n _ _ q, up_n _ _ q, up_n _ _ q, up_n _ _ q, up_n _ _ q, up_n _ _ q]
      exact i2 e (by omega) he2
    · rw [L_X7_cancel_36]
      simp (disch := omega) only [li0, li1, li2, li3, li4, li5, li6, li7, li8, li9, li10, li15, li31, li32, li40, li41, li49, li50, li99, li100, li999, c_le, c_lt, c_eq, c_tn, c_inb, c_add, hs, show ¬ n - 1 ≤ k by omega, show k + 1 < 41 by omega, m1, m2, m3, m4, m5, m6, e1, Option.bind_some, if_true, if_false, ite_true, ite_false, ↓reduceIte, Nat.le_refl, Nat.lt_irrefl, Nat.reduceAdd, Nat.reduceLeDiff, Nat.reduceLT, Nat.reduceEqDiff, Bool.false_eq_true]
  · obtain ⟨i0, i1, i2, i3⟩ := ha
    refine ⟨a, ?_, fun e he => i1 e he he, i3⟩
    have hs : a.1 132 6 = nI (n - 1) := by rw [(i3 132 (by omega)).1]; exact h6
    rw [L_X7_cancel_36]
    simp (disch := omega) only [li0, li1, li2, li3, li4, li5, li6, li7, li8, li9, li10, li15, li31, li32, li40, li41, li49, li50, li99, li100, li999, c_le, c_lt, c_eq, c_tn, c_inb, c_add, hs, if_true, if_false, ite_true, ite_false, ↓reduceIte, Nat.le_refl, Nat.lt_irrefl, Nat.reduceAdd, Nat.reduceLeDiff, Nat.reduceLT, Nat.reduceEqDiff, Bool.false_eq_true]
  · have : rem ds d e = ds e := by unfold rem sk; rw [if_pos he]
    rw [this]
    exact hr e (by omega)
theorem q_cancel {B : Bk} {σ : Sg} (hB : okB B) (hr : repB 1 σ B) (hM : repMB σ B) (hc : cacheOK σ B) (x1 : Int32) : OP B σ (f_X6_cancel x1 σ) (f_X7_cancel x1) := by
  rcases deal_c hB hr hM x1 with ⟨u1, v1⟩ | ⟨u1, v1, d, hd, rfl⟩
  · refine OP.same hB hr hM hc (r := -1) ?_ ?_
    · unfold f_X6_cancel; rw [u1, Option.bind_some, if_pos rfl]
    · unfold f_X7_cancel; rw [v1, Option.bind_some, if_pos rfl]
  obtain ⟨b1, b2, b3, b4, b5, b6, b7, b8⟩ := id hB
  have hbt : ∀ e, e < bN B → ((nI e = nI d) = (decide (e = d) = true)) := fun e he => by
    rw [c_eq (by omega) (by omega)]
    exact propext (decide_eq_true_iff).symm
  obtain ⟨s1, e1, e2⟩ := sound_ok (but := nI d) (bt := fun e => decide (e = d)) (by omega) hr.1 b2 b3 hbt
  have w : ∀ j, ¬ inH 39 j → s1.1 j = σ.1 j := fun j hj => (e1 j hj).1
  have hM1 : repMB s1 B := ⟨hM.1.kept (fun j a _ => w j (by unfold inH; omega)), by rw [w 132 (by unfold inH; omega)]; exact hM.2.1, by rw [w 139 (by unfold inH; omega)]; exact hM.2.2⟩
  have r1 : repB 1 s1 B := hr.kept (fun j a b => w j (by unfold inH; omega))
  have bt9 : runS (bD B) (bO B) (fun e => !decide (e = d) && decide (dDay (bD B e) ≤ 999)) (bN B) = runS (bD B) (bO B) (fun e => !decide (e = d)) (bN B) :=
    runS_congr (fun k hk => ⟨rfl, by simp [(b2 _ (b3 k hk).1).1]⟩)
  have hd7 : ∀ τ : Sg, τ.1 132 6 = σ.1 132 6 → f_X7_isDeal (nI d) τ = some 1 := fun τ ht => by
    have : f_X7_isDeal (nI d) τ = f_X7_isDeal (nI d) σ := by unfold f_X7_isDeal; rw [ht]
    rw [this]; exact v1
  cases hrun : runS (bD B) (bO B) (fun e => !decide (e = d)) (bN B) with
  | none =>
    rw [hrun] at e2
    obtain ⟨s2, g1, g2⟩ := lay_ok (σ := s1) (but := nI d) (bt := fun e => decide (e = d)) (last := 999) (by omega) (by omega) hM1.1 b2 b3 hbt
    rw [bt9, hrun] at g2
    have v : ∀ j, ¬ inO j → s2.1 j = s1.1 j ∧ s2.2 j = s1.2 j := fun j hj => g1 j hj
    refine ⟨-5, s1, s2, B, ?_, ?_, hB, r1.kept (fun j a b => (v j (by unfold inO; omega)).1), ?_, ?_, ?_, fun y _ _ => ?_, Or.inl ⟨⟨rfl, rfl, rfl, rfl, rfl⟩, ?_⟩⟩
    · unfold f_X6_cancel
      rw [u1, Option.bind_some, if_neg n10, e2, Option.bind_some, if_pos rfl]
    · unfold f_X7_cancel
      rw [hd7 s1 (by rw [w 132 (by unfold inH; omega)]), Option.bind_some, if_neg n10, show f_X7_lay 999 (nI d) s1 = _ from g2, Option.bind_some, if_pos rfl]
    · exact hM1.kp ⟨g1.mono (fun j hj => by unfold inO at hj; unfold inKM; omega), fun y _ => by rw [(v 132 (by unfold inO; omega)).1]⟩
    · refine fr.cache (σ := σ) hc (fun j h1 h2 h3 => ?_) ?_
      · have a := e1 j h3
        have b := v j (by unfold inO; omega)
        exact ⟨b.1.trans a.1, b.2.trans a.2⟩
      · rw [(v 0 (by unfold inO; omega)).1, w 0 (by unfold inH; omega)]
    · exact (e1.mono (fun j hj => by unfold inH at hj; unfold inOP; omega)).tr (g1.mono (fun j hj => by unfold inO at hj; unfold inOP; omega))
    · rw [(v 0 (by unfold inO; omega)).1, w 0 (by unfold inH; omega)]
    · rw [(v 0 (by unfold inO; omega)).1, w 0 (by unfold inH; omega)]
  | some H =>
    rw [hrun] at e2
    obtain ⟨s3, o', a1, a2, a3, a4, a5⟩ := strike_ok (b := 1) (σ := s1) (n := bN B) (d := d) (by omega) hd r1.1 b2
    obtain ⟨s4, g1, g2, g3, g4, g5⟩ := changed_ok s3
    have w4 : ∀ j, 9 ≤ j → s4.1 j = s1.1 j := fun j hj => by rw [(g5 j (by omega)).1, (a5 j (by unfold inB; omega)).1]
    have hM4 : repMB s4 B := ⟨hM1.1.kept (fun j a _ => w4 j (by omega)), by rw [w4 132 (by omega)]; exact hM1.2.1, by rw [w4 139 (by omega)]; exact hM1.2.2⟩
    obtain ⟨s5, k1, k2⟩ := lay_ok (σ := s4) (but := nI d) (bt := fun e => decide (e = d)) (last := 999) (by omega) (by omega) hM4.1 b2 b3 hbt
    rw [bt9, hrun] at k2
    have v5 : ∀ j, ¬ inO j → s5.1 j = s4.1 j := fun j hj => (k1 j hj).1
    obtain ⟨s6, hs6⟩ : ∃ s6, s6 = setR s5 132 (upd (s5.1 132) 6 (nI (bN B - 1))) := ⟨_, rfl⟩
    have h56 : s5.1 132 6 = nI (bN B) := by rw [v5 132 (by unfold inO; omega)]; exact hM4.1.1
    have rd6 : ∀ e, e < bN B → repDM s6 e (bD B e) := fun e he => by
      have := hM4.1.2 e he
      unfold repDM at this ⊢
      rw [hs6]
      simp (disch := omega) only [sR_s, sR_n, sL_s, sL_n, sR_2, sL_1, up_s, up_n]
      rw [v5 133 (by unfold inO; omega), v5 134 (by unfold inO; omega), v5 135 (by unfold inO; omega), v5 136 (by unfold inO; omega), v5 137 (by unfold inO; omega), v5 138 (by unfold inO; omega)]
      exact this
    obtain ⟨s7, c1, c2, c3⟩ := canc36 (σ := s6) (n := bN B) (d := d) b1 hd (by rw [hs6, sR_s, up_s]) rd6
    have z7 : s7.1 132 = upd (s5.1 132) 6 (nI (bN B - 1)) := by rw [(c3 132 (by omega)).1, hs6, sR_s]
    have v7 : ∀ j, ¬ inO j → j ≠ 132 → ¬ (133 ≤ j ∧ j ≤ 138) → s7.1 j = s4.1 j := fun j h1 h2 h3 => by
      rw [(c3 j h3).1, hs6, sR_n _ _ h2, v5 j h1]
    have f7 : fr inOP σ s7 := by
      have q1 : fr inOP σ s1 := e1.mono (fun j hj => by unfold inH at hj; unfold inOP; omega)
      have q2 : fr inOP s1 s3 := a5.mono (fun j hj => Or.inr (Or.inl hj))
      have q3 : fr inOP s3 s4 := g5.mono (fun j hj => Or.inl hj)
      have q4 : fr inOP s4 s5 := k1.mono (fun j hj => by unfold inO at hj; unfold inOP; omega)
      have q5 : fr inOP s5 s6 := by
        rw [hs6]
        exact fr.setR (by unfold inOP; omega)
      have q6 : fr inOP s6 s7 := c3.mono (fun j hj => by unfold inOP; omega)
      exact q1.tr (q2.tr (q3.tr (q4.tr (q5.tr q6))))
    have hrem : runS (rem (bD B) d) o' (fun _ => true) (bN B - 1) = some H := by rw [← runS_rem hd b3 a3]; exact hrun
    refine ⟨nI (bN B - 1), s4, s7, (bN B - 1, rem (bD B) d, o', bL B, bH B, bM B, bW B), ?_, ?_, ⟨show bN B - 1 ≤ 40 by omega, fun i hi => b2 _ (sk_lt hi), a3, b4, b5, b6, b7, H, hrem⟩, ?_, ?_, Or.inl ?_, f7, fun y h1 h2 => ?_, Or.inr ?_⟩
    · unfold f_X6_cancel
      rw [u1, Option.bind_some, if_neg n10, e2.1, Option.bind_some, if_neg n10]
      show Option.bind (f_X0_strike 1 (nI d) s1) _ = _
      rw [a1, Option.bind_some, g1, Option.bind_some, (g5 1 (by omega)).1, a2.1]
    · unfold f_X7_cancel
      rw [hd7 s4 (by rw [w4 132 (by omega), w 132 (by unfold inH; omega)]), Option.bind_some, if_neg n10, show f_X7_lay 999 (nI d) s4 = _ from k2.1, Option.bind_some, if_neg n10]
      show Option.bind (L_X7_cancel_36 FU (nI d) (setR s5 132 (upd (s5.1 132) 6 (s5.1 132 6 - 1)))) _ = _
      rw [h56, li1, c_sub (by omega), ← hs6, c1, Option.bind_some, z7, up_s]
    · refine ⟨a2.kept (fun j h1 h2 => by rw [v7 j (by unfold inO; omega) (by omega) (by omega), (g5 j (by omega)).1]), ?_⟩
      rw [v7 1 (by unfold inO; omega) (by omega) (by omega), (g5 1 (by omega)).1]
      exact slots_of (B := B) r1 a4
    · refine ⟨⟨by rw [z7, up_s], c2⟩, by rw [z7, up_n _ _ (by omega), v5 132 (by unfold inO; omega)]; exact hM4.2.1, ?_⟩
      rw [v7 139 (by unfold inO; omega) (by omega) (by omega)]
      exact hM4.2.2
    · rw [v7 0 (by unfold inO; omega) (by omega) (by omega)]; exact g2
    · rw [v7 0 (by unfold inO; omega) (by omega) (by omega), g4 y h1 h2, (a5 0 (by unfold inB; omega)).1, w 0 (by unfold inH; omega)]
    · rw [v7 0 (by unfold inO; omega) (by omega) (by omega)]; exact g3
