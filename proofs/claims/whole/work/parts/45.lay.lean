/-! ALL DEALS DONE, by the reference (lay) and by the component (isSoundWithout) -/
theorem c_div {a d : Nat} (ha : a < 2147483648) (h0 : 0 < d) (hd : d < 2147483648) : nI a / nI d = nI (a / d) := pk_div ha h0 hd
theorem c_rem {a d : Nat} (ha : a < 2147483648) (h0 : 0 < d) (hd : d < 2147483648) : nI a - nI a / nI d * nI d = nI (a % d) := pk_rem ha h0 hd
theorem place_ok {n d : Nat} {dy : Nat → Nat} {σ : Sg} (hn : n ≤ 41) (hs : σ.1 132 6 = nI n) (hdy : ∀ d, d < n → σ.1 133 d = nI (dy d) ∧ dy d < 2000) (hd : d < n) : f_X7_placeOf (nI d) σ = some (nI (rk dy n d)) := by
  have h := run_FU (fun m k => L_X7_placeOf_4 (nI d) σ m (nI (cnt (fun e => lx dy e d) k)) (nI k)) n (some (nI (rk dy n d), nI n)) (by omega) (fun k hk m => by
    have w1 := hdy k hk
    have w2 := hdy d hd
    show L_X7_placeOf_4 (nI d) σ (m + 1) (nI (cnt (fun e => lx dy e d) k)) (nI k) = _
    rw [L_X7_placeOf_4]
    simp (disch := omega) only [li0, li1, li2, li3, li4, li5, li6, li7, li8, li9, li10, li15, li31, li32, li40, li41, li49, li50, li99, li100, li999, c_le, c_lt, c_eq, c_tn, c_inb, c_add, hs, show ¬ n ≤ k by omega, show k < 41 by omega, show d < 41 by omega, w1.1, w2.1, if_true, if_false, ite_true, ite_false, ↓reduceIte, Nat.le_refl, Nat.lt_irrefl, Nat.reduceAdd, Nat.reduceLeDiff, Nat.reduceLT, Nat.reduceEqDiff, Bool.false_eq_true]
    by_cases c1 : dy k < dy d
    · have : lx dy k d = true := by rw [lx_iff]; omega
      simp (disch := omega) only [li0, li1, li2, li3, li4, li5, li6, li7, li8, li9, li10, li15, li31, li32, li40, li41, li49, li50, li99, li100, li999, c_le, c_lt, c_eq, c_tn, c_inb, c_add, c1, Option.bind_some, cnt, this, if_true, if_false, ite_true, ite_false, ↓reduceIte, Nat.le_refl, Nat.lt_irrefl, Nat.reduceAdd, Nat.reduceLeDiff, Nat.reduceLT, Nat.reduceEqDiff, Bool.false_eq_true]
    · by_cases c2 : dy k = dy d
      · by_cases c3 : d ≤ k
        · have : ¬ lx dy k d = true := by rw [lx_iff]; omega
          simp only [Bool.not_eq_true] at this
          simp (disch := omega) only [li0, li1, li2, li3, li4, li5, li6, li7, li8, li9, li10, li15, li31, li32, li40, li41, li49, li50, li99, li100, li999, c_le, c_lt, c_eq, c_tn, c_inb, c_add, c1, c2, c3, Option.bind_some, cnt, this, Nat.lt_irrefl, Bool.false_eq_true, if_true, if_false, ite_true, ite_false, ↓reduceIte, Nat.le_refl, Nat.lt_irrefl, Nat.reduceAdd, Nat.reduceLeDiff, Nat.reduceLT, Nat.reduceEqDiff, Bool.false_eq_true]
        · have : lx dy k d = true := by rw [lx_iff]; omega
          simp (disch := omega) only [li0, li1, li2, li3, li4, li5, li6, li7, li8, li9, li10, li15, li31, li32, li40, li41, li49, li50, li99, li100, li999, c_le, c_lt, c_eq, c_tn, c_inb, c_add, c1, c2, c3, Option.bind_some, cnt, this, Nat.lt_irrefl, if_true, if_false, ite_true, ite_false, ↓reduceIte, Nat.le_refl, Nat.lt_irrefl, Nat.reduceAdd, Nat.reduceLeDiff, Nat.reduceLT, Nat.reduceEqDiff, Bool.false_eq_true]
      · have : ¬ lx dy k d = true := by rw [lx_iff]; omega
        simp only [Bool.not_eq_true] at this
        simp (disch := omega) only [li0, li1, li2, li3, li4, li5, li6, li7, li8, li9, li10, li15, li31, li32, li40, li41, li49, li50, li99, li100, li999, c_le, c_lt, c_eq, c_tn, c_inb, c_add, c1, c2, Option.bind_some, cnt, this, Bool.false_eq_true, if_true, if_false, ite_true, ite_false, ↓reduceIte, Nat.le_refl, Nat.lt_irrefl, Nat.reduceAdd, Nat.reduceLeDiff, Nat.reduceLT, Nat.reduceEqDiff, Bool.false_eq_true]) (fun m => by
    show L_X7_placeOf_4 (nI d) σ (m + 1) _ (nI n) = _
    rw [L_X7_placeOf_4]
    simp (disch := omega) only [li0, li1, li2, li3, li4, li5, li6, li7, li8, li9, li10, li15, li31, li32, li40, li41, li49, li50, li99, li100, li999, c_le, c_lt, c_eq, c_tn, c_inb, c_add, hs, if_true, if_false, ite_true, ite_false, ↓reduceIte, Nat.le_refl, Nat.lt_irrefl, Nat.reduceAdd, Nat.reduceLeDiff, Nat.reduceLT, Nat.reduceEqDiff, Bool.false_eq_true]
    rfl)
  unfold f_X7_placeOf
  have h' : L_X7_placeOf_4 (nI d) σ FU 0 0 = some (nI (rk dy n d), nI n) := h
  rw [h']
  rfl
def inO (j : Nat) : Prop := 139 < j ∧ j < 144
theorem beginM_ok {n : Nat} {dy : Nat → Nat} {σ : Sg} (hn : n ≤ 41) (hs : σ.1 132 6 = nI n) (hdy : ∀ d, d < n → σ.1 133 d = nI (dy d) ∧ dy d < 2000) : ∃ σ', f_X7_begin σ = some σ' ∧ (∀ o, ordOK dy n o → ∀ k, k < n → σ'.1 140 k = nI (o k)) ∧ repM σ' H0 ∧ fr inO σ σ' := by
  refine ex_use (loop_inv (fun m k a => L_X7_begin_2 m (nI k) a) (fun k a => (∀ e, e < k → a.1 140 (rk dy n e) = nI e) ∧ fr (fun j => j = 140) σ a) n (fun a => (nI n, a)) (by omega) (fun k hk m a ha => ?_) (fun m a ha => ?_) σ ⟨fun j hj => absurd hj (by omega), fr.rf⟩) (fun σ1 h1 h2 => ?_)
  · obtain ⟨i1, i2⟩ := ha
    have hs' : a.1 132 6 = nI n := by rw [(i2 132 (by omega)).1]; exact hs
    have hp := place_ok (σ := a) hn hs' (fun d hd => by rw [(i2 133 (by omega)).1]; exact hdy d hd) hk
    have hb := rk_bd (dy := dy) hk
    refine ⟨_, (by rw [L_X7_begin_2]; simp (disch := omega) only [li0, li1, li2, li3, li4, li5, li6, li7, li8, li9, li10, li15, li31, li32, li40, li41, li49, li50, li99, li100, li999, c_le, c_lt, c_eq, c_tn, c_inb, c_add, hs', show ¬ n ≤ k by omega, hp, Option.bind_some, show rk dy n k < 41 by omega, jn, if_true, if_false, ite_true, ite_false, ↓reduceIte, Nat.le_refl, Nat.lt_irrefl, Nat.reduceAdd, Nat.reduceLeDiff, Nat.reduceLT, Nat.reduceEqDiff, Bool.false_eq_true]; rfl), fun e he => ?_, fr.tr i2 (fr.setR rfl)⟩
    by_cases c : e = k
    · subst c; simp (disch := omega) only [sR_s, sR_n, sL_s, sL_n, sR_2, sL_1, up_s, up_n]
    · have : rk dy n e ≠ rk dy n k := fun q => c (rk_inj (by omega) hk q)
      simp (disch := omega) only [sR_s, sR_n, sL_s, sL_n, sR_2, sL_1, up_s, up_n, this]
      exact i1 e (by omega)
  · obtain ⟨i1, i2⟩ := ha
    have hs' : a.1 132 6 = nI n := by rw [(i2 132 (by omega)).1]; exact hs
    show L_X7_begin_2 (m + 1) (nI n) a = _
    rw [L_X7_begin_2]
    simp (disch := omega) only [li0, li1, li2, li3, li4, li5, li6, li7, li8, li9, li10, li15, li31, li32, li40, li41, li49, li50, li99, li100, li999, c_le, c_lt, c_eq, c_tn, c_inb, c_add, hs', if_true, if_false, ite_true, ite_false, ↓reduceIte, Nat.le_refl, Nat.lt_irrefl, Nat.reduceAdd, Nat.reduceLeDiff, Nat.reduceLT, Nat.reduceEqDiff, Bool.false_eq_true]
  · refine ex_use (loop_inv (fun m k a => L_X7_begin_29 m (nI k) a) (fun k a => (∀ j, j < k → a.1 141 j = nI (if j / 5 = 9 then 100 else 0) ∧ a.1 142 j = nI (if j / 5 = 9 then 100 else 0) ∧ a.1 143 j = nI 0) ∧ fr inM σ1 a) 50 (fun a => (nI 50, a)) (by decide) (fun k hk m a ha => ?_) (fun m a ha => ?_) σ1 ⟨fun j hj => absurd hj (by omega), fr.rf⟩) (fun σ2 h3 h4 => ?_)
    · obtain ⟨i1, i2⟩ := ha
      refine ⟨_, (by rw [L_X7_begin_29]; simp (disch := omega) only [li0, li1, li2, li3, li4, li5, li6, li7, li8, li9, li10, li15, li31, li32, li40, li41, li49, li50, li99, li100, li999, c_le, c_lt, c_eq, c_tn, c_inb, c_add, show ¬ 50 ≤ k by omega, hk, jn, c_div, vn_0, if_true, if_false, ite_true, ite_false, ↓reduceIte, Nat.le_refl, Nat.lt_irrefl, Nat.reduceAdd, Nat.reduceLeDiff, Nat.reduceLT, Nat.reduceEqDiff, Bool.false_eq_true]; rfl), fun j hj => ?_, fr.tr (fr.tr (fr.tr i2 (fr.setR (by unfold inM; omega))) (fr.setR (by unfold inM; omega))) (fr.setR (by unfold inM; omega))⟩
      by_cases c : j = k
      · subst c
        simp (disch := omega) only [sR_s, sR_n, sL_s, sL_n, sR_2, sL_1, up_s, up_n]
        refine ⟨?_, ?_, trivial⟩ <;> (split <;> rfl)
      · simp (disch := omega) only [sR_s, sR_n, sL_s, sL_n, sR_2, sL_1, up_s, up_n]
        exact i1 j (by omega)
    · show L_X7_begin_29 (m + 1) (nI 50) a = _
      rw [L_X7_begin_29]
      simp (disch := omega) only [li0, li1, li2, li3, li4, li5, li6, li7, li8, li9, li10, li15, li31, li32, li40, li41, li49, li50, li99, li100, li999, c_le, c_lt, c_eq, c_tn, c_inb, c_add, if_true, if_false, ite_true, ite_false, ↓reduceIte, Nat.le_refl, Nat.lt_irrefl, Nat.reduceAdd, Nat.reduceLeDiff, Nat.reduceLT, Nat.reduceEqDiff, Bool.false_eq_true]
    · refine ⟨σ2, ?_, fun o ho k hk => ?_, fun f hf k hk => ?_, ?_⟩
      · unfold f_X7_begin
        rw [show (0 : Int32) = nI 0 from rfl, h2, Option.bind_some]
        rw [h4]
        rfl
      · rw [(h3.2 140 (by unfold inM; omega)).1]
        have := h1.1 (o k) (ho k hk).1
        rw [(ho k hk).2] at this
        exact this
      · have := h3.1 (5 * k + f) (by omega)
        have w : ((5 * k + f) / 5 = 9) = (k = 9) := by
          apply propext
          omega
        simp only [w] at this
        refine ⟨this.1, this.2.1, this.2.2⟩
      · exact fr.tr (h1.2.mono (fun j hj => by unfold inO; omega)) (h3.2.mono (fun j hj => by unfold inO inM at *; omega))
/-- the first k places of the order, but those that are left out -/
def runS (ds : Nat → Dl) (o : Nat → Nat) (ok : Nat → Bool) : Nat → Option Hd
  | 0 => some H0
  | k + 1 => (runS ds o ok k).bind (fun H => if ok (o k) then doD (ds (o k)) H else some H)
theorem runS_none {ds : Nat → Dl} {o : Nat → Nat} {ok : Nat → Bool} {k : Nat} (h : runS ds o ok k = none) : ∀ {n : Nat}, k ≤ n → runS ds o ok n = none
  | 0, hn => by rw [show k = 0 by omega] at h; exact h
  | n + 1, hn => by
    by_cases e : k = n + 1
    · rw [← e]; exact h
    · simp only [runS]
      rw [runS_none h (show k ≤ n by omega)]
      rfl
theorem runS_ok {ds : Nat → Dl} {o : Nat → Nat} {ok : Nat → Bool} {n : Nat} (hd : ∀ k, k < n → okD (ds (o k))) : ∀ {k : Nat} {H : Hd}, k ≤ n → runS ds o ok k = some H → okH H
  | 0, H, _, h => by cases h; exact okH0
  | k + 1, H, hk, h => by
    simp only [runS] at h
    cases e : runS ds o ok k with
    | none => rw [e] at h; cases h
    | some H1 =>
      rw [e] at h
      have i := runS_ok hd (show k ≤ n by omega) e
      simp only [Option.bind_some] at h
      split at h
      · exact doD_ok (hd k (by omega)) i h
      · cases h; exact i
/-- the deals of the reference, of a book -/
def repMd (σ : Sg) (n : Nat) (ds : Nat → Dl) : Prop := σ.1 132 6 = nI n ∧ ∀ d, d < n → repDM σ d (ds d)
theorem repMd.kept {σ σ' : Sg} {n : Nat} {ds : Nat → Dl} (h : repMd σ n ds) (h2 : ∀ j, 132 ≤ j → j ≤ 138 → σ'.1 j = σ.1 j) : repMd σ' n ds := by
  refine ⟨by rw [h2 132 (by omega) (by omega)]; exact h.1, fun d hd => ?_⟩
  unfold repDM
  rw [h2 133 (by omega) (by omega), h2 134 (by omega) (by omega), h2 135 (by omega) (by omega), h2 136 (by omega) (by omega), h2 137 (by omega) (by omega), h2 138 (by omega) (by omega)]
  exact h.2 d hd
theorem lay_ok {n last : Nat} {ds : Nat → Dl} {o : Nat → Nat} {σ : Sg} {but : Int32} {bt : Nat → Bool} (hn : n ≤ 41) (hlast : last < 2000) (hr : repMd σ n ds) (hx : ∀ d, d < n → okD (ds d)) (ho : ordOK (fun d => dDay (ds d)) n o) (hbt : ∀ e, e < n → ((nI e = but) = (bt e = true))) :
    ∃ σ', fr inO σ σ' ∧ match runS ds o (fun e => !bt e && decide (dDay (ds e) ≤ last)) n with
      | some H => f_X7_lay (nI last) but σ = some (1, σ') ∧ repM σ' H ∧ okH H
      | none => f_X7_lay (nI last) but σ = some (0, σ') := by
  have hdy : ∀ d, d < n → σ.1 133 d = nI (dDay (ds d)) ∧ dDay (ds d) < 2000 := fun d hd => ⟨(hr.2 d hd).1, by have := (hx d hd).1; omega⟩
  obtain ⟨σ1, e1, e2, e3, e4⟩ := beginM_ok hn hr.1 hdy
  have hok : ∀ k, k < n → okD (ds (o k)) := fun k hk => hx _ (ho k hk).1
  have key := run_invFU (fun m k a => L_X7_lay_6 (nI last) but m (nI k) a) (fun k a => ∃ H, runS ds o (fun e => !bt e && decide (dDay (ds e) ≤ last)) k = some H ∧ repM a H ∧ fr inM σ1 a) n
    (fun q => ∃ σ', fr inO σ σ' ∧ match runS ds o (fun e => !bt e && decide (dDay (ds e) ≤ last)) n with
      | some H => q = some (.inr (nI n, σ')) ∧ repM σ' H ∧ okH H
      | none => q = some (.inl (0, σ'))) (by omega) (fun k hk m a ha => ?_) (fun m a ha => ?_) σ1 ⟨H0, rfl, e3, fr.rf⟩
  · obtain ⟨σ', f1, f2⟩ := key
    refine ⟨σ', f1, ?_⟩
    unfold f_X7_lay
    rw [show (0 : Int32) = nI 0 from rfl, e1, Option.bind_some]
    revert f2
    cases runS ds o (fun e => !bt e && decide (dDay (ds e) ≤ last)) n with
    | none => intro f2; dsimp only at f2 ⊢; rw [f2]; rfl
    | some H => intro f2; dsimp only at f2 ⊢; rw [f2.1]; exact ⟨rfl, f2.2⟩
  · obtain ⟨H, i1, i2, i3⟩ := ha
    have iH := runS_ok hok (show k ≤ n by omega) i1
    have hr' : repMd a n ds := hr.kept (fun j h1 h2 => by rw [(i3 j (by unfold inM; omega)).1, (e4 j (by unfold inO; omega)).1])
    have ok1 := ho k hk
    have w1 : a.1 140 k = nI (o k) := by rw [(i3 140 (by unfold inM; omega)).1]; exact e2 o ho k hk
    have w2 := hr'.2 (o k) ok1.1
    have w3 := hx (o k) ok1.1
    have w4 := w3.1
    have w5 : (nI (o k) = but) = (bt (o k) = true) := hbt _ ok1.1
    by_cases c1 : bt (o k) = true
    · left
      refine ⟨a, ⟨H, ?_, i2, i3⟩, ?_⟩
      · simp only [runS, i1, Option.bind_some, c1]; rfl
      · show L_X7_lay_6 (nI last) but (m + 1) (nI k) a = _
        rw [L_X7_lay_6]
        simp (disch := omega) only [li0, li1, li2, li3, li4, li5, li6, li7, li8, li9, li10, li15, li31, li32, li40, li41, li49, li50, li99, li100, li999, c_le, c_lt, c_eq, c_tn, c_inb, c_add, hr'.1, show ¬ n ≤ k by omega, show k < 41 by omega, w1, w5, c1, if_true, if_false, ite_true, ite_false, ↓reduceIte, Nat.le_refl, Nat.lt_irrefl, Nat.reduceAdd, Nat.reduceLeDiff, Nat.reduceLT, Nat.reduceEqDiff, Bool.false_eq_true]
    · by_cases c2 : last < dDay (ds (o k))
      · left
        refine ⟨a, ⟨H, ?_, i2, i3⟩, ?_⟩
        · simp only [runS, i1, Option.bind_some, show ¬ dDay (ds (o k)) ≤ last by omega, decide_false, Bool.and_false]; rfl
        · show L_X7_lay_6 (nI last) but (m + 1) (nI k) a = _
          rw [L_X7_lay_6]
          simp (disch := omega) only [li0, li1, li2, li3, li4, li5, li6, li7, li8, li9, li10, li15, li31, li32, li40, li41, li49, li50, li99, li100, li999, c_le, c_lt, c_eq, c_tn, c_inb, c_add, hr'.1, show ¬ n ≤ k by omega, show k < 41 by omega, w1, w5, c1, show o k < 41 by omega, w2.1, c2, if_true, if_false, ite_true, ite_false, ↓reduceIte, Nat.le_refl, Nat.lt_irrefl, Nat.reduceAdd, Nat.reduceLeDiff, Nat.reduceLT, Nat.reduceEqDiff, Bool.false_eq_true]
      · have hrun : runS ds o (fun e => !bt e && decide (dDay (ds e) ≤ last)) (k + 1) = doD (ds (o k)) H := by
          simp only [Bool.not_eq_true] at c1
          simp only [runS, i1, Option.bind_some, c1, show dDay (ds (o k)) ≤ last by omega, decide_true]; rfl
        cases hd : doD (ds (o k)) H with
        | some H' =>
          obtain ⟨σ', s1, s2, s3⟩ := does_some (show o k < 41 by omega) w2 w3 i2 iH hd
          left
          refine ⟨σ', ⟨H', hrun.trans hd, s2, i3.tr s3⟩, ?_⟩
          show L_X7_lay_6 (nI last) but (m + 1) (nI k) a = _
          rw [L_X7_lay_6]
          simp (disch := omega) only [li0, li1, li2, li3, li4, li5, li6, li7, li8, li9, li10, li15, li31, li32, li40, li41, li49, li50, li99, li100, li999, c_le, c_lt, c_eq, c_tn, c_inb, c_add, hr'.1, show ¬ n ≤ k by omega, show k < 41 by omega, w1, w5, c1, show o k < 41 by omega, w2.1, c2, s1, Option.bind_some, Nat.one_ne_zero, if_true, if_false, ite_true, ite_false, ↓reduceIte, Nat.le_refl, Nat.lt_irrefl, Nat.reduceAdd, Nat.reduceLeDiff, Nat.reduceLT, Nat.reduceEqDiff, Bool.false_eq_true]
        | none =>
          have s1 := does_none (show o k < 41 by omega) w2 w3 i2 iH hd
          right
          refine ⟨a, e4.tr (i3.mono (fun j hj => by unfold inO inM at *; omega)), ?_⟩
          rw [runS_none (hrun.trans hd) (show k + 1 ≤ n by omega)]
          show L_X7_lay_6 (nI last) but (m + 1) (nI k) a = _
          rw [L_X7_lay_6]
          simp (disch := omega) only [li0, li1, li2, li3, li4, li5, li6, li7, li8, li9, li10, li15, li31, li32, li40, li41, li49, li50, li99, li100, li999, c_le, c_lt, c_eq, c_tn, c_inb, c_add, hr'.1, show ¬ n ≤ k by omega, show k < 41 by omega, w1, w5, c1, show o k < 41 by omega, w2.1, c2, s1, Option.bind_some, if_true, if_false, ite_true, ite_false, ↓reduceIte, Nat.le_refl, Nat.lt_irrefl, Nat.reduceAdd, Nat.reduceLeDiff, Nat.reduceLT, Nat.reduceEqDiff, Bool.false_eq_true]
  · obtain ⟨H, i1, i2, i3⟩ := ha
    have hr' : repMd a n ds := hr.kept (fun j h1 h2 => by rw [(i3 j (by unfold inM; omega)).1, (e4 j (by unfold inO; omega)).1])
    refine ⟨a, e4.tr (i3.mono (fun j hj => by unfold inO inM at *; omega)), ?_⟩
    rw [i1]
    refine ⟨?_, i2, runS_ok hok (Nat.le_refl n) i1⟩
    show L_X7_lay_6 (nI last) but (m + 1) (nI n) a = _
    rw [L_X7_lay_6]
    simp (disch := omega) only [li0, li1, li2, li3, li4, li5, li6, li7, li8, li9, li10, li15, li31, li32, li40, li41, li49, li50, li99, li100, li999, c_le, c_lt, c_eq, c_tn, c_inb, c_add, hr'.1, if_true, if_false, ite_true, ite_false, ↓reduceIte, Nat.le_refl, Nat.lt_irrefl, Nat.reduceAdd, Nat.reduceLeDiff, Nat.reduceLT, Nat.reduceEqDiff, Bool.false_eq_true]
/-- a book of the component: its deals and their order -/
def repBd (b : Nat) (σ : Sg) (n : Nat) (ds : Nat → Dl) (o : Nat → Nat) : Prop := σ.1 b 7 = nI n ∧ (∀ d, d < n → repD b σ d (ds d)) ∧ ∀ k, k < n → σ.1 (b + 7) k = nI (o k)
theorem repBd.kept {b : Nat} {σ σ' : Sg} {n : Nat} {ds : Nat → Dl} {o : Nat → Nat} (h : repBd b σ n ds o) (h2 : ∀ j, b ≤ j → j ≤ b + 7 → σ'.1 j = σ.1 j) : repBd b σ' n ds o := by
  refine ⟨by rw [h2 b (by omega) (by omega)]; exact h.1, fun d hd => ?_, fun k hk => by rw [h2 (b + 7) (by omega) (by omega)]; exact h.2.2 k hk⟩
  unfold repD
  rw [h2 (b + 1) (by omega) (by omega), h2 (b + 2) (by omega) (by omega), h2 (b + 3) (by omega) (by omega), h2 (b + 4) (by omega) (by omega), h2 (b + 5) (by omega) (by omega), h2 (b + 6) (by omega) (by omega)]
  exact h.2.1 d hd
theorem sound_ok {n : Nat} {ds : Nat → Dl} {o : Nat → Nat} {σ : Sg} {but : Int32} {bt : Nat → Bool} (hn : n ≤ 41) (hr : repBd 1 σ n ds o) (hx : ∀ d, d < n → okD (ds d)) (ho : ordOK (fun d => dDay (ds d)) n o) (hbt : ∀ e, e < n → ((nI e = but) = (bt e = true))) :
    ∃ σ', fr (inH 39) σ σ' ∧ match runS ds o (fun e => !bt e) n with
      | some H => f_X6_isSoundWithout but σ = some (1, σ') ∧ repC 39 σ' H ∧ okH H
      | none => f_X6_isSoundWithout but σ = some (0, σ') := by
  obtain ⟨σ1, e1, e3, e4⟩ := begin_ok 39 σ
  have hok : ∀ k, k < n → okD (ds (o k)) := fun k hk => hx _ (ho k hk).1
  have key := run_invFU (fun m k a => L_X6_isSoundWithout_9 but m (nI k) a) (fun k a => ∃ H, runS ds o (fun e => !bt e) k = some H ∧ repC 39 a H ∧ fr (inH 39) σ a) n
    (fun q => ∃ σ', fr (inH 39) σ σ' ∧ match runS ds o (fun e => !bt e) n with
      | some H => q = some (.inr (nI n, σ')) ∧ repC 39 σ' H ∧ okH H
      | none => q = some (.inl (0, σ'))) (by omega) (fun k hk m a ha => ?_) (fun m a ha => ?_) σ1 ⟨H0, rfl, e3, e4⟩
  · obtain ⟨σ', f1, f2⟩ := key
    refine ⟨σ', f1, ?_⟩
    unfold f_X6_isSoundWithout
    rw [show (0 : Int32) = nI 0 from rfl, e1, Option.bind_some]
    revert f2
    cases runS ds o (fun e => !bt e) n with
    | none => intro f2; dsimp only at f2 ⊢; rw [f2]; rfl
    | some H => intro f2; dsimp only at f2 ⊢; rw [f2.1]; exact ⟨rfl, f2.2⟩
  · obtain ⟨H, i1, i2, i3⟩ := ha
    have iH := runS_ok hok (show k ≤ n by omega) i1
    have hr' : repBd 1 a n ds o := hr.kept (fun j h1 h2 => (i3 j (by unfold inH; omega)).1)
    have ok1 := ho k hk
    have w1 : a.1 8 k = nI (o k) := hr'.2.2 k hk
    have w2 := hr'.2.1 (o k) ok1.1
    have w3 := hx (o k) ok1.1
    have w5 : (nI (o k) = but) = (bt (o k) = true) := hbt _ ok1.1
    by_cases c1 : bt (o k) = true
    · left
      refine ⟨a, ⟨H, ?_, i2, i3⟩, ?_⟩
      · simp only [runS, i1, Option.bind_some, c1]; rfl
      · show L_X6_isSoundWithout_9 but (m + 1) (nI k) a = _
        rw [L_X6_isSoundWithout_9]
        simp (disch := omega) only [li0, li1, li2, li3, li4, li5, li6, li7, li8, li9, li10, li15, li31, li32, li40, li41, li49, li50, li99, li100, li999, c_le, c_lt, c_eq, c_tn, c_inb, c_add, hr'.1, show ¬ n ≤ k by omega, show k < 41 by omega, w1, w5, c1, if_true, if_false, ite_true, ite_false, ↓reduceIte, Nat.le_refl, Nat.lt_irrefl, Nat.reduceAdd, Nat.reduceLeDiff, Nat.reduceLT, Nat.reduceEqDiff, Bool.false_eq_true]
    · have hrun : runS ds o (fun e => !bt e) (k + 1) = doD (ds (o k)) H := by
        simp only [Bool.not_eq_true] at c1
        simp only [runS, i1, Option.bind_some, c1]; rfl
      cases hd : doD (ds (o k)) H with
      | some H' =>
        obtain ⟨σ', s1, s2, s3⟩ := carry_some (show o k < 41 by omega) w2 w3 i2 iH hd
        left
        refine ⟨σ', ⟨H', hrun.trans hd, s2, i3.tr s3⟩, ?_⟩
        show L_X6_isSoundWithout_9 but (m + 1) (nI k) a = _
        rw [L_X6_isSoundWithout_9]
        simp (disch := omega) only [li0, li1, li2, li3, li4, li5, li6, li7, li8, li9, li10, li15, li31, li32, li40, li41, li49, li50, li99, li100, li999, c_le, c_lt, c_eq, c_tn, c_inb, c_add, hr'.1, show ¬ n ≤ k by omega, show k < 41 by omega, w1, w5, c1, s1, Option.bind_some, Nat.one_ne_zero, if_true, if_false, ite_true, ite_false, ↓reduceIte, Nat.le_refl, Nat.lt_irrefl, Nat.reduceAdd, Nat.reduceLeDiff, Nat.reduceLT, Nat.reduceEqDiff, Bool.false_eq_true]
      | none =>
        have s1 := carry_none (show o k < 41 by omega) w2 w3 i2 iH hd
        right
        refine ⟨a, i3, ?_⟩
        rw [runS_none (hrun.trans hd) (show k + 1 ≤ n by omega)]
        show L_X6_isSoundWithout_9 but (m + 1) (nI k) a = _
        rw [L_X6_isSoundWithout_9]
        simp (disch := omega) only [li0, li1, li2, li3, li4, li5, li6, li7, li8, li9, li10, li15, li31, li32, li40, li41, li49, li50, li99, li100, li999, c_le, c_lt, c_eq, c_tn, c_inb, c_add, hr'.1, show ¬ n ≤ k by omega, show k < 41 by omega, w1, w5, c1, s1, Option.bind_some, if_true, if_false, ite_true, ite_false, ↓reduceIte, Nat.le_refl, Nat.lt_irrefl, Nat.reduceAdd, Nat.reduceLeDiff, Nat.reduceLT, Nat.reduceEqDiff, Bool.false_eq_true]
  · obtain ⟨H, i1, i2, i3⟩ := ha
    have hr' : repBd 1 a n ds o := hr.kept (fun j h1 h2 => (i3 j (by unfold inH; omega)).1)
    refine ⟨a, i3, ?_⟩
    rw [i1]
    refine ⟨?_, i2, runS_ok hok (Nat.le_refl n) i1⟩
    show L_X6_isSoundWithout_9 but (m + 1) (nI n) a = _
    rw [L_X6_isSoundWithout_9]
    simp (disch := omega) only [li0, li1, li2, li3, li4, li5, li6, li7, li8, li9, li10, li15, li31, li32, li40, li41, li49, li50, li99, li100, li999, c_le, c_lt, c_eq, c_tn, c_inb, c_add, hr'.1, if_true, if_false, ite_true, ite_false, ↓reduceIte, Nat.le_refl, Nat.lt_irrefl, Nat.reduceAdd, Nat.reduceLeDiff, Nat.reduceLT, Nat.reduceEqDiff, Bool.false_eq_true]
