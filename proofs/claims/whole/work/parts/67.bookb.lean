/-! THE BOOK: copies, places, what is done by a day -/
abbrev Bk : Type := Nat × (Nat → Dl) × (Nat → Nat) × Nat × Nat × Nat × Nat
abbrev bN (B : Bk) : Nat := B.1
abbrev bD (B : Bk) : Nat → Dl := B.2.1
abbrev bO (B : Bk) : Nat → Nat := B.2.2.1
abbrev bL (B : Bk) : Nat := B.2.2.2.1
abbrev bH (B : Bk) : Nat := B.2.2.2.2.1
abbrev bM (B : Bk) : Nat := B.2.2.2.2.2.1
abbrev bW (B : Bk) : Nat := B.2.2.2.2.2.2
def repB (b : Nat) (σ : Sg) (B : Bk) : Prop := repBd b σ (bN B) (bD B) (bO B) ∧ σ.1 b 8 = nI (bL B) ∧ σ.1 b 9 = nI (bH B) ∧ σ.1 b 10 = nI (bM B) ∧ σ.1 b 11 = nI (bW B)
def okB (B : Bk) : Prop := bN B ≤ 40 ∧ (∀ d, d < bN B → okD (bD B d)) ∧ ordOK (days (bD B)) (bN B) (bO B) ∧ bL B ≤ 999 ∧ bH B < 100 ∧ bM B < 100 ∧ bW B < 100 ∧ ∃ H, runS (bD B) (bO B) (fun _ => true) (bN B) = some H
theorem repB.kept {b : Nat} {σ σ' : Sg} {B : Bk} (h : repB b σ B) (h2 : ∀ j, b ≤ j → j ≤ b + 7 → σ'.1 j = σ.1 j) : repB b σ' B := by
  refine ⟨h.1.kept h2, ?_, ?_, ?_, ?_⟩ <;> rw [h2 b (by omega) (by omega)]
  · exact h.2.1
  · exact h.2.2.1
  · exact h.2.2.2.1
  · exact h.2.2.2.2
theorem cpy41 {f g : Nat → Int32} {k : Nat} (hk : k < 41) : va_cpy f g (0 : Int32).toNatClampNeg (0 : Int32).toNatClampNeg (41 : Int32).toNatClampNeg k = f k := by
  show (if 0 ≤ k ∧ k < 0 + 41 then f (0 + (k - 0)) else g k) = f k
  rw [if_pos (by omega), Nat.zero_add, Nat.sub_zero]
theorem copy_ok {b b' : Nat} {σ : Sg} {B : Bk} (hap : b + 7 < b' ∨ b' + 7 < b) (hB : bN B ≤ 41) (hr : repB b' σ B) : ∃ σ', f_X0_copyFrom b b' σ = some σ' ∧ repB b σ' B ∧ fr (inB b) σ σ' := by
  have hc : (0 ≤ Int32.toInt 0 ∧ 0 ≤ Int32.toInt 0 ∧ 0 ≤ Int32.toInt 41) ∧ Int32.toInt 0 + Int32.toInt 41 ≤ 41 ∧ Int32.toInt 0 + Int32.toInt 41 ≤ 41 := by decide
  refine ⟨_, (by unfold f_X0_copyFrom; simp only [if_pos hc, jn]; rfl), ⟨⟨?_, fun d hd => ?_, fun k hk => ?_⟩, ?_, ?_, ?_, ?_⟩, fun j hj => ?_⟩
  · simp (disch := omega) only [sR_s, sR_n, sL_s, sL_n, sR_2, sL_1, up_s, up_n]
    exact hr.1.1
  · have h := hr.1.2.1 d hd
    unfold repD at h ⊢
    simp (disch := omega) only [sR_s, sR_n, sL_s, sL_n, sR_2, sL_1, up_s, up_n, cpy41]
    exact h
  · have h := hr.1.2.2 k hk
    simp (disch := omega) only [sR_s, sR_n, sL_s, sL_n, sR_2, sL_1, up_s, up_n, cpy41]
    exact h
  · simp (disch := omega) only [sR_s, sR_n, sL_s, sL_n, sR_2, sL_1, up_s, up_n]
    exact hr.2.1
  · simp (disch := omega) only [sR_s, sR_n, sL_s, sL_n, sR_2, sL_1, up_s, up_n]
    exact hr.2.2.1
  · simp (disch := omega) only [sR_s, sR_n, sL_s, sL_n, sR_2, sL_1, up_s, up_n]
    exact hr.2.2.2.1
  · simp (disch := omega) only [sR_s, sR_n, sL_s, sL_n, sR_2, sL_1, up_s, up_n]
    exact hr.2.2.2.2
  · unfold inB at hj
    simp (disch := omega) only [sR_s, sR_n, sL_s, sL_n, sR_2, sL_1, up_s, up_n, and_self]
theorem ord_at {dy : Nat → Nat} {n : Nat} {o : Nat → Nat} (ho : ordOK dy n o) {d : Nat} (hd : d < n) : o (rk dy n d) = d := by
  have h := ho (rk dy n d) (rk_bd hd)
  exact rk_inj h.1 hd h.2
theorem placeC_ok {b n d : Nat} {ds : Nat → Dl} {o : Nat → Nat} {σ : Sg} (hn : n ≤ 41) (hr : repBd b σ n ds o) (ho : ordOK (days ds) n o) (hd : d < n) : f_X0_placeOf b (nI d) σ = some (nI (rk (days ds) n d)) := by
  have hbd := rk_bd (dy := days ds) hd
  have := run_invFU (fun m k (_ : Unit) => L_X0_placeOf_2 b (nI d) σ m (nI k)) (fun k _ => k ≤ rk (days ds) n d) n (fun q => q = some (.inl (nI (rk (days ds) n d)))) (by omega) (fun k hk m a ha => ?_) (fun m a ha => absurd ha (by omega)) () (by omega)
  · unfold f_X0_placeOf
    rw [show L_X0_placeOf_2 b (nI d) σ FU 0 = _ from this]
    rfl
  · have hk2 := hr.2.2 k hk
    have hlt := (ho k hk).1
    rw [L_X0_placeOf_2]
    by_cases e : o k = d
    · right
      have : rk (days ds) n d = k := by rw [← e]; exact (ho k hk).2
      simp (disch := omega) only [li0, li1, li2, li3, li4, li5, li6, li7, li8, li9, li10, li15, li31, li32, li40, li41, li49, li50, li99, li100, li999, c_le, c_lt, c_eq, c_tn, c_inb, c_add, hr.1, hk2, show ¬ n ≤ k by omega, show k < 41 by omega, e, this, if_true, if_false, ite_true, ite_false, ↓reduceIte, Nat.le_refl, Nat.lt_irrefl, Nat.reduceAdd, Nat.reduceLeDiff, Nat.reduceLT, Nat.reduceEqDiff, Bool.false_eq_true]
    · left
      refine ⟨(), ?_, ?_⟩
      · have : k ≠ rk (days ds) n d := fun q => e (by rw [q]; exact ord_at ho hd)
        omega
      · simp (disch := omega) only [li0, li1, li2, li3, li4, li5, li6, li7, li8, li9, li10, li15, li31, li32, li40, li41, li49, li50, li99, li100, li999, c_le, c_lt, c_eq, c_tn, c_inb, c_add, hr.1, hk2, show ¬ n ≤ k by omega, show k < 41 by omega, e, if_true, if_false, ite_true, ite_false, ↓reduceIte, Nat.le_refl, Nat.lt_irrefl, Nat.reduceAdd, Nat.reduceLeDiff, Nat.reduceLT, Nat.reduceEqDiff, Bool.false_eq_true]
def byL (ds : Nat → Dl) (L : Nat) (d : Nat) : Bool := decide (dDay (ds d) ≤ L)
def dnN (ds : Nat → Dl) (n L : Nat) : Nat := cnt (byL ds L) n
theorem doneC_ok {b n L : Nat} {ds : Nat → Dl} {o : Nat → Nat} {σ : Sg} (hn : n ≤ 41) (hL : L < 2000) (hr : repBd b σ n ds o) (hd : ∀ d, d < n → okD (ds d)) : f_X0_doneBy b (nI L) σ = some (nI (dnN ds n L)) := by
  have := run_FU (fun m k => L_X0_doneBy_4 b (nI L) σ m (nI (cnt (byL ds L) k)) (nI k)) n (some (nI (dnN ds n L), nI n)) (by omega) (fun k hk m => ?_) (fun m => ?_)
  · unfold f_X0_doneBy
    rw [show L_X0_doneBy_4 b (nI L) σ FU 0 0 = _ from this]
    rfl
  · have hday := (hr.2.1 k hk).1
    have hb := (hd k hk).1
    have hc : cnt (byL ds L) k ≤ k := cnt_le
    have a0 : f_X6_asNumber (nI 0) = nI 0 := rfl
    have a1 : f_X6_asNumber (nI 1) = nI 1 := rfl
    show L_X0_doneBy_4 _ _ _ _ _ _ = L_X0_doneBy_4 _ _ _ _ _ _
    rw [L_X0_doneBy_4]
    by_cases c : dDay (ds k) ≤ L
    · simp (disch := omega) only [li0, li1, li2, li3, li4, li5, li6, li7, li8, li9, li10, li15, li31, li32, li40, li41, li49, li50, li99, li100, li999, c_le, c_lt, c_eq, c_tn, c_inb, c_add, hr.1, hday, show ¬ n ≤ k by omega, show k < 41 by omega, jn, cnt, byL, c, decide_true, show ¬ L < dDay (ds k) by omega, a1, if_true, if_false, ite_true, ite_false, ↓reduceIte, Nat.le_refl, Nat.lt_irrefl, Nat.reduceAdd, Nat.reduceLeDiff, Nat.reduceLT, Nat.reduceEqDiff, Bool.false_eq_true]
    · simp (disch := omega) only [li0, li1, li2, li3, li4, li5, li6, li7, li8, li9, li10, li15, li31, li32, li40, li41, li49, li50, li99, li100, li999, c_le, c_lt, c_eq, c_tn, c_inb, c_add, hr.1, hday, show ¬ n ≤ k by omega, show k < 41 by omega, jn, cnt, byL, c, decide_false, show L < dDay (ds k) by omega, a0, if_true, if_false, ite_true, ite_false, ↓reduceIte, Nat.le_refl, Nat.lt_irrefl, Nat.reduceAdd, Nat.reduceLeDiff, Nat.reduceLT, Nat.reduceEqDiff, Bool.false_eq_true]
  · show L_X0_doneBy_4 _ _ _ _ _ _ = _
    rw [L_X0_doneBy_4]
    simp (disch := omega) only [li0, li1, li2, li3, li4, li5, li6, li7, li8, li9, li10, li15, li31, li32, li40, li41, li49, li50, li99, li100, li999, c_le, c_lt, c_eq, c_tn, c_inb, c_add, hr.1, if_true, if_false, ite_true, ite_false, ↓reduceIte, Nat.le_refl, Nat.lt_irrefl, Nat.reduceAdd, Nat.reduceLeDiff, Nat.reduceLT, Nat.reduceEqDiff, Bool.false_eq_true]
    rfl
theorem doneM_ok {n L : Nat} {ds : Nat → Dl} {σ : Sg} (hn : n ≤ 41) (hL : L < 2000) (hr : repMd σ n ds) (h7 : σ.1 132 7 = nI L) (hd : ∀ d, d < n → okD (ds d)) : f_X7_done σ = some (nI (dnN ds n L)) := by
  have := run_FU (fun m k => L_X7_done_4 σ m (nI (cnt (byL ds L) k)) (nI k)) n (some (nI (dnN ds n L), nI n)) (by omega) (fun k hk m => ?_) (fun m => ?_)
  · unfold f_X7_done
    rw [show L_X7_done_4 σ FU 0 0 = _ from this]
    rfl
  · have hday := (hr.2 k hk).1
    have hb := (hd k hk).1
    have hc : cnt (byL ds L) k ≤ k := cnt_le
    show L_X7_done_4 _ _ _ _ = L_X7_done_4 _ _ _ _
    rw [L_X7_done_4]
    by_cases c : dDay (ds k) ≤ L
    · simp (disch := omega) only [li0, li1, li2, li3, li4, li5, li6, li7, li8, li9, li10, li15, li31, li32, li40, li41, li49, li50, li99, li100, li999, c_le, c_lt, c_eq, c_tn, c_inb, c_add, hr.1, h7, hday, show ¬ n ≤ k by omega, show k < 41 by omega, jn, cnt, byL, c, decide_true, show ¬ L < dDay (ds k) by omega, if_true, if_false, ite_true, ite_false, ↓reduceIte, Nat.le_refl, Nat.lt_irrefl, Nat.reduceAdd, Nat.reduceLeDiff, Nat.reduceLT, Nat.reduceEqDiff, Bool.false_eq_true]
    · simp (disch := omega) only [li0, li1, li2, li3, li4, li5, li6, li7, li8, li9, li10, li15, li31, li32, li40, li41, li49, li50, li99, li100, li999, c_le, c_lt, c_eq, c_tn, c_inb, c_add, hr.1, h7, hday, show ¬ n ≤ k by omega, show k < 41 by omega, jn, cnt, byL, c, decide_false, show L < dDay (ds k) by omega, if_true, if_false, ite_true, ite_false, ↓reduceIte, Nat.le_refl, Nat.lt_irrefl, Nat.reduceAdd, Nat.reduceLeDiff, Nat.reduceLT, Nat.reduceEqDiff, Bool.false_eq_true]
  · show L_X7_done_4 _ _ _ _ = _
    rw [L_X7_done_4]
    simp (disch := omega) only [li0, li1, li2, li3, li4, li5, li6, li7, li8, li9, li10, li15, li31, li32, li40, li41, li49, li50, li99, li100, li999, c_le, c_lt, c_eq, c_tn, c_inb, c_add, hr.1, if_true, if_false, ite_true, ite_false, ↓reduceIte, Nat.le_refl, Nat.lt_irrefl, Nat.reduceAdd, Nat.reduceLeDiff, Nat.reduceLT, Nat.reduceEqDiff, Bool.false_eq_true]
    rfl
theorem dn_iff {ds : Nat → Dl} {n L : Nat} {o : Nat → Nat} (ho : ordOK (days ds) n o) {k : Nat} (hk : k < n) : (k < dnN ds n L) ↔ dDay (ds (o k)) ≤ L := by
  obtain ⟨h1, h2⟩ := ho k hk
  constructor
  · intro h
    apply Classical.byContradiction
    intro q
    have : cnt (byL ds L) n ≤ rk (days ds) n (o k) := cnt_mono (fun e he hb => by
      simp only [byL, decide_eq_true_eq] at hb
      rw [lx_iff]
      left
      show dDay (ds e) < dDay (ds (o k))
      omega)
    unfold dnN at h
    omega
  · intro h
    have : rk (days ds) n (o k) < cnt (byL ds L) n := cnt_lt (fun e he hb => by
      rw [lx_iff] at hb
      simp only [byL, decide_eq_true_eq]
      have : dDay (ds e) ≤ dDay (ds (o k)) := by
        rcases hb with hb | hb
        · exact Nat.le_of_lt hb
        · exact Nat.le_of_eq hb.1
      omega) (o k) h1 (by simp only [byL, decide_eq_true_eq]; exact h) (by
      have : ¬ lx (days ds) (o k) (o k) = true := by rw [lx_iff]; omega
      simpa using this)
    unfold dnN
    omega
theorem runS_dn {ds : Nat → Dl} {n L : Nat} {o : Nat → Nat} (ho : ordOK (days ds) n o) : ∀ k, k ≤ n → runS ds o (byL ds L) k = runS ds o (fun _ => true) (min k (dnN ds n L))
  | 0, _ => by rw [Nat.zero_min]; rfl
  | k + 1, hk => by
    have ih := runS_dn (L := L) ho k (by omega)
    have hi := dn_iff (L := L) ho (show k < n by omega)
    have e : runS ds o (byL ds L) (k + 1) = (runS ds o (byL ds L) k).bind (fun H => if byL ds L (o k) then doD (ds (o k)) H else some H) := rfl
    rw [e, ih]
    by_cases c : k < dnN ds n L
    · rw [show min k (dnN ds n L) = k by omega, show min (k + 1) (dnN ds n L) = k + 1 by omega]
      have hb : byL ds L (o k) = true := by simp only [byL, decide_eq_true_eq]; exact hi.mp c
      simp only [hb, if_true]
      rfl
    · rw [show min k (dnN ds n L) = dnN ds n L by omega, show min (k + 1) (dnN ds n L) = dnN ds n L by omega]
      have hb : byL ds L (o k) = false := by
        simp only [byL, decide_eq_false_iff_not]
        exact fun q => c (hi.mpr q)
      simp only [hb, Bool.false_eq_true, if_false]
      cases runS ds o (fun _ => true) (dnN ds n L) <;> rfl
theorem runS_pre {ds : Nat → Dl} {o : Nat → Nat} {ok : Nat → Bool} {n : Nat} {H : Hd} (h : runS ds o ok n = some H) {k : Nat} (hk : k ≤ n) : ∃ H', runS ds o ok k = some H' := by
  cases e : runS ds o ok k with
  | none => rw [runS_none e hk] at h; cases h
  | some H' => exact ⟨H', rfl⟩
theorem hold_some {B : Bk} (h : okB B) (L : Nat) : ∃ H, runS (bD B) (bO B) (byL (bD B) L) (bN B) = some H ∧ runS (bD B) (bO B) (fun _ => true) (dnN (bD B) (bN B) L) = some H ∧ okH H := by
  obtain ⟨h1, h2, h3, h4, h5, h6, h7, H, h8⟩ := h
  have hle : dnN (bD B) (bN B) L ≤ bN B := cnt_le
  obtain ⟨H', e⟩ := runS_pre h8 hle
  refine ⟨H', ?_, e, runS_ok (n := bN B) (fun k hk => h2 _ (h3 k hk).1) hle e⟩
  rw [runS_dn h3 (bN B) (Nat.le_refl _), show min (bN B) (dnN (bD B) (bN B) L) = dnN (bD B) (bN B) L by omega]
  exact e
