/-! DEALS WRITTEN DOWN by the reference; what an order depends on -/
theorem put_ok {d : Nat} (hd : d < 41) (a b c e g h : Int32) (σ : Sg) : ∃ σ', f_X7_put (nI d) a b c e g h σ = some σ' ∧ σ'.1 133 = upd (σ.1 133) d a ∧ σ'.1 134 = upd (σ.1 134) d b ∧ σ'.1 135 = upd (σ.1 135) d c ∧ σ'.1 136 = upd (σ.1 136) d e ∧ σ'.1 137 = upd (σ.1 137) d g ∧ σ'.1 138 = upd (σ.1 138) d h ∧ fr (fun j => 133 ≤ j ∧ j ≤ 138) σ σ' := by
  refine ⟨_, (by unfold f_X7_put; simp (disch := omega) only [li0, li1, li2, li3, li4, li5, li6, li7, li8, li9, li10, li15, li31, li32, li40, li41, li49, li50, li99, li100, li999, c_le, c_lt, c_eq, c_tn, c_inb, c_add, hd, jn, if_true, if_false, ite_true, ite_false, ↓reduceIte, Nat.le_refl, Nat.lt_irrefl, Nat.reduceAdd, Nat.reduceLeDiff, Nat.reduceLT, Nat.reduceEqDiff, Bool.false_eq_true]; rfl), ?_, ?_, ?_, ?_, ?_, ?_, fun j hj => ?_⟩
  · simp (disch := omega) only [sR_s, sR_n, sL_s, sL_n, sR_2, sL_1, up_s, up_n]
  · simp (disch := omega) only [sR_s, sR_n, sL_s, sL_n, sR_2, sL_1, up_s, up_n]
  · simp (disch := omega) only [sR_s, sR_n, sL_s, sL_n, sR_2, sL_1, up_s, up_n]
  · simp (disch := omega) only [sR_s, sR_n, sL_s, sL_n, sR_2, sL_1, up_s, up_n]
  · simp (disch := omega) only [sR_s, sR_n, sL_s, sL_n, sR_2, sL_1, up_s, up_n]
  · simp (disch := omega) only [sR_s, sR_n, sL_s, sL_n, sR_2, sL_1, up_s, up_n]
  · simp (disch := omega) only [sR_s, sR_n, sL_s, sL_n, sR_2, sL_1, up_s, up_n, and_self]
theorem cnt_dy {dy dy' : Nat → Nat} {n d : Nat} (hd : d < n) (h : ∀ e, e < n → dy e = dy' e) : rk dy n d = rk dy' n d := by
  unfold rk
  exact cnt_congr (fun e he => by unfold lx; rw [h e he, h d hd])
theorem ordOK_dy {dy dy' : Nat → Nat} {n : Nat} {o : Nat → Nat} (ho : ordOK dy n o) (h : ∀ e, e < n → dy e = dy' e) : ordOK dy' n o := fun k hk => by
  obtain ⟨h1, h2⟩ := ho k hk
  exact ⟨h1, by rw [← cnt_dy h1 h]; exact h2⟩
theorem runS_congr {ds ds' : Nat → Dl} {o o' : Nat → Nat} {ok ok' : Nat → Bool} : ∀ {n : Nat}, (∀ k, k < n → ds (o k) = ds' (o' k) ∧ ok (o k) = ok' (o' k)) → runS ds o ok n = runS ds' o' ok' n
  | 0, _ => rfl
  | n + 1, h => by
    have ih := runS_congr (ds := ds) (ds' := ds') (o := o) (o' := o') (ok := ok) (ok' := ok') (n := n) (fun k hk => h k (by omega))
    simp only [runS]
    rw [ih, (h n (by omega)).1, (h n (by omega)).2]
/-- the model with a deal more at its end -/
theorem putApp {n : Nat} {ds : Nat → Dl} {x : Dl} {σ : Sg} (hn : n ≤ 40) (hr : repMd σ n ds) : ∃ σ', f_X7_put (σ.1 132 6) (nI (dDay x)) (nI (dFirm x)) (nI (dKind x)) (nI (dFrom x)) (nI (dTo x)) (nI (dAmt x)) σ = some σ' ∧ (∀ d, d < n + 1 → repDM σ' d (app ds n x d)) ∧ fr (fun j => 133 ≤ j ∧ j ≤ 138) σ σ' := by
  obtain ⟨s, e1, t1, t2, t3, t4, t5, t6, e2⟩ := put_ok (d := n) (by omega) (nI (dDay x)) (nI (dFirm x)) (nI (dKind x)) (nI (dFrom x)) (nI (dTo x)) (nI (dAmt x)) σ
  refine ⟨s, by rw [hr.1]; exact e1, fun d hd => ?_, e2⟩
  unfold repDM
  rw [t1, t2, t3, t4, t5, t6]
  by_cases e : d = n
  · subst e
    rw [app_n, up_s, up_s, up_s, up_s, up_s, up_s]
    exact ⟨rfl, rfl, rfl, rfl, rfl, rfl⟩
  · rw [app_lt _ _ e, up_n _ _ e, up_n _ _ e, up_n _ _ e, up_n _ _ e, up_n _ _ e, up_n _ _ e]
    exact hr.2 d (by omega)
theorem rem_app {ds : Nat → Dl} {n : Nat} {x : Dl} {d : Nat} (hd : d < n) : rem (app ds n x) n d = ds d := by
  unfold rem sk
  rw [if_pos hd, app_lt _ _ (by omega)]
/-- a deal added and struck again: the book is as it was -/
theorem rem_back {B : Bk} {x : Dl} {σ : Sg} {o' : Nat → Nat} (hB : okB B) (hr : repBd 1 σ (bN B + 1 - 1) (rem (app (bD B) (bN B) x) (bN B)) o') (ho : ordOK (days (rem (app (bD B) (bN B) x) (bN B))) (bN B + 1 - 1) o') : repBd 1 σ (bN B) (bD B) (bO B) := by
  rw [Nat.add_sub_cancel] at hr ho
  have ho2 : ordOK (days (bD B)) (bN B) o' := ordOK_dy ho (fun e he => by show dDay (rem (app (bD B) (bN B) x) (bN B) e) = dDay (bD B e); rw [rem_app he])
  refine ⟨hr.1, fun d hd => ?_, fun k hk => ?_⟩
  · have := hr.2.1 d hd
    rw [rem_app hd] at this
    exact this
  · rw [ord_uniq hB.2.2.1 ho2 hk]
    exact hr.2.2 k hk
