/-! DEALS by the reference -/
theorem at_ok (k f : Nat) : f_X7_at (nI k) (nI f) = nI (5 * k + f) := by
  unfold f_X7_at
  rw [li5, c_mul, c_add]
theorem vn_1 : vp_nar .boolean (nI 1) = nI 1 := rfl
theorem vn_0 : vp_nar .boolean (nI 0) = nI 0 := rfl
def inM (j : Nat) : Prop := 140 < j ∧ j < 144
theorem does_some {d : Nat} {σ : Sg} {x : Dl} {H H' : Hd} (hd : d < 41) (hb : repDM σ d x) (hx : okD x) (hr : repM σ H) (hH : okH H) (e : doD x H = some H') : ∃ σ', f_X7_does (nI d) σ = some (1, σ') ∧ repM σ' H' ∧ fr inM σ σ' := by
  obtain ⟨b1, b2, b3, b4, b5, b6⟩ := hb
  obtain ⟨h1, h2, h3, h4, h5⟩ := hx
  unfold doD at e
  unfold f_X7_does
  split at e
  · rename_i hk
    split at e
    · rename_i hle
      cases e
      obtain ⟨a1, a2, a3, a4, a5⟩ := h4 (by omega)
      have s1 := hH.sh h3 a1
      have s2 := hH.sh h3 a2
      have r1 := (hr _ h3 _ a1).1
      have r2 := (hr _ h3 _ a2).1
      refine ⟨_, (by simp (disch := omega) only [li0, li1, li2, li3, li4, li5, li6, li7, li8, li9, li10, li15, li31, li32, li40, li41, li49, li50, li99, li100, li999, c_le, c_lt, c_eq, c_tn, c_inb, c_add, hd, b2, b3, b4, b5, b6, hk, h3, at_ok, show 5 * dFrom x + dFirm x < 50 by omega, show 5 * dTo x + dFirm x < 50 by omega, r1, r2, hle, jn, sR_s, sR_n, up_n, c_sub, if_true, if_false, ite_true, ite_false, ↓reduceIte, Nat.le_refl, Nat.lt_irrefl, Nat.reduceAdd, Nat.reduceLeDiff, Nat.reduceLT, Nat.reduceEqDiff, Bool.false_eq_true]; rfl), fun f hf k hk' => ?_, fr.tr (fr.setR (by unfold inM; omega)) (fr.setR (by unfold inM; omega))⟩
      simp (disch := omega) only [sR_s, sR_n, sL_s, sL_n, sR_2, sL_1, up_s, up_n]
      refine ⟨?_, (hr f hf k hk').2⟩
      by_cases ef : f = dFirm x
      · subst ef
        by_cases e4 : k = dTo x
        · subst e4; rw [up_s]; simp [mvN]
        · rw [up_n _ _ (show 5 * k + dFirm x ≠ 5 * dTo x + dFirm x by omega)]
          by_cases e5 : k = dFrom x
          · subst e5; rw [up_s]; simp [mvN, e4]
          · rw [up_n _ _ (show 5 * k + dFirm x ≠ 5 * dFrom x + dFirm x by omega), (hr _ h3 _ hk').1]; simp [mvN, e4, e5]
      · rw [up_n _ _ (by omega), up_n _ _ (by omega), (hr f hf k hk').1]; simp [mvN, ef]
    · cases e
  · rename_i hk0
    split at e
    · rename_i hk
      split at e
      · rename_i hle
        cases e
        obtain ⟨a1, a2, a3, a4, a5⟩ := h4 (by omega)
        have s1 := hH.vo h3 a1
        have s2 := hH.vo h3 a2
        have r1 := (hr _ h3 _ a1).2.1
        have r2 := (hr _ h3 _ a2).2.1
        refine ⟨_, (by simp (disch := omega) only [li0, li1, li2, li3, li4, li5, li6, li7, li8, li9, li10, li15, li31, li32, li40, li41, li49, li50, li99, li100, li999, c_le, c_lt, c_eq, c_tn, c_inb, c_add, hd, b2, b3, b4, b5, b6, hk, h3, at_ok, show 5 * dFrom x + dFirm x < 50 by omega, show 5 * dTo x + dFirm x < 50 by omega, r1, r2, hle, jn, sR_s, sR_n, up_n, c_sub, Nat.one_ne_zero, if_true, if_false, ite_true, ite_false, ↓reduceIte, Nat.le_refl, Nat.lt_irrefl, Nat.reduceAdd, Nat.reduceLeDiff, Nat.reduceLT, Nat.reduceEqDiff, Bool.false_eq_true]; rfl), fun f hf k hk' => ?_, fr.tr (fr.setR (by unfold inM; omega)) (fr.setR (by unfold inM; omega))⟩
        simp (disch := omega) only [sR_s, sR_n, sL_s, sL_n, sR_2, sL_1, up_s, up_n]
        refine ⟨(hr f hf k hk').1, ?_, (hr f hf k hk').2.2⟩
        by_cases ef : f = dFirm x
        · subst ef
          by_cases e4 : k = dTo x
          · subst e4; rw [up_s]; simp [mvN]
          · rw [up_n _ _ (show 5 * k + dFirm x ≠ 5 * dTo x + dFirm x by omega)]
            by_cases e5 : k = dFrom x
            · subst e5; rw [up_s]; simp [mvN, e4]
            · rw [up_n _ _ (show 5 * k + dFirm x ≠ 5 * dFrom x + dFirm x by omega), (hr _ h3 _ hk').2.1]; simp [mvN, e4, e5]
        · rw [up_n _ _ (by omega), up_n _ _ (by omega), (hr f hf k hk').2.1]; simp [mvN, ef]
      · cases e
    · rename_i hk1
      cases e
      obtain ⟨a1, a2, a3⟩ := h5 (by omega)
      have key : ∀ v : Bool, v = decide (dKind x = 2) → repM (setR σ 143 (upd (σ.1 143) (5 * dTo x + dFirm x) (b2i v))) (H.1, H.2.1, veN H.2.2 (dFirm x) (dTo x) (decide (dKind x = 2))) := by
        intro v hv f hf k hk'
        simp (disch := omega) only [sR_s, sR_n, sL_s, sL_n, sR_2, sL_1, up_s, up_n]
        refine ⟨(hr f hf k hk').1, (hr f hf k hk').2.1, ?_⟩
        by_cases e4 : f = dFirm x ∧ k = dTo x
        · obtain ⟨rfl, rfl⟩ := e4
          rw [up_s, hv]; simp [veN]
        · rw [up_n _ _ (by omega), (hr f hf k hk').2.2]
          by_cases ef : f = dFirm x
          · have : ¬ k = dTo x := fun q => e4 ⟨ef, q⟩
            simp [veN, this]
          · simp [veN, ef]
      by_cases hk2 : dKind x = 2
      · refine ⟨setR σ 143 (upd (σ.1 143) (5 * dTo x + dFirm x) (b2i true)), ?_, key true (by simp [hk2]), fr.setR (by unfold inM; omega)⟩
        simp (disch := omega) only [li0, li1, li2, li3, li4, li5, li6, li7, li8, li9, li10, li15, li31, li32, li40, li41, li49, li50, li99, li100, li999, c_le, c_lt, c_eq, c_tn, c_inb, c_add, hd, b2, b3, b5, hk2, h3, at_ok, show 5 * dTo x + dFirm x < 50 by omega, jn, show ¬ 2 = 0 by decide, show ¬ 2 = 1 by decide, vn_1, if_true, if_false, ite_true, ite_false, ↓reduceIte, Nat.le_refl, Nat.lt_irrefl, Nat.reduceAdd, Nat.reduceLeDiff, Nat.reduceLT, Nat.reduceEqDiff, Bool.false_eq_true]
        rfl
      · refine ⟨setR σ 143 (upd (σ.1 143) (5 * dTo x + dFirm x) (b2i false)), ?_, key false (by simp [hk2]), fr.setR (by unfold inM; omega)⟩
        simp (disch := omega) only [li0, li1, li2, li3, li4, li5, li6, li7, li8, li9, li10, li15, li31, li32, li40, li41, li49, li50, li99, li100, li999, c_le, c_lt, c_eq, c_tn, c_inb, c_add, hd, b2, b3, b5, hk0, hk1, hk2, h3, at_ok, show 5 * dTo x + dFirm x < 50 by omega, jn, vn_0, if_true, if_false, ite_true, ite_false, ↓reduceIte, Nat.le_refl, Nat.lt_irrefl, Nat.reduceAdd, Nat.reduceLeDiff, Nat.reduceLT, Nat.reduceEqDiff, Bool.false_eq_true]
        rfl
theorem does_none {d : Nat} {σ : Sg} {x : Dl} {H : Hd} (hd : d < 41) (hb : repDM σ d x) (hx : okD x) (hr : repM σ H) (hH : okH H) (e : doD x H = none) : f_X7_does (nI d) σ = some (0, σ) := by
  obtain ⟨b1, b2, b3, b4, b5, b6⟩ := hb
  obtain ⟨h1, h2, h3, h4, h5⟩ := hx
  unfold doD at e
  unfold f_X7_does
  split at e
  · rename_i hk
    split at e
    · cases e
    · rename_i hle
      obtain ⟨a1, a2, a3, a4, a5⟩ := h4 (by omega)
      have s1 := hH.sh h3 a1
      have r1 := (hr _ h3 _ a1).1
      simp (disch := omega) only [li0, li1, li2, li3, li4, li5, li6, li7, li8, li9, li10, li15, li31, li32, li40, li41, li49, li50, li99, li100, li999, c_le, c_lt, c_eq, c_tn, c_inb, c_add, hd, b2, b3, b4, b5, b6, hk, h3, at_ok, show 5 * dFrom x + dFirm x < 50 by omega, r1, hle, if_true, if_false, ite_true, ite_false, ↓reduceIte, Nat.le_refl, Nat.lt_irrefl, Nat.reduceAdd, Nat.reduceLeDiff, Nat.reduceLT, Nat.reduceEqDiff, Bool.false_eq_true]
  · split at e
    · rename_i hk0 hk
      split at e
      · cases e
      · rename_i hle
        obtain ⟨a1, a2, a3, a4, a5⟩ := h4 (by omega)
        have s1 := hH.vo h3 a1
        have r1 := (hr _ h3 _ a1).2.1
        simp (disch := omega) only [li0, li1, li2, li3, li4, li5, li6, li7, li8, li9, li10, li15, li31, li32, li40, li41, li49, li50, li99, li100, li999, c_le, c_lt, c_eq, c_tn, c_inb, c_add, hd, b2, b3, b4, b5, b6, hk, h3, at_ok, show 5 * dFrom x + dFirm x < 50 by omega, r1, hle, Nat.one_ne_zero, if_true, if_false, ite_true, ite_false, ↓reduceIte, Nat.le_refl, Nat.lt_irrefl, Nat.reduceAdd, Nat.reduceLeDiff, Nat.reduceLT, Nat.reduceEqDiff, Bool.false_eq_true]
    · cases e
/-! ### counting, and the order in which deals are done -/
def cnt (p : Nat → Bool) : Nat → Nat
  | 0 => 0
  | n + 1 => cnt p n + (if p n then 1 else 0)
theorem cnt_le {p : Nat → Bool} : ∀ {n : Nat}, cnt p n ≤ n
  | 0 => Nat.le_refl 0
  | n + 1 => by
    have := cnt_le (p := p) (n := n)
    simp only [cnt]
    split <;> omega
theorem cnt_mono {p q : Nat → Bool} : ∀ {n : Nat}, (∀ e, e < n → p e = true → q e = true) → cnt p n ≤ cnt q n
  | 0, _ => Nat.le_refl 0
  | n + 1, h => by
    have := cnt_mono (p := p) (q := q) (n := n) (fun e he => h e (by omega))
    simp only [cnt]
    by_cases hp : p n = true
    · rw [if_pos hp, if_pos (h n (by omega) hp)]; omega
    · rw [if_neg hp]; omega
theorem cnt_lt {p q : Nat → Bool} : ∀ {n : Nat}, (∀ e, e < n → p e = true → q e = true) → ∀ d, d < n → q d = true → p d = false → cnt p n < cnt q n
  | 0, _, d, hd, _, _ => absurd hd (by omega)
  | n + 1, h, d, hd, hq, hp => by
    simp only [cnt]
    by_cases e : d = n
    · subst e
      have := cnt_mono (p := p) (q := q) (n := d) (fun e he => h e (by omega))
      rw [hp, hq]
      simp
      omega
    · have := cnt_lt (p := p) (q := q) (n := n) (fun e he => h e (by omega)) d (by omega) hq hp
      by_cases hp' : p n = true
      · rw [if_pos hp', if_pos (h n (by omega) hp')]; omega
      · rw [if_neg hp']; omega
theorem cnt_congr {p q : Nat → Bool} : ∀ {n : Nat}, (∀ e, e < n → p e = q e) → cnt p n = cnt q n
  | 0, _ => rfl
  | n + 1, h => by
    simp only [cnt]
    rw [cnt_congr (fun e he => h e (by omega)), h n (by omega)]
/-- e is done ahead of d -/
def lx (dy : Nat → Nat) (e d : Nat) : Bool := decide (dy e < dy d) || (decide (dy e = dy d) && decide (e < d))
theorem lx_iff {dy : Nat → Nat} {e d : Nat} : lx dy e d = true ↔ dy e < dy d ∨ (dy e = dy d ∧ e < d) := by simp [lx]
def rk (dy : Nat → Nat) (n d : Nat) : Nat := cnt (fun e => lx dy e d) n
theorem rk_lt {dy : Nat → Nat} {n e d : Nat} (he : e < n) (h : lx dy e d = true) : rk dy n e < rk dy n d := by
  refine cnt_lt (fun c _ hc => ?_) e he h ?_
  · rw [lx_iff] at hc h ⊢
    omega
  · have : ¬ lx dy e e = true := by rw [lx_iff]; omega
    simpa using this
theorem rk_inj {dy : Nat → Nat} {n e d : Nat} (he : e < n) (hd : d < n) (h : rk dy n e = rk dy n d) : e = d := by
  by_cases q : e = d
  · exact q
  · rcases (show lx dy e d = true ∨ lx dy d e = true by rw [lx_iff, lx_iff]; omega) with w | w
    · have := rk_lt he w; omega
    · have := rk_lt hd w; omega
theorem rk_bd {dy : Nat → Nat} {n d : Nat} (hd : d < n) : rk dy n d < n := by
  have h1 : rk dy n d < cnt (fun _ => true) n := cnt_lt (fun _ _ _ => rfl) d hd rfl (by
    have : ¬ lx dy d d = true := by rw [lx_iff]; omega
    simpa using this)
  exact Nat.lt_of_lt_of_le h1 cnt_le
def ordOK (dy : Nat → Nat) (n : Nat) (o : Nat → Nat) : Prop := ∀ k, k < n → o k < n ∧ rk dy n (o k) = k
theorem ord_uniq {dy : Nat → Nat} {n : Nat} {o o' : Nat → Nat} (h : ordOK dy n o) (h' : ordOK dy n o') {k : Nat} (hk : k < n) : o k = o' k := rk_inj (h k hk).1 (h' k hk).1 ((h k hk).2.trans (h' k hk).2.symm)
theorem ord_mono {dy : Nat → Nat} {n : Nat} {o : Nat → Nat} (h : ordOK dy n o) {i j : Nat} (hij : i < j) (hj : j < n) : lx dy (o i) (o j) = true := by
  have h1 := h i (by omega)
  have h2 := h j hj
  rcases (show lx dy (o i) (o j) = true ∨ o i = o j ∨ lx dy (o j) (o i) = true by rw [lx_iff, lx_iff]; omega) with w | w | w
  · exact w
  · rw [w] at h1; omega
  · have := rk_lt h2.1 w; omega
