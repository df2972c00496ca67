/-! CIRCLES: which firms reach which -/
def edg (H : Hd) (g e : Nat) : Bool := decide (0 < H.1 e (4 + g))
theorem sb_ite {p : Prop} {d : Decidable p} {a C : Nat} (h : p → sb a C) : sb (if p then a else 0) C := by
  by_cases c : p
  · rw [if_pos c]; exact h c
  · rw [if_neg c]; exact sb_0 C
def anyN (p : Nat → Bool) : Nat → Bool
  | 0 => false
  | n + 1 => anyN p n || p n
theorem anyN_iff {p : Nat → Bool} : ∀ {n : Nat}, anyN p n = true ↔ ∃ k, k < n ∧ p k = true
  | 0 => by
    constructor
    · intro h; cases h
    · rintro ⟨k, h, _⟩; omega
  | n + 1 => by
    simp only [anyN, Bool.or_eq_true]
    rw [anyN_iff (n := n)]
    constructor
    · rintro (⟨k, h1, h2⟩ | h)
      · exact ⟨k, by omega, h2⟩
      · exact ⟨n, by omega, h⟩
    · rintro ⟨k, h1, h2⟩
      rcases Nat.lt_succ_iff_lt_or_eq.mp h1 with h | h
      · exact Or.inl ⟨k, h, h2⟩
      · rw [h] at h2; exact Or.inr h2
theorem bfN_get {p : Nat → Bool} {j : Nat} (h : j < 5) : (bfN p 5).testBit j = p j := by rw [bfN_bit]; simp [h]
/-- the component: by way of each firm in turn -/
def wr (E : Nat → Nat → Bool) : Nat → Nat → Nat
  | 0, g => bfN (E g) 5
  | w + 1, g => wr E w g ||| (if (wr E w g).testBit w then wr E w w else 0)
theorem wr_lt (E : Nat → Nat → Bool) : ∀ w g, wr E w g < 32
  | 0, g => bfN_lt _ 5 (by omega)
  | w + 1, g => by
    simp only [wr]
    refine or_lt5 _ (wr_lt E w g) _ ?_
    split
    · exact wr_lt E w w
    · decide
theorem wr_ge (E : Nat → Nat → Bool) (g : Nat) : ∀ w, sb (bfN (E g) 5) (wr E w g)
  | 0 => sb_rf _
  | w + 1 => sb_tr (wr_ge E g w) (sb_l _ _)
theorem wr_clo (E : Nat → Nat → Bool) : ∀ w, w ≤ 5 → ∀ v, v < w → ∀ g, (wr E w g).testBit v = true → sb (wr E w v) (wr E w g)
  | 0, _, v, hv, _, _ => absurd hv (by omega)
  | w + 1, hw, v, hv, g, hb => by
    have ih := wr_clo E w (by omega)
    simp only [wr] at hb ⊢
    have big : ∀ z, (wr E w z).testBit w = true → sb (wr E w w) (wr E w z ||| (if (wr E w z).testBit w then wr E w w else 0)) := by
      intro z hz
      rw [if_pos hz]
      exact sb_r _ _
    rw [Nat.testBit_or] at hb
    simp only [Bool.or_eq_true] at hb
    by_cases c : v = w
    · subst c
      have hg : (wr E v g).testBit v = true := by
        rcases hb with hb | hb
        · exact hb
        · split at hb
          · assumption
          · simp at hb
      exact sb_or (big g hg) (sb_ite (fun _ => big g hg))
    · rcases hb with hb | hb
      · have h1 := ih v (by omega) g hb
        exact sb_or (sb_tr h1 (sb_l _ _)) (sb_ite (fun hw2 => big g (h1 w (by omega) hw2)))
      · split at hb
        · rename_i hg
          have h1 := ih v (by omega) w hb
          exact sb_or (sb_tr h1 (big g hg)) (sb_ite (fun _ => big g hg))
        · simp at hb
def rch (E : Nat → Nat → Bool) (g : Nat) : Nat := wr E 5 g
theorem rch_edge {E : Nat → Nat → Bool} {g e : Nat} (he : e < 5) (h : E g e = true) : (rch E g).testBit e = true := wr_ge E g 5 e he (by rw [bfN_get he]; exact h)
theorem rch_tr {E : Nat → Nat → Bool} {g e : Nat} (he : e < 5) (h : (rch E g).testBit e = true) : sb (rch E e) (rch E g) := wr_clo E 5 (Nat.le_refl 5) e he g h
/-! ### those that reach a firm t within k steps -/
def stp (E : Nat → Nat → Bool) (t A : Nat) : Nat := bfN (fun g => E g t || anyN (fun e => E g e && A.testBit e) 5) 5
def stK (E : Nat → Nat → Bool) (t : Nat) : Nat → Nat
  | 0 => 0
  | k + 1 => stp E t (stK E t k)
theorem stp_lt (E : Nat → Nat → Bool) (t A : Nat) : stp E t A < 32 := bfN_lt _ 5 (by omega)
theorem stK_lt (E : Nat → Nat → Bool) (t : Nat) : ∀ k, stK E t k < 32
  | 0 => by show 0 < 32; decide
  | k + 1 => stp_lt E t _
theorem stp_iff {E : Nat → Nat → Bool} {t A g : Nat} (hg : g < 5) : (stp E t A).testBit g = true ↔ E g t = true ∨ ∃ e, e < 5 ∧ E g e = true ∧ A.testBit e = true := by
  unfold stp
  rw [bfN_get hg]
  simp only [Bool.or_eq_true]
  rw [anyN_iff]
  simp only [Bool.and_eq_true]
theorem stp_mono {E : Nat → Nat → Bool} {t A B : Nat} (h : sb A B) : sb (stp E t A) (stp E t B) := by
  intro g hg hb
  rw [stp_iff hg] at hb ⊢
  rcases hb with hb | ⟨e, h1, h2, h3⟩
  · exact Or.inl hb
  · exact Or.inr ⟨e, h1, h2, h e h1 h3⟩
theorem stK_up (E : Nat → Nat → Bool) (t : Nat) : ∀ k, sb (stK E t k) (stK E t (k + 1))
  | 0 => sb_0 _
  | k + 1 => stp_mono (stK_up E t k)
theorem stK_fix {E : Nat → Nat → Bool} {t : Nat} (i : Nat) (h : stK E t (i + 1) = stK E t i) : ∀ j, stK E t (i + j) = stK E t i
  | 0 => rfl
  | j + 1 => by
    show stp E t (stK E t (i + j)) = _
    rw [stK_fix i h j]
    exact h
theorem stK_pop (E : Nat → Nat → Bool) (t : Nat) : ∀ i, (∀ k, k < i → stK E t (k + 1) ≠ stK E t k) → i ≤ popc (stK E t i)
  | 0, _ => Nat.zero_le _
  | i + 1, h => by
    have i1 := stK_pop E t i (fun k hk => h k (by omega))
    have h1 := sb_and (stK_lt E t i) (stK_up E t i)
    have h2 := popc_sub _ (stK_lt E t i) _ (stK_lt E t (i + 1)) h1 (fun q => h i (by omega) q.symm)
    omega
theorem stK_6 (E : Nat → Nat → Bool) (t : Nat) : stK E t 6 = stK E t 5 := by
  by_cases hall : ∀ k, k < 6 → stK E t (k + 1) ≠ stK E t k
  · have h1 := stK_pop E t 6 hall
    have h2 := popc_le _ (stK_lt E t 6)
    omega
  · obtain ⟨k, hk⟩ : ∃ k, k < 6 ∧ stK E t (k + 1) = stK E t k := by
      apply Classical.byContradiction
      intro q
      exact hall (fun k h1 h2 => q ⟨k, h1, h2⟩)
    have h5 := stK_fix k hk.2 (5 - k)
    have h6 := stK_fix k hk.2 (6 - k)
    rw [show k + (5 - k) = 5 by omega] at h5
    rw [show k + (6 - k) = 6 by omega] at h6
    rw [h5, h6]
/-- t is reached from g -/
def rT (E : Nat → Nat → Bool) (g t : Nat) : Prop := (stK E t 5).testBit g = true
theorem rT_edge {E : Nat → Nat → Bool} {g t : Nat} (hg : g < 5) (h : E g t = true) : rT E g t := by
  unfold rT
  rw [← stK_6]
  exact (stp_iff hg).mpr (Or.inl h)
theorem rT_step {E : Nat → Nat → Bool} {g e t : Nat} (hg : g < 5) (he : e < 5) (h : E g e = true) (h2 : rT E e t) : rT E g t := by
  unfold rT
  rw [← stK_6]
  exact (stp_iff hg).mpr (Or.inr ⟨e, he, h, h2⟩)
theorem rT_tr {E : Nat → Nat → Bool} {w t : Nat} (hw : w < 5) : ∀ k g, g < 5 → (stK E w k).testBit g = true → rT E w t → rT E g t
  | 0, g, _, h, _ => by simp [stK] at h
  | k + 1, g, hg, h, ht => by
    rcases (stp_iff hg).mp h with h | ⟨e, h1, h2, h3⟩
    · exact rT_step hg hw h ht
    · exact rT_step hg h1 h2 (rT_tr hw k e h1 h3 ht)
theorem rch_in {E : Nat → Nat → Bool} : ∀ w, w ≤ 5 → ∀ g, g < 5 → ∀ t, t < 5 → (wr E w g).testBit t = true → rT E g t
  | 0, _, g, hg, t, ht, h => by
    simp only [wr] at h
    rw [bfN_get ht] at h
    exact rT_edge hg h
  | w + 1, hw, g, hg, t, ht, h => by
    have ih := rch_in (E := E) w (by omega)
    simp only [wr, Nat.testBit_or, Bool.or_eq_true] at h
    rcases h with h | h
    · exact ih g hg t ht h
    · split at h
      · rename_i c
        exact rT_tr (by omega) 5 g hg (ih g hg w (by omega) c) (ih w (by omega) t ht h)
      · simp at h
theorem rT_rch {E : Nat → Nat → Bool} {t : Nat} (ht : t < 5) : ∀ k g, g < 5 → (stK E t k).testBit g = true → (rch E g).testBit t = true
  | 0, g, _, h => by simp [stK] at h
  | k + 1, g, hg, h => by
    rcases (stp_iff hg).mp h with h | ⟨e, h1, h2, h3⟩
    · exact rch_edge ht h
    · exact rch_tr h1 (rch_edge h1 h2) t ht (rT_rch ht k e h1 h3)
/-! ### the component's rows -/
theorem hold_ok : ∀ g, g < 5 → f_X6_holderOf (nI g) = nI (4 + g) := by decide +kernel
theorem wsh_ok {h g : Nat} {σ : Sg} {H : Hd} (hr : repC h σ H) (hH : okH H) (hg : g < 5) : f_X3_firmsWithShareOf h (nI g) σ = some (nI (bfN (edg H g) 5)) := by
  have hrun := run_FU (fun m k => L_X3_firmsWithShareOf_4 h (nI g) σ m (nI (bfN (edg H g) k)) (nI k)) 5 (some (nI (bfN (edg H g) 5), nI 5)) (by omega) (fun k hk m => by
    have hv := (hr.1 k hk (4 + g) (by omega)).1
    have hb := hH.sh hk (show 4 + g < 10 by omega)
    have hor : nI (bfN (edg H g) k) ||| (nI 1 <<< (nI k &&& nI 31)) = nI (bfN (edg H g) k ||| (1 <<< k)) := or_ok _ (Nat.lt_of_lt_of_le (bfN_lt _ k (by omega)) (by decide : 32 ≤ 512)) k (by omega)
    show L_X3_firmsWithShareOf_4 h (nI g) σ (m + 1) _ (nI k) = _
    rw [L_X3_firmsWithShareOf_4]
    by_cases c : H.1 k (4 + g) ≤ 0
    · have : edg H g k = false := by simp [edg]; omega
      simp (disch := omega) only [li0, li1, li2, li3, li4, li5, li6, li7, li8, li9, li10, li15, li31, li32, li40, li41, li49, li50, li99, li100, li999, c_le, c_lt, c_eq, c_tn, c_inb, c_add, hold_ok g hg, hk, hv, c, show 4 + g < 10 by omega, show ¬ 5 ≤ k by omega, bfN, this, Nat.or_zero, if_true, if_false, ite_true, ite_false, ↓reduceIte, Nat.le_refl, Nat.lt_irrefl, Nat.reduceAdd, Nat.reduceLeDiff, Nat.reduceLT, Nat.reduceEqDiff, Bool.false_eq_true]
    · have : edg H g k = true := by simp [edg]; omega
      simp (disch := omega) only [li0, li1, li2, li3, li4, li5, li6, li7, li8, li9, li10, li15, li31, li32, li40, li41, li49, li50, li99, li100, li999, c_le, c_lt, c_eq, c_tn, c_inb, c_add, hold_ok g hg, hk, hv, c, show 4 + g < 10 by omega, show ¬ 5 ≤ k by omega, bfN, this, hor, if_true, if_false, ite_true, ite_false, ↓reduceIte, Nat.le_refl, Nat.lt_irrefl, Nat.reduceAdd, Nat.reduceLeDiff, Nat.reduceLT, Nat.reduceEqDiff, Bool.false_eq_true]) (fun m => by
    show L_X3_firmsWithShareOf_4 h (nI g) σ (m + 1) _ (nI 5) = _
    rw [L_X3_firmsWithShareOf_4]
    simp (disch := omega) only [li0, li1, li2, li3, li4, li5, li6, li7, li8, li9, li10, li15, li31, li32, li40, li41, li49, li50, li99, li100, li999, c_le, c_lt, c_eq, c_tn, c_inb, c_add, if_true, if_false, ite_true, ite_false, ↓reduceIte, Nat.le_refl, Nat.lt_irrefl, Nat.reduceAdd, Nat.reduceLeDiff, Nat.reduceLT, Nat.reduceEqDiff, Bool.false_eq_true])
  unfold f_X3_firmsWithShareOf
  rw [show L_X3_firmsWithShareOf_4 h (nI g) σ FU 0 0 = _ from hrun]
  rfl
def reachOK (σ : Sg) (H : Hd) : Prop := ∀ g, g < 5 → σ.1 87 g = nI (rch (edg H) g)
theorem reach_33 {w : Nat} {σ : Sg} {E : Nat → Nat → Bool} (hw : w < 5) (h : ∀ g, g < 5 → σ.1 87 g = nI (wr E w g)) : ∃ σ', L_X3_workOut_33 (nI w) FU 0 σ = some (nI 5, σ') ∧ (∀ g, g < 5 → σ'.1 87 g = nI (wr E (w + 1) g)) ∧ fr (fun j => j = 87) σ σ' := by
  have ww : wr E (w + 1) w = wr E w w := by
    simp only [wr]
    split
    · exact Nat.or_self _
    · exact Nat.or_zero _
  refine ex_use (loop_inv (fun m k (a : Sg) => L_X3_workOut_33 (nI w) m (nI k) a) (fun k a => (∀ g, g < 5 → a.1 87 g = nI (if g < k then wr E (w + 1) g else wr E w g)) ∧ fr (fun j => j = 87) σ a) 5 (fun a => (nI 5, a)) (by decide) (fun k hk m a ha => ?_) (fun m a ha => ?_) σ ⟨fun g hg => by simp [h g hg], fr.rf⟩) (fun σ' h1 h2 => ⟨σ', h2, fun g hg => by rw [h1.1 g hg, if_pos hg], h1.2⟩)
  · obtain ⟨i1, i2⟩ := ha
    have e1 := i1 k hk
    rw [if_neg (Nat.lt_irrefl k)] at e1
    have e2 : a.1 87 w = nI (wr E w w) := by
      rw [i1 w hw]
      split
      · rw [ww]
      · rfl
    have hb := has_ok _ (wr_lt E w k) w hw
    rcases Bool.eq_false_or_eq_true ((wr E w k).testBit w) with c | c
    · rw [c] at hb
      have hor := oror_ok _ (wr_lt E w k) _ (wr_lt E w w)
      refine ⟨_, (by rw [L_X3_workOut_33]; simp (disch := omega) only [li0, li1, li2, li3, li4, li5, li6, li7, li8, li9, li10, li15, li31, li32, li40, li41, li49, li50, li99, li100, li999, c_le, c_lt, c_eq, c_tn, c_inb, c_add, hk, hw, e1, e2, hb, b2i_t, Nat.one_ne_zero, show ¬ 5 ≤ k by omega, jn, hor, if_true, if_false, ite_true, ite_false, ↓reduceIte, Nat.le_refl, Nat.lt_irrefl, Nat.reduceAdd, Nat.reduceLeDiff, Nat.reduceLT, Nat.reduceEqDiff, Bool.false_eq_true]; rfl), fun g hg => ?_, i2.tr (fr.setR rfl)⟩
      by_cases e : g = k
      · subst e
        simp (disch := omega) only [sR_s, sR_n, sL_s, sL_n, sR_2, sL_1, up_s, up_n]
        rw [if_pos (by omega)]
        simp only [wr, c, if_true]
      · simp (disch := omega) only [sR_s, sR_n, sL_s, sL_n, sR_2, sL_1, up_s, up_n]
        rw [i1 g hg]
        simp only [show (g < k + 1) = (g < k) from propext ⟨fun h => by omega, fun h => by omega⟩]
    · rw [c] at hb
      refine ⟨a, (by rw [L_X3_workOut_33]; simp (disch := omega) only [li0, li1, li2, li3, li4, li5, li6, li7, li8, li9, li10, li15, li31, li32, li40, li41, li49, li50, li99, li100, li999, c_le, c_lt, c_eq, c_tn, c_inb, c_add, hk, e1, hb, b2i_f, show ¬ 5 ≤ k by omega, if_true, if_false, ite_true, ite_false, ↓reduceIte, Nat.le_refl, Nat.lt_irrefl, Nat.reduceAdd, Nat.reduceLeDiff, Nat.reduceLT, Nat.reduceEqDiff, Bool.false_eq_true]), fun g hg => ?_, i2⟩
      rw [i1 g hg]
      by_cases e : g = k
      · subst e
        rw [if_neg (by omega), if_pos (by omega)]
        simp only [wr, c, Bool.false_eq_true, if_false, Nat.or_zero]
      · simp only [show (g < k + 1) = (g < k) from propext ⟨fun h => by omega, fun h => by omega⟩]
  · rw [L_X3_workOut_33]
    simp (disch := omega) only [li0, li1, li2, li3, li4, li5, li6, li7, li8, li9, li10, li15, li31, li32, li40, li41, li49, li50, li99, li100, li999, c_le, c_lt, c_eq, c_tn, c_inb, c_add, if_true, if_false, ite_true, ite_false, ↓reduceIte, Nat.le_refl, Nat.lt_irrefl, Nat.reduceAdd, Nat.reduceLeDiff, Nat.reduceLT, Nat.reduceEqDiff, Bool.false_eq_true]
theorem reach_ok {h : Nat} {σ : Sg} {H : Hd} (hh : h + 13 < 87) (hr : repC h σ H) (hH : okH H) : ∃ σ', f_X3_workOut h σ = some σ' ∧ reachOK σ' H ∧ fr (fun j => j = 87) σ σ' := by
  refine ex_use (loop_inv (fun m k (a : Sg) => L_X3_workOut_2 h m (nI k) a) (fun k a => (∀ g, g < k → a.1 87 g = nI (wr (edg H) 0 g)) ∧ fr (fun j => j = 87) σ a) 5 (fun a => (nI 5, a)) (by decide) (fun k hk m a ha => ?_) (fun m a ha => ?_) σ ⟨fun g hg => absurd hg (by omega), fr.rf⟩) (fun σ1 h1 h2 => ?_)
  · have hs := wsh_ok (h := h) (σ := a) (hr.kept (fun j g1 g2 => (ha.2 j (by omega)).1)) hH hk
    refine ⟨_, (by rw [L_X3_workOut_2]; simp (disch := omega) only [li0, li1, li2, li3, li4, li5, li6, li7, li8, li9, li10, li15, li31, li32, li40, li41, li49, li50, li99, li100, li999, c_le, c_lt, c_eq, c_tn, c_inb, c_add, hk, hs, Option.bind_some, show ¬ 5 ≤ k by omega, jn, if_true, if_false, ite_true, ite_false, ↓reduceIte, Nat.le_refl, Nat.lt_irrefl, Nat.reduceAdd, Nat.reduceLeDiff, Nat.reduceLT, Nat.reduceEqDiff, Bool.false_eq_true]; rfl), fun g hg => ?_, ha.2.tr (fr.setR rfl)⟩
    by_cases e : g = k
    · subst e; simp (disch := omega) only [sR_s, sR_n, sL_s, sL_n, sR_2, sL_1, up_s, up_n]; rfl
    · simp (disch := omega) only [sR_s, sR_n, sL_s, sL_n, sR_2, sL_1, up_s, up_n]
      exact ha.1 g (by omega)
  · rw [L_X3_workOut_2]
    simp (disch := omega) only [li0, li1, li2, li3, li4, li5, li6, li7, li8, li9, li10, li15, li31, li32, li40, li41, li49, li50, li99, li100, li999, c_le, c_lt, c_eq, c_tn, c_inb, c_add, if_true, if_false, ite_true, ite_false, ↓reduceIte, Nat.le_refl, Nat.lt_irrefl, Nat.reduceAdd, Nat.reduceLeDiff, Nat.reduceLT, Nat.reduceEqDiff, Bool.false_eq_true]
  · refine ex_use (loop_inv (fun m k (a : Sg) => L_X3_workOut_26 m (nI k) a) (fun k a => (∀ g, g < 5 → a.1 87 g = nI (wr (edg H) k g)) ∧ fr (fun j => j = 87) σ1 a) 5 (fun a => (nI 5, a)) (by decide) (fun k hk m a ha => ?_) (fun m a ha => ?_) σ1 ⟨h1.1, fr.rf⟩) (fun σ2 h3 h4 => ?_)
    · obtain ⟨σ3, e1, e2, e3⟩ := reach_33 hk ha.1
      refine ⟨σ3, ?_, e2, ha.2.tr e3⟩
      show L_X3_workOut_26 (m + 1) (nI k) a = _
      rw [L_X3_workOut_26]
      simp (disch := omega) only [li0, li1, li2, li3, li4, li5, li6, li7, li8, li9, li10, li15, li31, li32, li40, li41, li49, li50, li99, li100, li999, c_le, c_lt, c_eq, c_tn, c_inb, c_add, show ¬ 5 ≤ k by omega, if_true, if_false, ite_true, ite_false, ↓reduceIte, Nat.le_refl, Nat.lt_irrefl, Nat.reduceAdd, Nat.reduceLeDiff, Nat.reduceLT, Nat.reduceEqDiff, Bool.false_eq_true]
      rw [show L_X3_workOut_33 (nI k) FU (nI 0) a = _ from e1]
      rfl
    · rw [L_X3_workOut_26]
      simp (disch := omega) only [li0, li1, li2, li3, li4, li5, li6, li7, li8, li9, li10, li15, li31, li32, li40, li41, li49, li50, li99, li100, li999, c_le, c_lt, c_eq, c_tn, c_inb, c_add, if_true, if_false, ite_true, ite_false, ↓reduceIte, Nat.le_refl, Nat.lt_irrefl, Nat.reduceAdd, Nat.reduceLeDiff, Nat.reduceLT, Nat.reduceEqDiff, Bool.false_eq_true]
    · refine ⟨σ2, ?_, h3.1, h1.2.tr h3.2⟩
      unfold f_X3_workOut
      rw [show L_X3_workOut_2 h FU 0 σ = _ from h2, Option.bind_some]
      rw [show L_X3_workOut_26 FU 0 σ1 = _ from h4]
      rfl
def crc (H : Hd) (f g : Nat) : Bool := (rch (edg H) f).testBit g && (rch (edg H) g).testBit f
theorem circ_ok {f : Nat} {σ : Sg} {H : Hd} (hf : f < 5) (hr : reachOK σ H) : f_X3_circleOf (nI f) σ = some (nI (bfN (crc H f) 5)) := by
  have hrun := run_FU (fun m k => L_X3_circleOf_4 (nI f) σ m (nI (bfN (crc H f) k)) (nI k)) 5 (some (nI (bfN (crc H f) 5), nI 5)) (by omega) (fun k hk m => by
    have h1 := has_ok _ (wr_lt (edg H) 5 f) k hk
    have h2 := has_ok _ (wr_lt (edg H) 5 k) f hf
    have hor : nI (bfN (crc H f) k) ||| (nI 1 <<< (nI k &&& nI 31)) = nI (bfN (crc H f) k ||| (1 <<< k)) := or_ok _ (Nat.lt_of_lt_of_le (bfN_lt _ k (by omega)) (by decide : 32 ≤ 512)) k (by omega)
    have q1 := hr f hf
    have q2 := hr k hk
    unfold rch at q1 q2
    show L_X3_circleOf_4 (nI f) σ (m + 1) _ (nI k) = _
    rw [L_X3_circleOf_4]
    rcases Bool.eq_false_or_eq_true ((wr (edg H) 5 f).testBit k) with c1 | c1
    · rw [c1] at h1
      rcases Bool.eq_false_or_eq_true ((wr (edg H) 5 k).testBit f) with c2 | c2
      · rw [c2] at h2
        have : crc H f k = true := by simp [crc, rch, c1, c2]
        simp (disch := omega) only [li0, li1, li2, li3, li4, li5, li6, li7, li8, li9, li10, li15, li31, li32, li40, li41, li49, li50, li99, li100, li999, c_le, c_lt, c_eq, c_tn, c_inb, c_add, hf, hk, q1, q2, h1, h2, b2i_t, Nat.one_ne_zero, show ¬ 5 ≤ k by omega, bfN, this, hor, if_true, if_false, ite_true, ite_false, ↓reduceIte, Nat.le_refl, Nat.lt_irrefl, Nat.reduceAdd, Nat.reduceLeDiff, Nat.reduceLT, Nat.reduceEqDiff, Bool.false_eq_true]
      · rw [c2] at h2
        have : crc H f k = false := by simp [crc, rch, c2]
        simp (disch := omega) only [li0, li1, li2, li3, li4, li5, li6, li7, li8, li9, li10, li15, li31, li32, li40, li41, li49, li50, li99, li100, li999, c_le, c_lt, c_eq, c_tn, c_inb, c_add, hf, hk, q1, q2, h1, h2, b2i_t, b2i_f, Nat.one_ne_zero, show ¬ 5 ≤ k by omega, bfN, this, Nat.or_zero, if_true, if_false, ite_true, ite_false, ↓reduceIte, Nat.le_refl, Nat.lt_irrefl, Nat.reduceAdd, Nat.reduceLeDiff, Nat.reduceLT, Nat.reduceEqDiff, Bool.false_eq_true]
    · rw [c1] at h1
      have : crc H f k = false := by simp [crc, rch, c1]
      simp (disch := omega) only [li0, li1, li2, li3, li4, li5, li6, li7, li8, li9, li10, li15, li31, li32, li40, li41, li49, li50, li99, li100, li999, c_le, c_lt, c_eq, c_tn, c_inb, c_add, hf, q1, h1, b2i_f, show ¬ 5 ≤ k by omega, bfN, this, Nat.or_zero, if_true, if_false, ite_true, ite_false, ↓reduceIte, Nat.le_refl, Nat.lt_irrefl, Nat.reduceAdd, Nat.reduceLeDiff, Nat.reduceLT, Nat.reduceEqDiff, Bool.false_eq_true]) (fun m => by
    show L_X3_circleOf_4 (nI f) σ (m + 1) _ (nI 5) = _
    rw [L_X3_circleOf_4]
    simp (disch := omega) only [li0, li1, li2, li3, li4, li5, li6, li7, li8, li9, li10, li15, li31, li32, li40, li41, li49, li50, li99, li100, li999, c_le, c_lt, c_eq, c_tn, c_inb, c_add, if_true, if_false, ite_true, ite_false, ↓reduceIte, Nat.le_refl, Nat.lt_irrefl, Nat.reduceAdd, Nat.reduceLeDiff, Nat.reduceLT, Nat.reduceEqDiff, Bool.false_eq_true])
  unfold f_X3_circleOf
  rw [show L_X3_circleOf_4 (nI f) σ FU 0 0 = _ from hrun]
  rfl
