/-! THE FEWEST VOTES -/
theorem cpy10 {f g : Nat → Int32} {k : Nat} (hk : k < 10) : va_cpy f g (0 : Int32).toNatClampNeg (0 : Int32).toNatClampNeg (10 : Int32).toNatClampNeg k = f k := by
  show (if 0 ≤ k ∧ k < 0 + 10 then f (0 + (k - 0)) else g k) = f k
  rw [if_pos (by omega), Nat.zero_add, Nat.sub_zero]
theorem hcopy_ok {σ : Sg} {H : Hd} (hr : repC 25 σ H) : ∃ σ', f_X2_copyFrom 39 25 σ = some σ' ∧ repC 39 σ' H ∧ fr (inH 39) σ σ' := by
  have hc : (0 ≤ Int32.toInt 0 ∧ 0 ≤ Int32.toInt 0 ∧ 0 ≤ Int32.toInt 10) ∧ Int32.toInt 0 + Int32.toInt 10 ≤ 10 ∧ Int32.toInt 0 + Int32.toInt 10 ≤ 10 := by decide
  refine ex_use (loop_inv (fun m k (a : Sg) => L_X2_copyFrom_2 39 25 m (nI k) a) (fun k a => (∀ f, f < k → (∀ j, j < 10 → a.1 (39 + 1 + 1 + f) j = σ.1 (25 + 1 + 1 + f) j ∧ a.1 (39 + 7 + 1 + f) j = σ.1 (25 + 7 + 1 + f) j) ∧ a.1 (39 + 13) f = σ.1 (25 + 13) f) ∧ fr (inH 39) σ a) 5 (fun a => (nI 5, a)) (by decide) (fun k hk m a ha => ?_) (fun m a ha => ?_) σ ⟨fun f hf => absurd hf (by omega), fr.rf⟩) (fun σ' h1 h2 => ?_)
  · have q : ∀ j, j ≤ 38 → a.1 j = σ.1 j := fun j hj => (ha.2 j (by unfold inH; omega)).1
    refine ⟨_, (by rw [L_X2_copyFrom_2]; simp only [if_pos hc]; simp (disch := omega) only [li0, li1, li2, li3, li4, li5, li6, li7, li8, li9, li10, li15, li31, li32, li40, li41, li49, li50, li99, li100, li999, c_le, c_lt, c_eq, c_tn, c_inb, c_add, hk, show ¬ 5 ≤ k by omega, jn, if_true, if_false, ite_true, ite_false, ↓reduceIte, Nat.le_refl, Nat.lt_irrefl, Nat.reduceAdd, Nat.reduceLeDiff, Nat.reduceLT, Nat.reduceEqDiff, Bool.false_eq_true]; rfl), fun f hf => ?_, ?_⟩
    · by_cases e : f = k
      · subst e
        refine ⟨fun j hj => ?_, ?_⟩
        · simp (disch := omega) only [sR_s, sR_n, va_cpy, Nat.zero_le, true_and, Nat.zero_add, hj, if_true, Nat.sub_zero]
          rw [q (25 + 1 + 1 + f) (by omega), q (25 + 7 + 1 + f) (by omega)]
          exact ⟨rfl, rfl⟩
        · simp (disch := omega) only [sR_s, sR_n, sL_s, sL_n, sR_2, sL_1, up_s, up_n]
          rw [q (25 + 13) (by omega)]
      · have := ha.1 f (by omega)
        refine ⟨fun j hj => ?_, ?_⟩
        · simp (disch := omega) only [sR_s, sR_n, sL_s, sL_n, sR_2, sL_1, up_s, up_n]
          exact this.1 j hj
        · simp (disch := omega) only [sR_s, sR_n, sL_s, sL_n, sR_2, sL_1, up_s, up_n]
          exact this.2
    · refine ((ha.2.tr (fr.setR ?_)).tr (fr.setR ?_)).tr (fr.setR ?_) <;> unfold inH <;> omega
  · rw [L_X2_copyFrom_2]
    simp (disch := omega) only [li0, li1, li2, li3, li4, li5, li6, li7, li8, li9, li10, li15, li31, li32, li40, li41, li49, li50, li99, li100, li999, c_le, c_lt, c_eq, c_tn, c_inb, c_add, if_true, if_false, ite_true, ite_false, ↓reduceIte, Nat.le_refl, Nat.lt_irrefl, Nat.reduceAdd, Nat.reduceLeDiff, Nat.reduceLT, Nat.reduceEqDiff, Bool.false_eq_true]
  · refine ⟨σ', ?_, ⟨fun f hf k hk => ?_, fun f hf => ?_⟩, h1.2⟩
    · unfold f_X2_copyFrom
      rw [show L_X2_copyFrom_2 39 25 FU 0 σ = _ from h2]
      rfl
    · rw [((h1.1 f hf).1 k hk).1, ((h1.1 f hf).1 k hk).2]
      exact hr.1 f hf k hk
    · rw [(h1.1 f hf).2]
      exact hr.2 f hf
/-- k votes over f moved from a to b -/
def Hk (H : Hd) (f a b k : Nat) : Hd := (H.1, mvN H.2.1 f a b k, H.2.2)
theorem Hk_ok {H : Hd} (hH : okH H) {f a b k : Nat} (ha : a < 10) (hb : b < 10) (hab : a ≠ b) (hle : k ≤ H.2.1 f a) : okH (Hk H f a b k) := by
  intro g hg
  refine ⟨(hH g hg).1, ?_, (hH g hg).2.2⟩
  by_cases e : g = f
  · subst e
    exact (mvN_sum ha hb hab hle).trans (hH g hg).2.1
  · exact (sumN_congr (fun k _ => by simp [Hk, mvN, e])).trans (hH g hg).2.1
theorem Hk_a {H : Hd} {f a b k : Nat} (hab : a ≠ b) : (Hk H f a b k).2.1 f a = H.2.1 f a - k := by simp [Hk, mvN, hab]
theorem Hk_b {H : Hd} {f a b k : Nat} : (Hk H f a b k).2.1 f b = H.2.1 f b + k := by simp [Hk, mvN]
theorem Hk_o {H : Hd} {f a b k g j : Nat} (h : g ≠ f ∨ (j ≠ a ∧ j ≠ b)) : (Hk H f a b k).2.1 g j = H.2.1 g j := by
  simp only [Hk, mvN]
  by_cases e : g = f
  · rcases h with h | h
    · exact absurd e h
    · simp [e, h.1, h.2]
  · simp [e]
theorem Hk_0 {H : Hd} {f a b : Nat} (g j : Nat) : (Hk H f a b 0).2.1 g j = H.2.1 g j := by
  simp only [Hk, mvN]
  by_cases e : g = f
  · subst e
    by_cases e2 : j = b
    · simp [e2]
    · by_cases e3 : j = a
      · subst e3
        simp [e2]
      · simp [e2, e3]
  · simp [e]
theorem repC_eq {h : Nat} {σ : Sg} {H H' : Hd} (hr : repC h σ H) (e1 : H'.1 = H.1) (e2 : ∀ g j, H'.2.1 g j = H.2.1 g j) (e3 : H'.2.2 = H.2.2) : repC h σ H' := by
  refine ⟨fun f hf k hk => ?_, fun f hf => ?_⟩
  · rw [e1, e2]; exact hr.1 f hf k hk
  · rw [e3]; exact hr.2 f hf
def fwP (B : Bk) (H : Hd) (f a b x : Nat) (w : Bool) (k : Nat) : Bool := decide ((ctl (Hk H f a b k) (bH B) (bM B) x 5).testBit f = w)
def fwR (p : Nat → Bool) (n : Nat) (σ : Sg) (S : Nat → Prop) (q : Option ((Int32 × Sg) ⊕ (Int32 × Sg))) : Prop := ∃ a, fr S σ a ∧ ((∃ k, k ≤ n ∧ p k = true ∧ (∀ j, j < k → p j = false) ∧ q = some (.inl (nI k, a))) ∨ ((∀ j, j ≤ n → p j = false) ∧ q = some (.inr (nI (n + 1), a))))
def inT (j : Nat) : Prop := (39 < j ∧ j ≤ 52) ∨ (66 < j ∧ j ≤ 78)
theorem move_Hk {σ : Sg} {H : Hd} {f a b k : Nat} (hf : f < 5) (hH : okH H) (ha : a < 10) (hb : b < 10) (hab : a ≠ b) (hr : repC 39 σ (Hk H f a b k)) (hk : k + 1 ≤ H.2.1 f a) : ∃ σ', f_X2_move (47 + f) (nI a) (nI b) (nI 1) σ = some (1, σ') ∧ repC 39 σ' (Hk H f a b (k + 1)) ∧ fr (inH 39) σ σ' := by
  have va := hH.vo hf ha
  have vb := hH.vo hf hb
  have r1 : σ.1 (47 + f) a = nI (H.2.1 f a - k) := by
    have := (hr.1 f hf a ha).2
    rw [Hk_a hab] at this
    exact this
  have r2 : σ.1 (47 + f) b = nI (H.2.1 f b + k) := by
    have := (hr.1 f hf b hb).2
    rw [Hk_b] at this
    exact this
  obtain ⟨s, e1, e2, e3⟩ := move_ok (r := 47 + f) (n := 1) ha hb hab (by omega) (by omega) (by omega) r1 r2 (by omega)
  refine ⟨s, e1, ⟨fun g hg j hj => ⟨?_, ?_⟩, fun g hg => ?_⟩, e3.mono (fun j hj => by unfold inH; omega)⟩
  · rw [(e3 (39 + 1 + 1 + g) (by omega)).1]
    exact (hr.1 g hg j hj).1
  · by_cases e : g = f
    · subst e
      rw [show 39 + 7 + 1 + g = 47 + g by omega, e2]
      by_cases c1 : j = b
      · subst c1
        rw [up_s, Hk_b, show H.2.1 g j + k + 1 = H.2.1 g j + (k + 1) by omega]
      · by_cases c2 : j = a
        · subst c2
          rw [up_n _ _ c1, up_s, Hk_a hab, show H.2.1 g j - k - 1 = H.2.1 g j - (k + 1) by omega]
        · rw [up_n _ _ c1, up_n _ _ c2, Hk_o (Or.inr ⟨c2, c1⟩)]
          have := (hr.1 g hg j hj).2
          rw [Hk_o (Or.inr ⟨c2, c1⟩)] at this
          exact this
    · rw [(e3 (39 + 7 + 1 + g) (by omega)).1, Hk_o (Or.inl e)]
      have := (hr.1 g hg j hj).2
      rw [Hk_o (Or.inl e)] at this
      exact this
  · rw [(e3 (39 + 13) (by omega)).1]
    exact hr.2 g hg
theorem would_ok {B : Bk} {σ : Sg} {H : Hd} {x f : Nat} (hB : okB B) (hb : repB 1 σ B) (hr : repC 39 σ H) (hH : okH H) (hx : x < 9) (hf : f < 5) : ∃ σ', f_X6_wouldControl (nI x) (nI f) σ = some (b2i ((ctl H (bH B) (bM B) x 5).testBit f), σ') ∧ fr (fun j => 66 < j ∧ j ≤ 78) σ σ' := by
  obtain ⟨b1, b2, b3, b4, b5, b6, b7, b8⟩ := hB
  obtain ⟨s, e1, e2, e3⟩ := wo_ok (c := 66) (h := 39) (b := 1) (x := x) (by unfold apC; omega) hr hH hb.2.2.1 hb.2.2.2.1 (by omega) (by omega) hx
  refine ⟨s, ?_, e3.1.mono (fun j hj => by unfold inC at hj; omega)⟩
  have hrow : s.1 67 x = nI (ctl H (bH B) (bM B) x 5) := e2.1
  unfold f_X6_wouldControl
  rw [e1]
  simp (disch := omega) only [li0, li1, li2, li3, li4, li5, li6, li7, li8, li9, li10, li15, li31, li32, li40, li41, li49, li50, li99, li100, li999, c_le, c_lt, c_eq, c_tn, c_inb, c_add, hx, hrow, has_ok _ (ctl_lt H (bH B) (bM B) x 5) f hf, Option.bind_some, if_true, if_false, ite_true, ite_false, ↓reduceIte, Nat.le_refl, Nat.lt_irrefl, Nat.reduceAdd, Nat.reduceLeDiff, Nat.reduceLT, Nat.reduceEqDiff, Bool.false_eq_true]
theorem sell26 {B : Bk} {σ : Sg} {H : Hd} {x f : Nat} (hB : okB B) (hb : repB 1 σ B) (hr : repC 39 σ H) (hH : okH H) (hx : x < 9) (hf : f < 5) : fwR (fwP B H f x 9 x false) (H.2.1 f x) σ inT (L_X6_fewestToSell_26 (nI x) (nI f) (nI (H.2.1 f x)) FU 0 σ) := by
  have vb := hH.vo hf (show x < 10 by omega)
  refine run_invFU (fun m k (a : Sg) => L_X6_fewestToSell_26 (nI x) (nI f) (nI (H.2.1 f x)) m (nI k) a) (fun k a => (k ≤ H.2.1 f x → repC 39 a (Hk H f x 9 k)) ∧ fr inT σ a ∧ ∀ j, j < k → fwP B H f x 9 x false j = false) (H.2.1 f x + 1) (fwR (fwP B H f x 9 x false) (H.2.1 f x) σ inT) (by omega) (fun k hk m a ha => ?_) (fun m a ha => ?_) σ ⟨fun _ => repC_eq hr rfl (fun g j => Hk_0 g j) rfl, fr.rf, fun j hj => absurd hj (by omega)⟩
  · obtain ⟨i1, i2, i3⟩ := ha
    have r1 := i1 (by omega)
    have okk := Hk_ok (f := f) (k := k) hH (show x < 10 by omega) (show 9 < 10 by omega) (by omega) (by omega)
    obtain ⟨s1, e1, e2⟩ := would_ok (x := x) (f := f) hB (hb.kept (fun j g1 g2 => (i2 j (by unfold inT; omega)).1)) r1 okk hx hf
    have f1 : fr inT σ s1 := i2.tr (e2.mono (fun j hj => Or.inr hj))
    cases q : (ctl (Hk H f x 9 k) (bH B) (bM B) x 5).testBit f with
    | false =>
      right
      rw [q] at e1
      refine ⟨s1, f1, Or.inl ⟨k, by omega, by simp [fwP, q], i3, ?_⟩⟩
      rw [L_X6_fewestToSell_26]
      simp (disch := omega) only [li0, li1, li2, li3, li4, li5, li6, li7, li8, li9, li10, li15, li31, li32, li40, li41, li49, li50, li99, li100, li999, c_le, c_lt, c_eq, c_tn, c_inb, c_add, show ¬ H.2.1 f x < k by omega, e1, b2i_f, Option.bind_some, if_true, if_false, ite_true, ite_false, ↓reduceIte, Nat.le_refl, Nat.lt_irrefl, Nat.reduceAdd, Nat.reduceLeDiff, Nat.reduceLT, Nat.reduceEqDiff, Bool.false_eq_true]
    | true =>
      left
      rw [q] at e1
      have i3' : ∀ j, j < k + 1 → fwP B H f x 9 x false j = false := fun j hj => by
        by_cases e : j = k
        · subst e; simp [fwP, q]
        · exact i3 j (by omega)
      have r2 : repC 39 s1 (Hk H f x 9 k) := r1.kept (fun j g1 g2 => (e2 j (by omega)).1)
      by_cases c : k + 1 ≤ H.2.1 f x
      · obtain ⟨s2, g1, g2, g3⟩ := move_Hk hf hH (show x < 10 by omega) (show 9 < 10 by omega) (by omega) r2 c
        refine ⟨s2, ⟨fun _ => g2, f1.tr (g3.mono (fun j hj => by unfold inH at hj; unfold inT; omega)), i3'⟩, ?_⟩
        rw [L_X6_fewestToSell_26]
        simp (disch := omega) only [li0, li1, li2, li3, li4, li5, li6, li7, li8, li9, li10, li15, li31, li32, li40, li41, li49, li50, li99, li100, li999, c_le, c_lt, c_eq, c_tn, c_inb, c_add, show ¬ H.2.1 f x < k by omega, e1, b2i_t, Option.bind_some, hf, g1, Nat.one_ne_zero, if_true, if_false, ite_true, ite_false, ↓reduceIte, Nat.le_refl, Nat.lt_irrefl, Nat.reduceAdd, Nat.reduceLeDiff, Nat.reduceLT, Nat.reduceEqDiff, Bool.false_eq_true]
      · have rv : s1.1 (47 + f) x = nI (H.2.1 f x - k) := by
          have := (r2.1 f hf x (by omega)).2
          rw [Hk_a (by omega)] at this
          exact this
        have g1 := move_no (r := 47 + f) (a := x) (b := 9) (n := 1) (va := H.2.1 f x - k) (σ := s1) (by omega) (by omega) (by omega) rv (by omega)
        refine ⟨s1, ⟨fun q => absurd q c, f1, i3'⟩, ?_⟩
        rw [L_X6_fewestToSell_26]
        simp (disch := omega) only [li0, li1, li2, li3, li4, li5, li6, li7, li8, li9, li10, li15, li31, li32, li40, li41, li49, li50, li99, li100, li999, c_le, c_lt, c_eq, c_tn, c_inb, c_add, show ¬ H.2.1 f x < k by omega, e1, b2i_t, Option.bind_some, hf, g1, Nat.one_ne_zero, if_true, if_false, ite_true, ite_false, ↓reduceIte, Nat.le_refl, Nat.lt_irrefl, Nat.reduceAdd, Nat.reduceLeDiff, Nat.reduceLT, Nat.reduceEqDiff, Bool.false_eq_true]
  · refine ⟨a, ha.2.1, Or.inr ⟨fun j hj => ha.2.2 j (by omega), ?_⟩⟩
    rw [L_X6_fewestToSell_26]
    simp (disch := omega) only [li0, li1, li2, li3, li4, li5, li6, li7, li8, li9, li10, li15, li31, li32, li40, li41, li49, li50, li99, li100, li999, c_le, c_lt, c_eq, c_tn, c_inb, c_add, show H.2.1 f x < H.2.1 f x + 1 by omega, if_true, if_false, ite_true, ite_false, ↓reduceIte, Nat.le_refl, Nat.lt_irrefl, Nat.reduceAdd, Nat.reduceLeDiff, Nat.reduceLT, Nat.reduceEqDiff, Bool.false_eq_true]
theorem buy39 {B : Bk} {σ : Sg} {H : Hd} {x f n : Nat} (hB : okB B) (hb : repB 1 σ B) (hr : repC 39 σ H) (hH : okH H) (hx : x < 9) (hf : f < 5) (hn : n ≤ H.2.1 f 9) : fwR (fwP B H f 9 x x true) n σ inT (L_X6_fewestToBuy_39 (nI x) (nI f) (nI n) FU 0 σ) := by
  have vb := hH.vo hf (show 9 < 10 by omega)
  refine run_invFU (fun m k (a : Sg) => L_X6_fewestToBuy_39 (nI x) (nI f) (nI n) m (nI k) a) (fun k a => (k ≤ n → repC 39 a (Hk H f 9 x k)) ∧ fr inT σ a ∧ ∀ j, j < k → fwP B H f 9 x x true j = false) (n + 1) (fwR (fwP B H f 9 x x true) n σ inT) (by omega) (fun k hk m a ha => ?_) (fun m a ha => ?_) σ ⟨fun _ => repC_eq hr rfl (fun g j => Hk_0 g j) rfl, fr.rf, fun j hj => absurd hj (by omega)⟩
  · obtain ⟨i1, i2, i3⟩ := ha
    have r1 := i1 (by omega)
    have okk := Hk_ok (f := f) (k := k) hH (show 9 < 10 by omega) (show x < 10 by omega) (by omega) (by omega)
    obtain ⟨s1, e1, e2⟩ := would_ok (x := x) (f := f) hB (hb.kept (fun j g1 g2 => (i2 j (by unfold inT; omega)).1)) r1 okk hx hf
    have f1 : fr inT σ s1 := i2.tr (e2.mono (fun j hj => Or.inr hj))
    cases q : (ctl (Hk H f 9 x k) (bH B) (bM B) x 5).testBit f with
    | true =>
      right
      rw [q] at e1
      refine ⟨s1, f1, Or.inl ⟨k, by omega, by simp [fwP, q], i3, ?_⟩⟩
      rw [L_X6_fewestToBuy_39]
      simp (disch := omega) only [li0, li1, li2, li3, li4, li5, li6, li7, li8, li9, li10, li15, li31, li32, li40, li41, li49, li50, li99, li100, li999, c_le, c_lt, c_eq, c_tn, c_inb, c_add, show ¬ n < k by omega, e1, b2i_t, Option.bind_some, Nat.one_ne_zero, if_true, if_false, ite_true, ite_false, ↓reduceIte, Nat.le_refl, Nat.lt_irrefl, Nat.reduceAdd, Nat.reduceLeDiff, Nat.reduceLT, Nat.reduceEqDiff, Bool.false_eq_true]
    | false =>
      left
      rw [q] at e1
      have i3' : ∀ j, j < k + 1 → fwP B H f 9 x x true j = false := fun j hj => by
        by_cases e : j = k
        · subst e; simp [fwP, q]
        · exact i3 j (by omega)
      have r2 : repC 39 s1 (Hk H f 9 x k) := r1.kept (fun j g1 g2 => (e2 j (by omega)).1)
      by_cases c : k + 1 ≤ H.2.1 f 9
      · obtain ⟨s2, g1, g2, g3⟩ := move_Hk hf hH (show 9 < 10 by omega) (show x < 10 by omega) (by omega) r2 c
        refine ⟨s2, ⟨fun _ => g2, f1.tr (g3.mono (fun j hj => by unfold inH at hj; unfold inT; omega)), i3'⟩, ?_⟩
        rw [L_X6_fewestToBuy_39]
        simp (disch := omega) only [li0, li1, li2, li3, li4, li5, li6, li7, li8, li9, li10, li15, li31, li32, li40, li41, li49, li50, li99, li100, li999, c_le, c_lt, c_eq, c_tn, c_inb, c_add, show ¬ n < k by omega, e1, b2i_f, Option.bind_some, hf, g1, if_true, if_false, ite_true, ite_false, ↓reduceIte, Nat.le_refl, Nat.lt_irrefl, Nat.reduceAdd, Nat.reduceLeDiff, Nat.reduceLT, Nat.reduceEqDiff, Bool.false_eq_true]
      · have rv : s1.1 (47 + f) 9 = nI (H.2.1 f 9 - k) := by
          have := (r2.1 f hf 9 (by omega)).2
          rw [Hk_a (by omega)] at this
          exact this
        have g1 := move_no (r := 47 + f) (a := 9) (b := x) (n := 1) (va := H.2.1 f 9 - k) (σ := s1) (by omega) (by omega) (by omega) rv (by omega)
        refine ⟨s1, ⟨fun q => absurd q (by omega), f1, i3'⟩, ?_⟩
        rw [L_X6_fewestToBuy_39]
        simp (disch := omega) only [li0, li1, li2, li3, li4, li5, li6, li7, li8, li9, li10, li15, li31, li32, li40, li41, li49, li50, li99, li100, li999, c_le, c_lt, c_eq, c_tn, c_inb, c_add, show ¬ n < k by omega, e1, b2i_f, Option.bind_some, hf, g1, if_true, if_false, ite_true, ite_false, ↓reduceIte, Nat.le_refl, Nat.lt_irrefl, Nat.reduceAdd, Nat.reduceLeDiff, Nat.reduceLT, Nat.reduceEqDiff, Bool.false_eq_true]
  · refine ⟨a, ha.2.1, Or.inr ⟨fun j hj => ha.2.2 j (by omega), ?_⟩⟩
    rw [L_X6_fewestToBuy_39]
    simp (disch := omega) only [li0, li1, li2, li3, li4, li5, li6, li7, li8, li9, li10, li15, li31, li32, li40, li41, li49, li50, li99, li100, li999, c_le, c_lt, c_eq, c_tn, c_inb, c_add, show n < n + 1 by omega, if_true, if_false, ite_true, ite_false, ↓reduceIte, Nat.le_refl, Nat.lt_irrefl, Nat.reduceAdd, Nat.reduceLeDiff, Nat.reduceLT, Nat.reduceEqDiff, Bool.false_eq_true]
