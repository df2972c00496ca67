/-! THE FEWEST VOTES, reference; the question -/
theorem s_m1 : ∀ m, m < 300 → nI m - (-1 : Int32) = nI (m + 1) := by decide +kernel
theorem a_m1 : ∀ m, m < 300 → nI (m + 1) + (-1 : Int32) = nI m := by decide +kernel
theorem voteM {s s' : Sg} {H : Hd} {f a b k hf dm : Nat} (hfi : f < 5) (hab : a ≠ b) (hr : repR s (Hk H f a b k) hf dm) (h1 : ∀ i, s'.1 142 i = if i = 5 * b + f then nI (H.2.1 f b + (k + 1)) else if i = 5 * a + f then nI (H.2.1 f a - (k + 1)) else s.1 142 i) (h2 : fr (fun j => j = 142) s s') : repR s' (Hk H f a b (k + 1)) hf dm := by
  refine ⟨fun g hg j hj => ⟨?_, ?_, ?_⟩, ?_, ?_⟩
  · rw [(h2 141 (by omega)).1]
    exact (hr.1 g hg j hj).1
  · rw [h1]
    by_cases c1 : 5 * j + g = 5 * b + f
    · have e1 : j = b := by omega
      have e2 : g = f := by omega
      subst e1 e2
      rw [if_pos rfl, Hk_b]
    · rw [if_neg c1]
      by_cases c2 : 5 * j + g = 5 * a + f
      · have e1 : j = a := by omega
        have e2 : g = f := by omega
        subst e1 e2
        rw [if_pos rfl, Hk_a hab]
      · rw [if_neg c2]
        have hne : g ≠ f ∨ (j ≠ a ∧ j ≠ b) := by omega
        have := (hr.1 g hg j hj).2.1
        rw [Hk_o hne] at this
        rw [Hk_o hne]
        exact this
  · rw [(h2 143 (by omega)).1]
    exact (hr.1 g hg j hj).2.2
  · rw [(h2 139 (by omega)).1]; exact hr.2.1
  · rw [(h2 139 (by omega)).1]; exact hr.2.2
def fwM (p : Nat → Bool) (n : Nat) (σ : Sg) (q : Option ((Int32 × Sg) ⊕ (Int32 × Sg))) : Prop := ∃ a, kpM σ a ∧ ((∃ k, k ≤ n ∧ p k = true ∧ (∀ j, j < k → p j = false) ∧ q = some (.inl (nI k, a))) ∨ ((∀ j, j ≤ n → p j = false) ∧ q = some (.inr (nI (n + 1), a))))
theorem repR_eq {σ : Sg} {H H' : Hd} {hf dm : Nat} (hr : repR σ H hf dm) (e1 : H'.1 = H.1) (e2 : ∀ g j, H'.2.1 g j = H.2.1 g j) (e3 : H'.2.2 = H.2.2) : repR σ H' hf dm := by
  refine ⟨fun f hf k hk => ?_, hr.2⟩
  rw [e1, e2, e3]
  exact hr.1 f hf k hk
theorem sell96 {B : Bk} {σ : Sg} {H : Hd} {x f : Nat} (hB : okB B) (hr : repR σ H (bH B) (bM B)) (hH : okH H) (hx : x < 9) (hf : f < 5) : fwM (fwP B H f x 9 x false) (H.2.1 f x) σ (L_X7_fewest_96 (nI x) (nI f) (nI 0) (nI (5 * x + f)) (nI (45 + f)) (-1) (nI (H.2.1 f x)) FU 0 σ) := by
  have va := hH.vo hf (show x < 10 by omega)
  have vb := hH.vo hf (show 9 < 10 by omega)
  obtain ⟨b1, b2, b3, b4, b5, b6, b7, b8⟩ := id hB
  refine run_invFU (fun m k (a : Sg) => L_X7_fewest_96 (nI x) (nI f) (nI 0) (nI (5 * x + f)) (nI (45 + f)) (-1) (nI (H.2.1 f x)) m (nI k) a) (fun k a => (k ≤ H.2.1 f x → repR a (Hk H f x 9 k) (bH B) (bM B)) ∧ kpM σ a ∧ ∀ j, j < k → fwP B H f x 9 x false j = false) (H.2.1 f x + 1) (fwM (fwP B H f x 9 x false) (H.2.1 f x) σ) (by omega) (fun k hk m a ha => ?_) (fun m a ha => ?_) σ ⟨fun _ => repR_eq hr rfl (fun g j => Hk_0 g j) rfl, kpM.rf, fun j hj => absurd hj (by omega)⟩
  · obtain ⟨i1, i2, i3⟩ := ha
    have r1 := i1 (by omega)
    have okk := Hk_ok (f := f) (k := k) hH (show x < 10 by omega) (show 9 < 10 by omega) (by omega) (by omega)
    obtain ⟨s1, e1, e2, e3, e4⟩ := ctlM_ok (x := x) r1 okk (by omega) (by omega) hx
    have f1 : kpM σ s1 := i2.tr (kpM.off e4)
    have hw := hasM_ok _ (ctl_lt (Hk H f x 9 k) (bH B) (bM B) x 5) f hf
    have r2 : repR s1 (Hk H f x 9 k) (bH B) (bM B) := r1.kept (fun j g1 g2 => (e4.1 j (by omega)).1)
    cases q : (ctl (Hk H f x 9 k) (bH B) (bM B) x 5).testBit f with
    | false =>
      right
      rw [q] at hw
      refine ⟨s1, f1, Or.inl ⟨k, by omega, by simp [fwP, q], i3, ?_⟩⟩
      rw [L_X7_fewest_96]
      simp (disch := omega) only [li0, li1, li2, li3, li4, li5, li6, li7, li8, li9, li10, li15, li31, li32, li40, li41, li49, li50, li99, li100, li999, c_le, c_lt, c_eq, c_tn, c_inb, c_add, show ¬ H.2.1 f x < k by omega, e1, hw, b2i_f, Option.bind_some, jn, Nat.zero_ne_one, if_true, if_false, ite_true, ite_false, ↓reduceIte, Nat.le_refl, Nat.lt_irrefl, Nat.reduceAdd, Nat.reduceLeDiff, Nat.reduceLT, Nat.reduceEqDiff, Bool.false_eq_true]
    | true =>
      left
      rw [q] at hw
      have i3' : ∀ j, j < k + 1 → fwP B H f x 9 x false j = false := fun j hj => by
        by_cases e : j = k
        · subst e; simp [fwP, q]
        · exact i3 j (by omega)
      obtain ⟨s2, hs2⟩ : ∃ s2, s2 = setR (setR s1 142 (upd (s1.1 142) (5 * x + f) (s1.1 142 (5 * x + f) + (-1)))) 142 (upd (upd (s1.1 142) (5 * x + f) (s1.1 142 (5 * x + f) + (-1))) (45 + f) (s1.1 142 (45 + f) - (-1))) := ⟨_, rfl⟩
      have fr2 : fr (fun j => j = 142) s1 s2 := by rw [hs2]; exact fr.tr (fr.setR rfl) (fr.setR rfl)
      refine ⟨s2, ⟨fun hle => ?_, f1.tr (kpM.of fr2 (fun j hj => by omega)), i3'⟩, ?_⟩
      · have p1 := (r2.1 f hf x (by omega)).2.1
        have p2 := (r2.1 f hf 9 (by omega)).2.1
        rw [Hk_a (by omega)] at p1
        rw [Hk_b, show 5 * 9 + f = 45 + f by omega] at p2
        refine voteM hf (by omega) r2 (fun i => ?_) fr2
        rw [hs2, sR_s, p1, p2, s_m1 _ (by omega), show H.2.1 f x - k = (H.2.1 f x - (k + 1)) + 1 by omega, a_m1 _ (by omega)]
        simp only [upd_at, show 5 * 9 + f = 45 + f by omega, show H.2.1 f 9 + k + 1 = H.2.1 f 9 + (k + 1) by omega]
      · rw [L_X7_fewest_96]
        simp (disch := omega) only [li0, li1, li2, li3, li4, li5, li6, li7, li8, li9, li10, li15, li31, li32, li40, li41, li49, li50, li99, li100, li999, c_le, c_lt, c_eq, c_tn, c_inb, c_add, show ¬ H.2.1 f x < k by omega, e1, hw, b2i_t, Option.bind_some, jn, Nat.one_ne_zero, Nat.zero_ne_one, show 5 * x + f < 50 by omega, show 45 + f < 50 by omega, sR_s, up_n, if_true, if_false, ite_true, ite_false, ↓reduceIte, Nat.le_refl, Nat.lt_irrefl, Nat.reduceAdd, Nat.reduceLeDiff, Nat.reduceLT, Nat.reduceEqDiff, Bool.false_eq_true]
        rw [hs2, li1]
  · refine ⟨a, ha.2.1, Or.inr ⟨fun j hj => ha.2.2 j (by omega), ?_⟩⟩
    rw [L_X7_fewest_96]
    simp (disch := omega) only [li0, li1, li2, li3, li4, li5, li6, li7, li8, li9, li10, li15, li31, li32, li40, li41, li49, li50, li99, li100, li999, c_le, c_lt, c_eq, c_tn, c_inb, c_add, show H.2.1 f x < H.2.1 f x + 1 by omega, if_true, if_false, ite_true, ite_false, ↓reduceIte, Nat.le_refl, Nat.lt_irrefl, Nat.reduceAdd, Nat.reduceLeDiff, Nat.reduceLT, Nat.reduceEqDiff, Bool.false_eq_true]
theorem buy96 {B : Bk} {σ : Sg} {H : Hd} {x f n : Nat} (hB : okB B) (hr : repR σ H (bH B) (bM B)) (hH : okH H) (hx : x < 9) (hf : f < 5) (hn : n ≤ H.2.1 f 9) : fwM (fwP B H f 9 x x true) n σ (L_X7_fewest_96 (nI x) (nI f) (nI 1) (nI (5 * x + f)) (nI (45 + f)) (nI 1) (nI n) FU 0 σ) := by
  have va := hH.vo hf (show x < 10 by omega)
  have vb := hH.vo hf (show 9 < 10 by omega)
  obtain ⟨b1, b2, b3, b4, b5, b6, b7, b8⟩ := id hB
  refine run_invFU (fun m k (a : Sg) => L_X7_fewest_96 (nI x) (nI f) (nI 1) (nI (5 * x + f)) (nI (45 + f)) (nI 1) (nI n) m (nI k) a) (fun k a => (k ≤ n → repR a (Hk H f 9 x k) (bH B) (bM B)) ∧ kpM σ a ∧ ∀ j, j < k → fwP B H f 9 x x true j = false) (n + 1) (fwM (fwP B H f 9 x x true) n σ) (by omega) (fun k hk m a ha => ?_) (fun m a ha => ?_) σ ⟨fun _ => repR_eq hr rfl (fun g j => Hk_0 g j) rfl, kpM.rf, fun j hj => absurd hj (by omega)⟩
  · obtain ⟨i1, i2, i3⟩ := ha
    have r1 := i1 (by omega)
    have okk := Hk_ok (f := f) (k := k) hH (show 9 < 10 by omega) (show x < 10 by omega) (by omega) (by omega)
    obtain ⟨s1, e1, e2, e3, e4⟩ := ctlM_ok (x := x) r1 okk (by omega) (by omega) hx
    have f1 : kpM σ s1 := i2.tr (kpM.off e4)
    have hw := hasM_ok _ (ctl_lt (Hk H f 9 x k) (bH B) (bM B) x 5) f hf
    have r2 : repR s1 (Hk H f 9 x k) (bH B) (bM B) := r1.kept (fun j g1 g2 => (e4.1 j (by omega)).1)
    cases q : (ctl (Hk H f 9 x k) (bH B) (bM B) x 5).testBit f with
    | true =>
      right
      rw [q] at hw
      refine ⟨s1, f1, Or.inl ⟨k, by omega, by simp [fwP, q], i3, ?_⟩⟩
      rw [L_X7_fewest_96]
      simp (disch := omega) only [li0, li1, li2, li3, li4, li5, li6, li7, li8, li9, li10, li15, li31, li32, li40, li41, li49, li50, li99, li100, li999, c_le, c_lt, c_eq, c_tn, c_inb, c_add, show ¬ n < k by omega, e1, hw, b2i_t, Option.bind_some, jn, if_true, if_false, ite_true, ite_false, ↓reduceIte, Nat.le_refl, Nat.lt_irrefl, Nat.reduceAdd, Nat.reduceLeDiff, Nat.reduceLT, Nat.reduceEqDiff, Bool.false_eq_true]
    | false =>
      left
      rw [q] at hw
      have i3' : ∀ j, j < k + 1 → fwP B H f 9 x x true j = false := fun j hj => by
        by_cases e : j = k
        · subst e; simp [fwP, q]
        · exact i3 j (by omega)
      obtain ⟨s2, hs2⟩ : ∃ s2, s2 = setR (setR s1 142 (upd (s1.1 142) (5 * x + f) (s1.1 142 (5 * x + f) + nI 1))) 142 (upd (upd (s1.1 142) (5 * x + f) (s1.1 142 (5 * x + f) + nI 1)) (45 + f) (s1.1 142 (45 + f) - nI 1)) := ⟨_, rfl⟩
      have fr2 : fr (fun j => j = 142) s1 s2 := by rw [hs2]; exact fr.tr (fr.setR rfl) (fr.setR rfl)
      refine ⟨s2, ⟨fun hle => ?_, f1.tr (kpM.of fr2 (fun j hj => by omega)), i3'⟩, ?_⟩
      · have p1 := (r2.1 f hf x (by omega)).2.1
        have p2 := (r2.1 f hf 9 (by omega)).2.1
        rw [Hk_b] at p1
        rw [Hk_a (by omega), show 5 * 9 + f = 45 + f by omega] at p2
        refine voteM hf (by omega) r2 (fun i => ?_) fr2
        rw [hs2, sR_s, p1, p2, c_add, c_sub (by omega)]
        simp only [upd_at, show 5 * 9 + f = 45 + f by omega, show H.2.1 f x + k + 1 = H.2.1 f x + (k + 1) by omega, show H.2.1 f 9 - k - 1 = H.2.1 f 9 - (k + 1) by omega]
        by_cases c1 : i = 45 + f
        · rw [if_pos c1, if_neg (by omega), if_pos c1]
        · by_cases c2 : i = 5 * x + f
          · rw [if_neg c1, if_pos c2, if_pos c2]
          · rw [if_neg c1, if_neg c2, if_neg c2, if_neg c1]
      · rw [L_X7_fewest_96]
        simp (disch := omega) only [li0, li1, li2, li3, li4, li5, li6, li7, li8, li9, li10, li15, li31, li32, li40, li41, li49, li50, li99, li100, li999, c_le, c_lt, c_eq, c_tn, c_inb, c_add, show ¬ n < k by omega, e1, hw, b2i_f, Option.bind_some, jn, Nat.zero_ne_one, show 5 * x + f < 50 by omega, show 45 + f < 50 by omega, sR_s, up_n, if_true, if_false, ite_true, ite_false, ↓reduceIte, Nat.le_refl, Nat.lt_irrefl, Nat.reduceAdd, Nat.reduceLeDiff, Nat.reduceLT, Nat.reduceEqDiff, Bool.false_eq_true]
        rw [hs2]
  · refine ⟨a, ha.2.1, Or.inr ⟨fun j hj => ha.2.2 j (by omega), ?_⟩⟩
    rw [L_X7_fewest_96]
    simp (disch := omega) only [li0, li1, li2, li3, li4, li5, li6, li7, li8, li9, li10, li15, li31, li32, li40, li41, li49, li50, li99, li100, li999, c_le, c_lt, c_eq, c_tn, c_inb, c_add, show n < n + 1 by omega, if_true, if_false, ite_true, ite_false, ↓reduceIte, Nat.le_refl, Nat.lt_irrefl, Nat.reduceAdd, Nat.reduceLeDiff, Nat.reduceLT, Nat.reduceEqDiff, Bool.false_eq_true]
theorem fw_both {p : Nat → Bool} {n : Nat} {τ a : Sg} {q q' : Option ((Int32 × Sg) ⊕ (Int32 × Sg))} (h : (∃ k, k ≤ n ∧ p k = true ∧ (∀ j, j < k → p j = false) ∧ q = some (.inl (nI k, a))) ∨ ((∀ j, j ≤ n → p j = false) ∧ q = some (.inr (nI (n + 1), a)))) (h' : fwM p n τ q') : ∃ r a', kpM τ a' ∧ (q.bind (fun o => Sum.elim (fun x => some x) (fun o => some ((-6 : Int32), o.2)) o) = some (r, a)) ∧ (q'.bind (fun o => Sum.elim (fun x => some x) (fun o => some ((-6 : Int32), o.2)) o) = some (r, a')) := by
  obtain ⟨a', ha', h'⟩ := h'
  rcases h with ⟨k, k1, k2, k3, k4⟩ | ⟨k3, k4⟩
  · rcases h' with ⟨j, j1, j2, j3, j4⟩ | ⟨j3, j4⟩
    · have : k = j := by
        apply Classical.byContradiction
        intro ne
        rcases Nat.lt_or_gt_of_ne ne with c | c
        · rw [j3 k c] at k2; cases k2
        · rw [k3 j c] at j2; cases j2
      subst this
      exact ⟨nI k, a', ha', by rw [k4]; rfl, by rw [j4]; rfl⟩
    · rw [j3 k k1] at k2; cases k2
  · rcases h' with ⟨j, j1, j2, j3, j4⟩ | ⟨j3, j4⟩
    · rw [k3 j j1] at j2; cases j2
    · exact ⟨-6, a', ha', by rw [k4]; rfl, by rw [j4]; rfl⟩
theorem q_fewest {B : Bk} {σ : Sg} (hB : okB B) (hr : repB 1 σ B) (hM : repMB σ B) (hc : cacheOK σ B) (x1 x2 x3 : Int32) : QQ B σ (f_X6_fewest x1 x2 x3 σ) (f_X7_fewest x1 x2 x3) := by
  rcases ctl_c x1 with ⟨u1, v1, _⟩ | ⟨u1, v1, a, ha, rfl⟩
  · refine QQ.same hc (r := -1) ?_ ?_
    · unfold f_X6_fewest; rw [if_pos u1]
    · unfold f_X7_fewest; rw [if_pos (by unfold f_X7_areKnown; rw [if_pos v1])]
  rcases firm_c x2 with ⟨u2, v2, _⟩ | ⟨u2, v2, f, hf, rfl⟩
  · refine QQ.same hc (r := -1) ?_ ?_
    · unfold f_X6_fewest; rw [if_neg u1, if_pos u2]
    · unfold f_X7_fewest; rw [if_pos (by unfold f_X7_areKnown; rw [if_neg v1, if_pos v2])]
  have hkn := known_c v1 v2
  rcases yn_c x3 with ⟨u3, v3, _⟩ | ⟨u3, v3, k, hk, rfl⟩
  · refine QQ.same hc (r := -2) ?_ ?_
    · unfold f_X6_fewest; rw [if_neg u1, if_neg u2, if_pos u3]
    · unfold f_X7_fewest; rw [if_neg hkn, if_pos v3]
  obtain ⟨s1, H, e1, e2, e3, e4, e5, e6⟩ := bringQ hB hr hc
  have hL : bL B < 2000 := by have := hB.2.2.2.1; omega
  obtain ⟨t1, p1, p2, p3⟩ := hcopy_ok e3.1
  have tb : repB 1 t1 B := e6.kept (fun j g1 g2 => (p3 j (by unfold inH; omega)).1)
  have hsv : s1.1 (33 + f) a = nI (H.2.1 f a) := (e3.1.1 f hf a (by omega)).2
  have hsn : s1.1 (33 + f) 9 = nI (H.2.1 f 9) := (e3.1.1 f hf 9 (by omega)).2
  have cacheT : ∀ t, fr inT t1 t → kpC σ t ∧ cacheOK t B := fun t ht => by
    have w : fr inT s1 t := (p3.mono (fun j hj => by unfold inH at hj; unfold inT; omega)).tr ht
    refine ⟨e4.tr ⟨w.mono (fun j hj => by unfold inT at hj; unfold inKC; omega), fun y _ => by rw [(w 0 (by unfold inT; omega)).1]⟩, ?_⟩
    unfold cacheOK
    rw [(w 0 (by unfold inT; omega)).1]
    rcases e5 with e5 | ⟨e5, H', g1, g2⟩
    · exact Or.inl e5
    · exact Or.inr ⟨e5, H', g1, g2.kp (fun j _ _ _ _ => w j (by unfold inT; omega))⟩
  have modT : ∀ t, fr inT t1 t → ∃ s2, f_X7_lay (t.1 132 7) (-6) t = some (1, s2) ∧ repR s2 H (bH B) (bM B) ∧ kpM t s2 := fun t ht => by
    have hMt := hM.kc (cacheT t ht).1
    obtain ⟨s2, g1, g2, g3, g4⟩ := layQ hB hL hMt e2
    exact ⟨s2, by rw [hMt.2.1]; exact g1, g2, g4⟩
  rcases (show k = 0 ∨ k = 1 by omega) with rfl | rfl
  · obtain ⟨t, ft, fc⟩ := sell26 hB tb p2 e2.2 ha hf
    obtain ⟨s2, g1, g2, g4⟩ := modT t ft
    obtain ⟨r, s3, k1, k2, k3⟩ := fw_both fc (sell96 hB g2 e2.2 ha hf)
    have p142 : s2.1 142 (5 * a + f) = nI (H.2.1 f a) := (g2.1 f hf a (by omega)).2.1
    refine ⟨r, t, s3, ?_, ?_, (cacheT t ft).1, (cacheT t ft).2, g4.tr k1⟩
    · unfold f_X6_fewest f_X6_fewestToSell
      rw [if_neg u1, if_neg u2, if_neg u3, e1, Option.bind_some, if_pos (show nI 0 = 0 from rfl), if_pos (show inb (nI f) 5 by rw [c_inb (by omega)]; exact hf), if_pos (show inb (nI a) 10 by rw [c_inb (by omega)]; omega), p1, Option.bind_some, c_tn (show f < 2147483648 by omega), c_tn (show a < 2147483648 by omega), show s1.1 (32 + 1 + f) a = nI (H.2.1 f a) from hsv, k2]
      rfl
    · unfold f_X7_fewest
      rw [if_neg hkn, if_neg v3, g1, Option.bind_some]
      simp only [jn]
      rw [if_pos (show nI 0 = 0 from rfl), if_pos (show nI 0 = 0 from rfl), at_ok, if_pos (show inb (nI (5 * a + f)) 50 by rw [c_inb (by omega)]; omega), c_tn (show 5 * a + f < 2147483648 by omega)]
      show Option.bind (some (s2.1 142 (5 * a + f))) _ = _
      rw [p142, Option.bind_some, show f_X7_at 9 (nI f) = nI (45 + f) from at_ok 9 f]
      exact k3
  · have hne : (nI a = f_X6_holderOf (nI f)) = (a = 4 + f) := by rw [hold_ok f hf, c_eq (by omega) (by omega)]
    have hne2 : (nI a = 4 + nI f) = (a = 4 + f) := by rw [li4, c_add, c_eq (by omega) (by omega)]
    obtain ⟨t, ft, fc⟩ := buy39 (n := if a = 4 + f then 0 else H.2.1 f 9) hB tb p2 e2.2 ha hf (by split <;> omega)
    obtain ⟨s2, g1, g2, g4⟩ := modT t ft
    obtain ⟨r, s3, k1, k2, k3⟩ := fw_both fc (buy96 (n := if a = 4 + f then 0 else H.2.1 f 9) hB g2 e2.2 ha hf (by split <;> omega))
    have p142 : s2.1 142 (45 + f) = nI (H.2.1 f 9) := by
      have := (g2.1 f hf 9 (by omega)).2.1
      rw [show 5 * 9 + f = 45 + f by omega] at this
      exact this
    refine ⟨r, t, s3, ?_, ?_, (cacheT t ft).1, (cacheT t ft).2, g4.tr k1⟩
    · unfold f_X6_fewest f_X6_fewestToBuy
      rw [if_neg u1, if_neg u2, if_neg u3, e1, Option.bind_some, if_neg (show ¬ nI 1 = 0 by decide)]
      have e : (if nI a = f_X6_holderOf (nI f) then some (0 : Int32) else if inb (nI f) 5 then if inb 9 10 then some (s1.1 (32 + 1 + (nI f).toNatClampNeg) (9 : Int32).toNatClampNeg) else none else none) = some (nI (if a = 4 + f then 0 else H.2.1 f 9)) := by
        by_cases c : a = 4 + f
        · rw [if_pos (by rw [hne]; exact c), if_pos c]; rfl
        · rw [if_neg (by rw [hne]; exact c), if_neg c, if_pos (show inb (nI f) 5 by rw [c_inb (by omega)]; exact hf), if_pos (show inb 9 10 by decide), c_tn (show f < 2147483648 by omega), show s1.1 (32 + 1 + f) (9 : Int32).toNatClampNeg = nI (H.2.1 f 9) from hsn]
      rw [e, Option.bind_some, p1, Option.bind_some, k2]
      rfl
    · unfold f_X7_fewest
      rw [if_neg hkn, if_neg v3, g1, Option.bind_some]
      simp only [jn]
      rw [if_neg (show ¬ nI 1 = 0 by decide), if_neg (show ¬ nI 1 = 0 by decide)]
      have e : (if nI a = 4 + nI f then some (0 : Int32) else if inb (f_X7_at 9 (nI f)) 50 then some (s2.1 142 (f_X7_at 9 (nI f)).toNatClampNeg) else none) = some (nI (if a = 4 + f then 0 else H.2.1 f 9)) := by
        by_cases c : a = 4 + f
        · rw [if_pos (by rw [hne2]; exact c), if_pos c]; rfl
        · rw [if_neg (by rw [hne2]; exact c), if_neg c, show f_X7_at 9 (nI f) = nI (45 + f) from at_ok 9 f, if_pos (show inb (nI (45 + f)) 50 by rw [c_inb (by omega)]; omega), c_tn (show 45 + f < 2147483648 by omega), p142]
      rw [show (if nI a = 4 + nI f then some (0 : Int32) else if inb (f_X7_at 9 (nI f)) 50 then some (s2.1 142 (f_X7_at 9 (nI f)).toNatClampNeg) else none) = _ from e, Option.bind_some, at_ok, show f_X7_at 9 (nI f) = nI (45 + f) from at_ok 9 f]
      exact k3
