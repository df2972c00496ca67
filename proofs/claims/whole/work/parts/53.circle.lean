/-! CIRCLES by the reference -/
def inR (E : Nat → Nat → Bool) (r : Nat → Nat) (a : Sg) : Prop := ∀ j, j < 5 → a.1 148 j = nI (r j) ∧ r j < 32 ∧ sb (r j) (rch E j)
theorem cir_57 {g : Nat} {σ : Sg} {H : Hd} {r : Nat → Nat} {y z : Int32} (hg : g < 5) (hM : repM σ H) (hH : okH H) (hr : inR (edg H) r σ) : ∃ σ' r', L_X7_circle_57 y z (nI g) FU 0 σ = some (nI 5, σ') ∧ inR (edg H) r' σ' ∧ (∀ j, sb (r j) (r' j)) ∧ (∀ e, e < 5 → edg H g e = true → (r' g).testBit e = true ∧ sb (r e) (r' g)) ∧ (∀ j, j ≠ g → r' j = r j) ∧ fr (fun j => j = 148) σ σ' := by
  refine ex_use (loop_inv (fun m k (a : Sg) => L_X7_circle_57 y z (nI g) m (nI k) a) (fun k a => ∃ r', inR (edg H) r' a ∧ (∀ j, sb (r j) (r' j)) ∧ (∀ e, e < k → edg H g e = true → (r' g).testBit e = true ∧ sb (r e) (r' g)) ∧ (∀ j, j ≠ g → r' j = r j) ∧ fr (fun j => j = 148) σ a) 5 (fun a => (nI 5, a)) (by decide) (fun k hk m a ha => ?_) (fun m a ha => ?_) σ ⟨r, hr, fun j => sb_rf _, fun e he => absurd he (by omega), fun _ _ => rfl, fr.rf⟩) (fun σ' h1 h2 => by obtain ⟨r', i⟩ := h1; exact ⟨σ', r', h2, i⟩)
  · obtain ⟨r', i1, i2, i3, i4, i5⟩ := ha
    have hv := (hM k hk (4 + g) (by omega)).1
    have hb := hH.sh hk (show 4 + g < 10 by omega)
    have hv' : a.1 141 (5 * (4 + g) + k) = nI (H.1 k (4 + g)) := by rw [(i5 141 (by omega)).1]; exact hv
    have q1 := i1 g hg
    have q2 := i1 k hk
    have hl1 := sh_lt5 k hk
    have hl2 := or_lt5 _ hl1 _ q2.2.1
    by_cases c : H.1 k (4 + g) ≤ 0
    · have hE : edg H g k = false := by simp [edg]; omega
      have hor0 : nI (r' g) ||| nI 0 = nI (r' g) := by
        have := oror_ok _ q1.2.1 0 (by decide)
        rw [Nat.or_zero] at this
        exact this
      refine ⟨setR a 148 (upd (a.1 148) g (nI (r' g))), ?_, r', fun j hj => ?_, i2, fun e he hE' => ?_, i4, i5.tr (fr.setR rfl)⟩
      · show L_X7_circle_57 y z (nI g) (m + 1) (nI k) a = _
        rw [L_X7_circle_57]
        simp (disch := omega) only [li0, li1, li2, li3, li4, li5, li6, li7, li8, li9, li10, li15, li31, li32, li40, li41, li49, li50, li99, li100, li999, c_le, c_lt, c_eq, c_tn, c_inb, c_add, hg, at_ok, hv', c, show 5 * (4 + g) + k < 50 by omega, show ¬ 5 ≤ k by omega, Option.bind_some, jn, q1.1, hor0, if_true, if_false, ite_true, ite_false, ↓reduceIte, Nat.le_refl, Nat.lt_irrefl, Nat.reduceAdd, Nat.reduceLeDiff, Nat.reduceLT, Nat.reduceEqDiff, Bool.false_eq_true]
      · refine ⟨?_, (i1 j hj).2⟩
        by_cases e : j = g
        · subst e; simp (disch := omega) only [sR_s, sR_n, sL_s, sL_n, sR_2, sL_1, up_s, up_n]
        · simp (disch := omega) only [sR_s, sR_n, sL_s, sL_n, sR_2, sL_1, up_s, up_n]; exact (i1 j hj).1
      · by_cases e2 : e = k
        · rw [e2, hE] at hE'; cases hE'
        · exact i3 e (by omega) hE'
    · have hE : edg H g k = true := by simp [edg]; omega
      have o1 : nI 1 <<< (nI k &&& nI 31) ||| nI (r' k) = nI ((1 <<< k) ||| r' k) := by
        have h0 := or_ok 0 (by decide) k (by omega)
        have h1 : nI 1 <<< (nI k &&& nI 31) = nI (1 <<< k) := by
          have z0 : nI 0 ||| (nI 1 <<< (nI k &&& nI 31)) = nI (0 ||| (1 <<< k)) := h0
          rw [Nat.zero_or] at z0
          have z1 : ∀ w : Int32, nI 0 ||| w = w := fun w => Int32.zero_or
          rw [z1] at z0
          exact z0
        rw [h1]
        exact oror_ok _ hl1 _ q2.2.1
      have o2 := oror_ok _ q1.2.1 _ hl2
      refine ⟨setR a 148 (upd (a.1 148) g (nI (r' g ||| ((1 <<< k) ||| r' k)))), ?_, fun j => if j = g then r' g ||| ((1 <<< k) ||| r' k) else r' j, fun j hj => ?_, fun j => ?_, fun e he hE' => ?_, fun j hj => ?_, i5.tr (fr.setR rfl)⟩
      · show L_X7_circle_57 y z (nI g) (m + 1) (nI k) a = _
        rw [L_X7_circle_57]
        simp (disch := omega) only [li0, li1, li2, li3, li4, li5, li6, li7, li8, li9, li10, li15, li31, li32, li40, li41, li49, li50, li99, li100, li999, c_le, c_lt, c_eq, c_tn, c_inb, c_add, hg, hk, at_ok, hv', c, show 5 * (4 + g) + k < 50 by omega, show ¬ 5 ≤ k by omega, Option.bind_some, jn, q1.1, q2.1, o1, o2, if_true, if_false, ite_true, ite_false, ↓reduceIte, Nat.le_refl, Nat.lt_irrefl, Nat.reduceAdd, Nat.reduceLeDiff, Nat.reduceLT, Nat.reduceEqDiff, Bool.false_eq_true]
      · by_cases e : j = g
        · subst e
          simp (disch := omega) only [sR_s, sR_n, sL_s, sL_n, sR_2, sL_1, up_s, up_n, if_true]
          refine ⟨trivial, or_lt5 _ q1.2.1 _ hl2, sb_or q1.2.2 (sb_or (fun t ht hb => ?_) (sb_tr q2.2.2 (rch_tr hk (rch_edge hk hE))))⟩
          have := tb_or 0 k t
          rw [Nat.zero_or] at this
          rw [this] at hb
          have : t = k := by simpa using hb
          rw [this]
          exact rch_edge hk hE
        · simp (disch := omega) only [sR_s, sR_n, sL_s, sL_n, sR_2, sL_1, up_s, up_n, e, if_false]
          exact i1 j hj
      · by_cases e : j = g
        · subst e
          simp only [if_true]
          exact sb_tr (i2 j) (sb_l _ _)
        · simp only [e, if_false]; exact i2 j
      · simp only [if_true]
        by_cases e2 : e = k
        · subst e2
          refine ⟨sb_tr (sb_l _ _) (sb_r _ _) e hk ?_, sb_tr (i2 e) (sb_tr (sb_r _ _) (sb_r _ _))⟩
          have := tb_or 0 e e
          rw [Nat.zero_or] at this
          rw [this]
          simp
        · have := i3 e (by omega) hE'
          exact ⟨sb_l _ _ e (by omega) this.1, sb_tr this.2 (sb_l _ _)⟩
      · simp only [hj, if_false]; exact i4 j hj
  · rw [L_X7_circle_57]
    simp (disch := omega) only [li0, li1, li2, li3, li4, li5, li6, li7, li8, li9, li10, li15, li31, li32, li40, li41, li49, li50, li99, li100, li999, c_le, c_lt, c_eq, c_tn, c_inb, c_add, if_true, if_false, ite_true, ite_false, ↓reduceIte, Nat.le_refl, Nat.lt_irrefl, Nat.reduceAdd, Nat.reduceLeDiff, Nat.reduceLT, Nat.reduceEqDiff, Bool.false_eq_true]
theorem cir_49 {σ : Sg} {H : Hd} {r : Nat → Nat} {y z : Int32} (hM : repM σ H) (hH : okH H) (hr : inR (edg H) r σ) : ∃ σ' r', L_X7_circle_49 y z FU 0 σ = some (nI 5, σ') ∧ inR (edg H) r' σ' ∧ (∀ g, g < 5 → ∀ e, e < 5 → edg H g e = true → (r' g).testBit e = true ∧ sb (r e) (r' g)) ∧ fr (fun j => j = 148) σ σ' := by
  refine ex_use (loop_inv (fun m k (a : Sg) => L_X7_circle_49 y z m (nI k) a) (fun k a => ∃ r', inR (edg H) r' a ∧ (∀ j, sb (r j) (r' j)) ∧ (∀ g, g < k → ∀ e, e < 5 → edg H g e = true → (r' g).testBit e = true ∧ sb (r e) (r' g)) ∧ fr (fun j => j = 148) σ a) 5 (fun a => (nI 5, a)) (by decide) (fun k hk m a ha => ?_) (fun m a ha => ?_) σ ⟨r, hr, fun j => sb_rf _, fun e he => absurd he (by omega), fr.rf⟩) (fun σ' h1 h2 => by obtain ⟨r', i1, i2, i3, i4⟩ := h1; exact ⟨σ', r', h2, i1, i3, i4⟩)
  · obtain ⟨r', i1, i2, i3, i4⟩ := ha
    have hM' : repM a H := fun f hf j hj => by
      rw [(i4 141 (by omega)).1, (i4 142 (by omega)).1, (i4 143 (by omega)).1]
      exact hM f hf j hj
    obtain ⟨σ1, r1, e1, e2, e3, e4, e5, e6⟩ := cir_57 (y := y) (z := z) hk hM' hH i1
    refine ⟨σ1, ?_, r1, e2, fun j => sb_tr (i2 j) (e3 j), fun g hg e he hE => ?_, i4.tr e6⟩
    · show L_X7_circle_49 y z (m + 1) (nI k) a = _
      rw [L_X7_circle_49]
      simp (disch := omega) only [li0, li1, li2, li3, li4, li5, li6, li7, li8, li9, li10, li15, li31, li32, li40, li41, li49, li50, li99, li100, li999, c_le, c_lt, c_eq, c_tn, c_inb, c_add, show ¬ 5 ≤ k by omega, if_true, if_false, ite_true, ite_false, ↓reduceIte, Nat.le_refl, Nat.lt_irrefl, Nat.reduceAdd, Nat.reduceLeDiff, Nat.reduceLT, Nat.reduceEqDiff, Bool.false_eq_true]
      rw [show L_X7_circle_57 y z (nI k) FU (nI 0) a = _ from e1]
      rfl
    · by_cases c : g = k
      · subst c
        have := e4 e he hE
        exact ⟨this.1, sb_tr (i2 e) this.2⟩
      · rw [e5 g c]
        exact i3 g (by omega) e he hE
  · rw [L_X7_circle_49]
    simp (disch := omega) only [li0, li1, li2, li3, li4, li5, li6, li7, li8, li9, li10, li15, li31, li32, li40, li41, li49, li50, li99, li100, li999, c_le, c_lt, c_eq, c_tn, c_inb, c_add, if_true, if_false, ite_true, ite_false, ↓reduceIte, Nat.le_refl, Nat.lt_irrefl, Nat.reduceAdd, Nat.reduceLeDiff, Nat.reduceLT, Nat.reduceEqDiff, Bool.false_eq_true]
theorem cir_22 {y : Int32} (σ : Sg) : ∃ σ', L_X7_circle_22 y FU 0 σ = some (nI 5, σ') ∧ (∀ j, j < 5 → σ'.1 148 j = nI 0) ∧ fr (fun j => j = 148) σ σ' := by
  refine ex_use (loop_inv (fun m k (a : Sg) => L_X7_circle_22 y m (nI k) a) (fun k a => (∀ j, j < k → a.1 148 j = nI 0) ∧ fr (fun j => j = 148) σ a) 5 (fun a => (nI 5, a)) (by decide) (fun k hk m a ha => ?_) (fun m a ha => ?_) σ ⟨fun j hj => absurd hj (by omega), fr.rf⟩) (fun σ' h1 h2 => ⟨σ', h2, h1⟩)
  · refine ⟨_, (by rw [L_X7_circle_22]; simp (disch := omega) only [li0, li1, li2, li3, li4, li5, li6, li7, li8, li9, li10, li15, li31, li32, li40, li41, li49, li50, li99, li100, li999, c_le, c_lt, c_eq, c_tn, c_inb, c_add, hk, show ¬ 5 ≤ k by omega, jn, if_true, if_false, ite_true, ite_false, ↓reduceIte, Nat.le_refl, Nat.lt_irrefl, Nat.reduceAdd, Nat.reduceLeDiff, Nat.reduceLT, Nat.reduceEqDiff, Bool.false_eq_true]; rfl), fun f hf => ?_, ha.2.tr (fr.setR rfl)⟩
    by_cases e : f = k
    · subst e; simp (disch := omega) only [sR_s, sR_n, sL_s, sL_n, sR_2, sL_1, up_s, up_n]
    · simp (disch := omega) only [sR_s, sR_n, sL_s, sL_n, sR_2, sL_1, up_s, up_n]
      exact ha.1 f (by omega)
  · rw [L_X7_circle_22]
    simp (disch := omega) only [li0, li1, li2, li3, li4, li5, li6, li7, li8, li9, li10, li15, li31, li32, li40, li41, li49, li50, li99, li100, li999, c_le, c_lt, c_eq, c_tn, c_inb, c_add, if_true, if_false, ite_true, ite_false, ↓reduceIte, Nat.le_refl, Nat.lt_irrefl, Nat.reduceAdd, Nat.reduceLeDiff, Nat.reduceLT, Nat.reduceEqDiff, Bool.false_eq_true]
theorem cir_42 {σ : Sg} {H : Hd} {y : Int32} (hM : repM σ H) (hH : okH H) (hz : ∀ j, j < 5 → σ.1 148 j = nI 0) : ∃ σ', L_X7_circle_42 y FU 0 σ = some (nI 5, σ') ∧ (∀ g, g < 5 → σ'.1 148 g = nI (rch (edg H) g)) ∧ fr (fun j => j = 148) σ σ' := by
  refine ex_use (loop_inv (fun m k (a : Sg) => L_X7_circle_42 y m (nI k) a) (fun k a => ∃ r, inR (edg H) r a ∧ (∀ g, g < 5 → ∀ t, t < 5 → (stK (edg H) t k).testBit g = true → (r g).testBit t = true) ∧ fr (fun j => j = 148) σ a) 5 (fun a => (nI 5, a)) (by decide) (fun k hk m a ha => ?_) (fun m a ha => ?_) σ ⟨fun _ => 0, fun j hj => ⟨hz j hj, show (0 : Nat) < 32 by decide, sb_0 _⟩, fun g hg t ht h => by simp [stK] at h, fr.rf⟩) (fun σ' h1 h2 => ?_)
  · obtain ⟨r, i1, i2, i3⟩ := ha
    have hM' : repM a H := fun f hf j hj => by
      rw [(i3 141 (by omega)).1, (i3 142 (by omega)).1, (i3 143 (by omega)).1]
      exact hM f hf j hj
    obtain ⟨σ1, r1, e1, e2, e3, e4⟩ := cir_49 (y := y) (z := nI k) hM' hH i1
    refine ⟨σ1, ?_, r1, e2, fun g hg t ht hb => ?_, i3.tr e4⟩
    · show L_X7_circle_42 y (m + 1) (nI k) a = _
      rw [L_X7_circle_42]
      simp (disch := omega) only [li0, li1, li2, li3, li4, li5, li6, li7, li8, li9, li10, li15, li31, li32, li40, li41, li49, li50, li99, li100, li999, c_le, c_lt, c_eq, c_tn, c_inb, c_add, show ¬ 5 ≤ k by omega, if_true, if_false, ite_true, ite_false, ↓reduceIte, Nat.le_refl, Nat.lt_irrefl, Nat.reduceAdd, Nat.reduceLeDiff, Nat.reduceLT, Nat.reduceEqDiff, Bool.false_eq_true]
      rw [show L_X7_circle_49 y (nI k) FU (nI 0) a = _ from e1]
      rfl
    · rcases (stp_iff hg).mp hb with h | ⟨e, h1, h2, h3⟩
      · exact (e3 g hg t ht h).1
      · exact (e3 g hg e h1 h2).2 t ht (i2 e h1 t ht h3)
  · rw [L_X7_circle_42]
    simp (disch := omega) only [li0, li1, li2, li3, li4, li5, li6, li7, li8, li9, li10, li15, li31, li32, li40, li41, li49, li50, li99, li100, li999, c_le, c_lt, c_eq, c_tn, c_inb, c_add, if_true, if_false, ite_true, ite_false, ↓reduceIte, Nat.le_refl, Nat.lt_irrefl, Nat.reduceAdd, Nat.reduceLeDiff, Nat.reduceLT, Nat.reduceEqDiff, Bool.false_eq_true]
  · obtain ⟨r, i1, i2, i3⟩ := h1
    refine ⟨σ', h2, fun g hg => ?_, i3⟩
    rw [(i1 g hg).1]
    congr 1
    exact sb_eq (i1 g hg).2.1 (wr_lt _ _ _) (i1 g hg).2.2 (fun t ht hb => i2 g hg t ht (rch_in 5 (Nat.le_refl 5) g hg t ht hb))
theorem cir_126 {f : Nat} {σ : Sg} {H : Hd} (hf : f < 5) (hr : ∀ g, g < 5 → σ.1 148 g = nI (rch (edg H) g)) : L_X7_circle_126 (nI f) σ FU 0 0 = some (nI (bfN (crc H f) 5), nI 5) := by
  have hrun := run_FU (fun m k => L_X7_circle_126 (nI f) σ m (nI (bfN (crc H f) k)) (nI k)) 5 (some (nI (bfN (crc H f) 5), nI 5)) (by omega) (fun k hk m => by
    have h1 := hasM_ok _ (wr_lt (edg H) 5 f) k hk
    have h2 := hasM_ok _ (wr_lt (edg H) 5 k) f hf
    have hl := bfN_lt (crc H f) k (by omega)
    have hor : nI (bfN (crc H f) k) ||| (nI 1 <<< (nI k &&& nI 31)) = nI (bfN (crc H f) k ||| (1 <<< k)) := or_ok _ (Nat.lt_of_lt_of_le hl (by decide : 32 ≤ 512)) k (by omega)
    have hor0 : nI (bfN (crc H f) k) ||| nI 0 = nI (bfN (crc H f) k) := by
      have := oror_ok _ hl 0 (by decide)
      rw [Nat.or_zero] at this
      exact this
    have q1 := hr f hf
    have q2 := hr k hk
    unfold rch at q1 q2
    show L_X7_circle_126 (nI f) σ (m + 1) _ (nI k) = _
    rw [L_X7_circle_126]
    rcases Bool.eq_false_or_eq_true ((wr (edg H) 5 f).testBit k) with c1 | c1
    · rw [c1] at h1
      rcases Bool.eq_false_or_eq_true ((wr (edg H) 5 k).testBit f) with c2 | c2
      · rw [c2] at h2
        have : crc H f k = true := by simp [crc, rch, c1, c2]
        simp (disch := omega) only [li0, li1, li2, li3, li4, li5, li6, li7, li8, li9, li10, li15, li31, li32, li40, li41, li49, li50, li99, li100, li999, c_le, c_lt, c_eq, c_tn, c_inb, c_add, hf, hk, q1, q2, h1, h2, b2i_t, Nat.one_ne_zero, show ¬ 5 ≤ k by omega, bfN, this, hor, Option.bind_some, if_true, if_false, ite_true, ite_false, ↓reduceIte, Nat.le_refl, Nat.lt_irrefl, Nat.reduceAdd, Nat.reduceLeDiff, Nat.reduceLT, Nat.reduceEqDiff, Bool.false_eq_true]
      · rw [c2] at h2
        have : crc H f k = false := by simp [crc, rch, c2]
        simp (disch := omega) only [li0, li1, li2, li3, li4, li5, li6, li7, li8, li9, li10, li15, li31, li32, li40, li41, li49, li50, li99, li100, li999, c_le, c_lt, c_eq, c_tn, c_inb, c_add, hf, hk, q1, q2, h1, h2, b2i_t, b2i_f, Nat.one_ne_zero, show ¬ 5 ≤ k by omega, bfN, this, Nat.or_zero, hor0, Option.bind_some, if_true, if_false, ite_true, ite_false, ↓reduceIte, Nat.le_refl, Nat.lt_irrefl, Nat.reduceAdd, Nat.reduceLeDiff, Nat.reduceLT, Nat.reduceEqDiff, Bool.false_eq_true]
    · rw [c1] at h1
      have : crc H f k = false := by simp [crc, rch, c1]
      simp (disch := omega) only [li0, li1, li2, li3, li4, li5, li6, li7, li8, li9, li10, li15, li31, li32, li40, li41, li49, li50, li99, li100, li999, c_le, c_lt, c_eq, c_tn, c_inb, c_add, hf, q1, h1, b2i_f, show ¬ 5 ≤ k by omega, bfN, this, Nat.or_zero, hor0, Option.bind_some, if_true, if_false, ite_true, ite_false, ↓reduceIte, Nat.le_refl, Nat.lt_irrefl, Nat.reduceAdd, Nat.reduceLeDiff, Nat.reduceLT, Nat.reduceEqDiff, Bool.false_eq_true]) (fun m => by
    show L_X7_circle_126 (nI f) σ (m + 1) _ (nI 5) = _
    rw [L_X7_circle_126]
    simp (disch := omega) only [li0, li1, li2, li3, li4, li5, li6, li7, li8, li9, li10, li15, li31, li32, li40, li41, li49, li50, li99, li100, li999, c_le, c_lt, c_eq, c_tn, c_inb, c_add, if_true, if_false, ite_true, ite_false, ↓reduceIte, Nat.le_refl, Nat.lt_irrefl, Nat.reduceAdd, Nat.reduceLeDiff, Nat.reduceLT, Nat.reduceEqDiff, Bool.false_eq_true])
  exact hrun
