/-! EVENTS, as the reference counts them -/
def RC (B : Bk) (x1 : Int32) (Q : Nat) (a : Sg) : Prop := ∀ q, q < Q → ev B q = true → nI (cnt (ev B) q) = x1 → ∀ w, w < 4 → a.1 132 (16 + w) = evA B q w
theorem bit19 : ∀ s, s < 32 → ∀ f, f < 5 → ((nI s >>> (nI f &&& 31)) &&& 1) = b2i (s.testBit f) := by decide +kernel
theorem em72 {B : Bk} {σ : Sg} {t h : Nat} {x1 x4 : Int32} (ht : t < 40) (hh : h < 9) (h145 : σ.1 145 h = nI (CT B (bsB B t) h)) (hrc : RC B x1 ((t * 9 + h) * 5) σ) : ∃ σ', L_X7_events_72 x1 (nI (dp (bD B) (bO B) (bsB B t))) x4 (nI h) (nI (CT B (bsB B (t + 1)) h)) FU (nI (cnt (ev B) ((t * 9 + h) * 5))) 0 σ = some (nI (cnt (ev B) ((t * 9 + h) * 5 + 5)), nI 5, σ') ∧ RC B x1 ((t * 9 + h) * 5 + 5) σ' ∧ fr (fun j => j = 132) σ σ' ∧ ∀ y, y < 16 → σ'.1 132 y = σ.1 132 y := by
  refine ex_use (loop_inv (fun m f (a : Sg) => L_X7_events_72 x1 (nI (dp (bD B) (bO B) (bsB B t))) x4 (nI h) (nI (CT B (bsB B (t + 1)) h)) m (nI (cnt (ev B) ((t * 9 + h) * 5 + f))) (nI f) a) (fun f a => RC B x1 ((t * 9 + h) * 5 + f) a ∧ fr (fun j => j = 132) σ a ∧ ∀ y, y < 16 → a.1 132 y = σ.1 132 y) 5 (fun a => (nI (cnt (ev B) ((t * 9 + h) * 5 + 5)), nI 5, a)) (by omega) (fun f hf m a ha => ?_) (fun m a ha => ?_) σ ⟨hrc, fr.rf, fun _ _ => rfl⟩) (fun σ' h1 h2 => ⟨σ', h2, h1⟩)
  · obtain ⟨i1, i2, i3⟩ := ha
    obtain ⟨d1, d2, d3⟩ := q_div (t := t) hh hf
    have e145 : a.1 145 h = nI (CT B (bsB B t) h) := by rw [(i2 145 (by omega)).1]; exact h145
    have w1 := hasM_ok _ (CT_lt B (bsB B (t + 1)) h) f hf
    have w2 := hasM_ok _ (CT_lt B (bsB B t) h) f hf
    have w3 := bit19 _ (CT_lt B (bsB B (t + 1)) h) f hf
    show ∃ a', _ = L_X7_events_72 x1 (nI (dp (bD B) (bO B) (bsB B t))) x4 (nI h) (nI (CT B (bsB B (t + 1)) h)) m (nI (cnt (ev B) ((t * 9 + h) * 5 + f + 1))) (nI (f + 1)) a' ∧ RC B x1 ((t * 9 + h) * 5 + f + 1) a' ∧ _
    obtain ⟨Q, hQ⟩ : ∃ Q, Q = (t * 9 + h) * 5 + f := ⟨_, rfl⟩
    rw [← hQ] at i1 d1 d2 d3 ⊢
    have hQ2 : Q < 1800 := by omega
    have hc : cnt (ev B) Q ≤ Q := cnt_le
    have hev : ev B Q = ((CT B (bsB B (t + 1)) h).testBit f != (CT B (bsB B t) h).testBit f) := by
      unfold ev
      rw [d1, d2, d3]
    have his : isE B Q = (CT B (bsB B (t + 1)) h).testBit f := by
      unfold isE
      rw [d1, d2, d3]
    have g5 : ¬ (5 : Int32) ≤ nI f := by rw [li5, c_le (by omega) (by omega)]; omega
    have g9 : inb (nI h) 9 := by rw [c_inb (by omega)]; exact hh
    by_cases c : (CT B (bsB B (t + 1)) h).testBit f = (CT B (bsB B t) h).testBit f
    · have e0 : ev B Q = false := by rw [hev, c]; simp
      refine ⟨a, ?_, fun q hq he hx => ?_, i2, i3⟩
      · rw [L_X7_events_72, if_neg g5, if_pos g9, c_tn (by omega), e145, w1, w2, if_pos (congrArg b2i c), li1, c_add]
        simp only [cnt, e0]
        rfl
      · by_cases w : q = Q
        · subst w; rw [e0] at he; cases he
        · exact i1 q (by omega) he hx
    · have e1 : ev B Q = true := by rw [hev]; simp [c]
      have ec : cnt (ev B) (Q + 1) = cnt (ev B) Q + 1 := by simp only [cnt, e1, if_true]
      rw [ec]
      by_cases cx : nI (cnt (ev B) Q) = x1
      · refine ⟨setR (setR (setR (setR a 132 (upd (a.1 132) 16 (nI (dp (bD B) (bO B) (bsB B t))))) 132 (upd (upd (a.1 132) 16 (nI (dp (bD B) (bO B) (bsB B t)))) 17 (nI h))) 132 (upd (upd (upd (a.1 132) 16 (nI (dp (bD B) (bO B) (bsB B t)))) 17 (nI h)) 18 (nI f))) 132 (upd (upd (upd (upd (a.1 132) 16 (nI (dp (bD B) (bO B) (bsB B t)))) 17 (nI h)) 18 (nI f)) 19 (b2i (isE B Q))), ?_, fun q hq he hx w hw => ?_, ?_, fun y hy => ?_⟩
        · rw [L_X7_events_72, if_neg g5, if_pos g9, c_tn (by omega), e145, w1, w2, if_neg (fun w => c (by rw [b2i_eq] at w; exact w)), if_pos cx]
          simp only [jn, sR_s]
          rw [w3, his, li1, c_add, c_add]
        · have hqQ : q = Q := by
            by_cases w : q = Q
            · exact w
            · have := cnt_step (p := ev B) (show q < Q by omega) he
              rw [← cx, c_eq (by omega) (by omega)] at hx
              omega
          subst hqQ
          rw [sR_s]
          unfold evA
          rw [d1, d2, d3]
          rcases (show w = 0 ∨ w = 1 ∨ w = 2 ∨ w = 3 by omega) with rfl | rfl | rfl | rfl
          · rw [up_n _ _ (by omega), up_n _ _ (by omega), up_n _ _ (by omega), up_s]; rfl
          · rw [up_n _ _ (by omega), up_n _ _ (by omega), up_s]; rfl
          · rw [up_n _ _ (by omega), up_s]; rfl
          · rw [up_s]; rfl
        · exact (((i2.tr (fr.setR rfl)).tr (fr.setR rfl)).tr (fr.setR rfl)).tr (fr.setR rfl)
        · rw [sR_s, up_n _ _ (by omega), up_n _ _ (by omega), up_n _ _ (by omega), up_n _ _ (by omega)]
          exact i3 y hy
      · refine ⟨a, ?_, fun q hq he hx => ?_, i2, i3⟩
        · rw [L_X7_events_72, if_neg g5, if_pos g9, c_tn (by omega), e145, w1, w2, if_neg (fun w => c (by rw [b2i_eq] at w; exact w)), if_neg cx, li1, c_add, c_add]
        · by_cases w : q = Q
          · subst w; exact absurd hx cx
          · exact i1 q (by omega) he hx
  · rw [L_X7_events_72]
    simp (disch := omega) only [li0, li1, li2, li3, li4, li5, li6, li7, li8, li9, li10, li15, li31, li32, li40, li41, li49, li50, li99, li100, li999, c_le, c_lt, c_eq, c_tn, c_inb, c_add, if_true, if_false, ite_true, ite_false, ↓reduceIte, Nat.le_refl, Nat.lt_irrefl, Nat.reduceAdd, Nat.reduceLeDiff, Nat.reduceLT, Nat.reduceEqDiff, Bool.false_eq_true]
theorem em54 {B : Bk} {σ : Sg} {t : Nat} {x1 x4 : Int32} (hB : okB B) (ht : bsB B t < bN B) (hM : repMB σ B) (hR : repR σ (Hp B (bsB B (t + 1))) (bH B) (bM B)) (h145 : ∀ h, h < 9 → σ.1 145 h = nI (CT B (bsB B t) h)) (hrc : RC B x1 (45 * t) σ) : ∃ σ', L_X7_events_54 x1 (nI (dp (bD B) (bO B) (bsB B t))) x4 FU (nI (cnt (ev B) (45 * t))) 0 σ = some (nI (cnt (ev B) (45 * (t + 1))), nI 9, σ') ∧ RC B x1 (45 * (t + 1)) σ' ∧ (∀ h, h < 9 → σ'.1 145 h = nI (CT B (bsB B (t + 1)) h)) ∧ kpM σ σ' := by
  obtain ⟨b1, b2, b3, b4, b5, b6, b7, b8⟩ := id hB
  have hH : okH (Hp B (bsB B (t + 1))) := (hold_bs hB ht).2
  have ht40 : t < 40 := by have := bs_lt b3 ht; omega
  refine ex_use (loop_inv (fun m h (a : Sg) => L_X7_events_54 x1 (nI (dp (bD B) (bO B) (bsB B t))) x4 m (nI (cnt (ev B) ((t * 9 + h) * 5))) (nI h) a) (fun h a => repR a (Hp B (bsB B (t + 1))) (bH B) (bM B) ∧ (∀ g, g < 9 → a.1 145 g = nI (CT B (bsB B (if g < h then t + 1 else t)) g)) ∧ RC B x1 ((t * 9 + h) * 5) a ∧ kpM σ a) 9 (fun a => (nI (cnt (ev B) ((t * 9 + 9) * 5)), nI 9, a)) (by omega) (fun h hh m a ha => ?_) (fun m a ha => ?_) σ ⟨hR, fun g hg => by rw [if_neg (Nat.not_lt_zero _)]; exact h145 g hg, by rw [show (t * 9 + 0) * 5 = 45 * t by omega]; exact hrc, kpM.rf⟩) (fun σ' h1 h2 => ⟨σ', ?_, ?_, fun h hh => ?_, h1.2.2.2⟩)
  · obtain ⟨i1, i2, i3, i4⟩ := ha
    obtain ⟨s1, k1, k2, k3, k4⟩ := ctlM_ok (x := h) i1 hH (by omega) (by omega) hh
    have q1 : repR s1 (Hp B (bsB B (t + 1))) (bH B) (bM B) := i1.kept (fun j w1 w2 => (k4.1 j (by omega)).1)
    have a145 : s1.1 145 = a.1 145 := (k4.1 145 (by omega)).1
    have z145 : s1.1 145 h = nI (CT B (bsB B t) h) := by
      rw [a145, i2 h hh, if_neg (Nat.lt_irrefl h)]
    have rc1 : RC B x1 ((t * 9 + h) * 5) s1 := fun q hq he hx w hw => by rw [k4.2 (16 + w) (by omega)]; exact i3 q hq he hx w hw
    obtain ⟨s2, p1, p2, p3, p4⟩ := em72 (x4 := x4) ht40 hh z145 rc1
    have q2 : repR s2 (Hp B (bsB B (t + 1))) (bH B) (bM B) := q1.kept (fun j w1 w2 => (p3 j (by omega)).1)
    refine ⟨setR s2 145 (upd (s2.1 145) h (nI (CT B (bsB B (t + 1)) h))), ?_, ?_, fun g hg => ?_, fun q hq he hx w hw => ?_, ?_⟩
    · show L_X7_events_54 x1 (nI (dp (bD B) (bO B) (bsB B t))) x4 (m + 1) (nI (cnt (ev B) ((t * 9 + h) * 5))) (nI h) a = L_X7_events_54 x1 (nI (dp (bD B) (bO B) (bsB B t))) x4 m (nI (cnt (ev B) ((t * 9 + (h + 1)) * 5))) (nI (h + 1)) _
      rw [L_X7_events_54, if_neg (show ¬ (9 : Int32) ≤ nI h by rw [li9, c_le (by omega) (by omega)]; omega), k1, Option.bind_some]
      show Option.bind (L_X7_events_72 x1 (nI (dp (bD B) (bO B) (bsB B t))) x4 (nI h) (nI (CT B (bsB B (t + 1)) h)) FU (nI (cnt (ev B) ((t * 9 + h) * 5))) 0 s1) _ = _
      rw [p1, Option.bind_some, if_pos (show inb (nI h) 9 by rw [c_inb (by omega)]; exact hh)]
      simp only [jn]
      rw [c_tn (by omega), li1, c_add, show (t * 9 + (h + 1)) * 5 = (t * 9 + h) * 5 + 5 by omega]
      rfl
    · exact q2.kept (fun j w1 w2 => by rw [sR_n _ _ (by omega)])
    · rw [sR_s]
      by_cases w : g = h
      · subst w
        rw [up_s, if_pos (by omega)]
      · rw [up_n _ _ w, (p3 145 (by omega)).1, a145, i2 g hg]
        by_cases v : g < h
        · rw [if_pos v, if_pos (by omega)]
        · rw [if_neg v, if_neg (by omega)]
    · rw [sR_n _ _ (by omega)]
      exact p2 q (by omega) he hx w hw
    · refine i4.tr ((kpM.off k4).tr (kpM.tr (b := s2) ⟨p3.mono (fun j hj => Or.inl hj), fun y hy => p4 y (by omega)⟩ ?_))
      exact ⟨fr.setR (Or.inr (by omega)), fun y _ => by rw [sR_n _ _ (by omega)]⟩
  · rw [L_X7_events_54]
    simp (disch := omega) only [li0, li1, li2, li3, li4, li5, li6, li7, li8, li9, li10, li15, li31, li32, li40, li41, li49, li50, li99, li100, li999, c_le, c_lt, c_eq, c_tn, c_inb, c_add, if_true, if_false, ite_true, ite_false, ↓reduceIte, Nat.le_refl, Nat.lt_irrefl, Nat.reduceAdd, Nat.reduceLeDiff, Nat.reduceLT, Nat.reduceEqDiff, Bool.false_eq_true]
  · rw [show 45 * (t + 1) = (t * 9 + 9) * 5 by omega, show 45 * t = (t * 9 + 0) * 5 by omega]
    exact h2
  · rw [show 45 * (t + 1) = (t * 9 + 9) * 5 by omega]
    exact h1.2.2.1
  · have := h1.2.1 h hh
    rw [if_pos hh] at this
    exact this
theorem em4 {x1 x2 : Int32} (σ : Sg) : ∃ σ', L_X7_events_4 x1 x2 FU 0 σ = some (nI 9, σ') ∧ (∀ h, h < 9 → σ'.1 145 h = nI 0) ∧ fr (fun j => j = 145) σ σ' := by
  refine ex_use (loop_inv (fun m h (a : Sg) => L_X7_events_4 x1 x2 m (nI h) a) (fun h a => (∀ g, g < h → a.1 145 g = nI 0) ∧ fr (fun j => j = 145) σ a) 9 (fun a => (nI 9, a)) (by omega) (fun h hh m a ha => ?_) (fun m a ha => ?_) σ ⟨fun g hg => absurd hg (by omega), fr.rf⟩) (fun σ' h1 h2 => ⟨σ', h2, h1⟩)
  · refine ⟨setR a 145 (upd (a.1 145) h (nI 0)), ?_, fun g hg => ?_, ha.2.tr (fr.setR rfl)⟩
    · rw [L_X7_events_4]
      simp (disch := omega) only [li0, li1, li2, li3, li4, li5, li6, li7, li8, li9, li10, li15, li31, li32, li40, li41, li49, li50, li99, li100, li999, c_le, c_lt, c_eq, c_tn, c_inb, c_add, show ¬ 9 ≤ h by omega, hh, jn, if_true, if_false, ite_true, ite_false, ↓reduceIte, Nat.le_refl, Nat.lt_irrefl, Nat.reduceAdd, Nat.reduceLeDiff, Nat.reduceLT, Nat.reduceEqDiff, Bool.false_eq_true]
    · rw [sR_s]
      by_cases q : g = h
      · subst q; rw [up_s]
      · rw [up_n _ _ q]; exact ha.1 g (by omega)
  · rw [L_X7_events_4]
    simp (disch := omega) only [li0, li1, li2, li3, li4, li5, li6, li7, li8, li9, li10, li15, li31, li32, li40, li41, li49, li50, li99, li100, li999, c_le, c_lt, c_eq, c_tn, c_inb, c_add, if_true, if_false, ite_true, ite_false, ↓reduceIte, Nat.le_refl, Nat.lt_irrefl, Nat.reduceAdd, Nat.reduceLeDiff, Nat.reduceLT, Nat.reduceEqDiff, Bool.false_eq_true]
theorem eventsM_ok {B : Bk} {σ : Sg} {T : Nat} {x1 : Int32} (hB : okB B) (hT : nT B T) (hM : repMB σ B) : ∃ σ', f_X7_events x1 σ = some (nI (cnt (ev B) (45 * T)), σ') ∧ RC B x1 (45 * T) σ' ∧ kpM σ σ' := by
  obtain ⟨b1, b2, b3, b4, b5, b6, b7, b8⟩ := id hB
  have hT2 := hT.2.2
  obtain ⟨s0, e1, e2, e3⟩ := em4 (x1 := x1) (x2 := 0) σ
  have k0 : kpM σ s0 := kpM.of e3 (fun j hj => by omega)
  have hM0 := hM.kp k0
  have key := run_invFU (fun m t (a : Sg) => L_X7_events_32 x1 m (nI (cnt (ev B) (45 * t))) (nx (bD B) (bN B) (bO B) (bsB B t)) (nI t) a) (fun t a => t ≤ T ∧ repMB a B ∧ (∀ h, h < 9 → a.1 145 h = nI (CT B (bsB B t) h)) ∧ RC B x1 (45 * t) a ∧ kpM σ a) 40 (fun q => ∃ σ' z1 z2, q = some (nI (cnt (ev B) (45 * T)), z1, z2, σ') ∧ RC B x1 (45 * T) σ' ∧ kpM σ σ') (by omega) (fun t ht m a ha => ?_) (fun m a ha => ?_) s0 ⟨Nat.zero_le _, hM0, fun h hh => by rw [e2 h hh, show CT B (bsB B 0) h = 0 from CT_0 hh], fun q hq => absurd hq (by omega), k0⟩
  · obtain ⟨σ', z1, z2, k1, k2, k3⟩ := key
    refine ⟨σ', ?_, k2, k3⟩
    unfold f_X7_events
    rw [e1, Option.bind_some]
    show Option.bind (f_X7_dayBehind (-1) s0) _ = _
    rw [behind_0 b1 hM0.1 b2 b3, Option.bind_some]
    show Option.bind (L_X7_events_32 x1 FU 0 (nx (bD B) (bN B) (bO B) 0) 0 s0) _ = _
    rw [show L_X7_events_32 x1 FU 0 (nx (bD B) (bN B) (bO B) 0) 0 s0 = _ from k1]
    rfl
  · obtain ⟨i0, i1, i2, i3, i4⟩ := ha
    have g40 : ¬ (40 : Int32) ≤ nI t := by rw [li40, c_le (by omega) (by omega)]; omega
    rw [L_X7_events_32, if_neg g40]
    by_cases c : bsB B t < bN B
    · left
      have hd : dp (bD B) (bO B) (bsB B t) ≤ 999 := (b2 _ (b3 _ c).1).1
      have enx : nx (bD B) (bN B) (bO B) (bsB B t) = nI (dp (bD B) (bO B) (bsB B t)) := if_pos c
      obtain ⟨s1, g1, g2, g3⟩ := layL_ok hB (show dp (bD B) (bO B) (bsB B t) < 2000 by omega) i1.1 (hold_bs hB c)
      have g4 : kpM a s1 := ⟨g3.mono (fun j hj => by unfold inO at hj; unfold inKM; omega), fun y _ => by rw [(g3 132 (by unfold inO; omega)).1]⟩
      have hM1 := i1.kp g4
      have rc1 : RC B x1 (45 * t) s1 := fun q hq he hx w hw => by
        rw [(g3 132 (by unfold inO; omega)).1]; exact i3 q hq he hx w hw
      obtain ⟨s2, p1, p2, p3, p4⟩ := em54 (x1 := x1) (x4 := nI t) hB c hM1 ⟨g2, hM1.2.2.1, hM1.2.2.2.1⟩ (fun h hh => by rw [(g3 145 (by unfold inO; omega)).1]; exact i2 h hh) rc1
      have hM2 := hM1.kp p4
      refine ⟨s2, ⟨?_, hM2, p3, p2, i4.tr (g4.tr p4)⟩, ?_⟩
      · rcases Nat.lt_or_ge t T with q | q
        · exact q
        · have : t = T := by omega
          rw [this, hT.1] at c
          exact absurd c (Nat.lt_irrefl _)
      · rw [if_neg (show ¬ nx (bD B) (bN B) (bO B) (bsB B t) < 0 by rw [nx_neg b3 b2]; exact not_not_intro c), enx, g1, Option.bind_some]
        show Option.bind (L_X7_events_54 x1 (nI (dp (bD B) (bO B) (bsB B t))) (nI t) FU (nI (cnt (ev B) (45 * t))) 0 s1) _ = _
        rw [p1, Option.bind_some]
        show Option.bind (f_X7_dayBehind (nI (dp (bD B) (bO B) (bsB B t))) s2) _ = _
        rw [← enx, behind_n b1 hM2.1 b2 b3 c, Option.bind_some, li1, c_add]
        rfl
    · right
      have hb := bs_le (ds := bD B) (n := bN B) (o := bO B) t
      have hb2 : bsB B t = bN B := Nat.le_antisymm hb (Nat.le_of_not_lt c)
      have htT : t = T := by
        rcases Nat.lt_or_ge t T with q | q
        · exact absurd (hT.2.1 t q) c
        · omega
      subst htT
      rw [if_pos (show nx (bD B) (bN B) (bO B) (bsB B t) < 0 by rw [nx_neg b3 b2]; exact c)]
      exact ⟨a, _, _, rfl, i3, i4⟩
  · obtain ⟨i0, i1, i2, i3, i4⟩ := ha
    have htT : T = 40 := by omega
    subst htT
    rw [L_X7_events_32, if_pos (show (40 : Int32) ≤ nI 40 by decide)]
    exact ⟨a, _, _, rfl, i3, i4⟩
