/-! QUESTIONS: above, stake, nobody, ranked, owners, circle -/
theorem ovA_ovr (H : Hd) (hf dm f : Nat) : bfN (ovA H hf dm f) 4 = bfN (ovr H hf dm f 0) 4 := bfN_congr (fun j _ => by unfold ovA ovr; rw [Nat.zero_add])
theorem q_above {B : Bk} {σ : Sg} (hB : okB B) (hr : repB 1 σ B) (hM : repMB σ B) (hc : cacheOK σ B) (x1 x2 : Int32) : QQ B σ (f_X6_above x1 x2 σ) (f_X7_above x1 x2) := by
  rcases firm_c x1 with ⟨u1, v1, _⟩ | ⟨u1, v1, f, hf, rfl⟩
  · refine QQ.same hc (r := -1) ?_ ?_
    · unfold f_X6_above; rw [if_pos u1]
    · unfold f_X7_above; rw [if_pos v1]
  obtain ⟨s1, H, e1, e2, e3, e4, e5, e6⟩ := bringQ hB hr hc
  have hL : bL B < 2000 := by have := hB.2.2.2.1; omega
  have hM1 := hM.kc e4
  rcases in_c x2 3 (by omega) rfl rfl with ⟨v3, _, n3⟩ | ⟨v3, _, k, hk, rfl⟩
  · refine ⟨-2, s1, s1, ?_, ?_, e4, e5, kpM.rf⟩
    · unfold f_X6_above
      rw [if_neg u1, e1, Option.bind_some, if_neg (show ¬ x2 = 0 from n3 0 (by omega)), if_neg (show ¬ x2 = 1 from n3 1 (by omega)), if_neg (show ¬ x2 = 2 from n3 2 (by omega)), if_neg (show ¬ x2 = 3 from n3 3 (by omega))]
    · unfold f_X7_above
      rw [if_neg v1, if_pos (show f_X7_in x2 0 3 = 0 from v3)]
  · obtain ⟨b1, b2, b3, b4, b5, b6, b7, b8⟩ := id hB
    obtain ⟨s2, g1, g2, g3, g4⟩ := layQ hB hL hM1 e2
    obtain ⟨s3, k1, k4⟩ := abvM_ok (f := f) (nI k) hf g2 e2.2 (by omega) (by omega)
    have hkk := g4.tr (kpM.off k4)
    have hb9 := bfN_lt9 (ovA H (bH B) (bM B) f) 9 (by omega)
    have pre : ∀ (Z : Int32 × Int32 × Int32 × Sg → Option (Int32 × Sg)), (f_X7_lay (s1.1 132 7) (-6) s1).bind (fun q3 => (L_X7_above_40 (nI f) (nI k) FU 0 0 0 q3.2).bind Z) = Z (nI (bfN (ovA H (bH B) (bM B) f) 9), nI (bfN (H.2.2 f) 9), nI 9, s3) := fun Z => by
      rw [hM1.2.1, g1, Option.bind_some]
      show (L_X7_above_40 (nI f) (nI k) FU 0 0 0 s2).bind Z = _
      rw [k1]
      rfl
    rcases (show k = 0 ∨ k = 1 ∨ k = 2 ∨ k = 3 by omega) with rfl | rfl | rfl | rfl
    · have ov := over_ok (c := 53) (a := 0) (n := 4) hf (by omega) (by omega) e3.2.1
      refine ⟨nI (bfN (ovr H (bH B) (bM B) f 0) 4), s1, s3, ?_, ?_, e4, e5, hkk⟩
      · unfold f_X6_above
        rw [if_neg u1, e1, Option.bind_some]
        simp (disch := omega) only [li0, li1, li2, li3, li4, li5, li6, li7, li8, li9, li10, li15, li31, li32, li40, li41, li49, li50, li99, li100, li999, c_le, c_lt, c_eq, c_tn, c_inb, c_add, ov, Option.bind_some, if_true, if_false, ite_true, ite_false, ↓reduceIte, Nat.le_refl, Nat.lt_irrefl, Nat.reduceAdd, Nat.reduceLeDiff, Nat.reduceLT, Nat.reduceEqDiff, Bool.false_eq_true]
      · unfold f_X7_above
        rw [if_neg v1, if_neg (show ¬ f_X7_in (nI 0) 0 3 = 0 from v3), pre, if_pos (by rfl)]
        show some (nI (bfN (ovA H (bH B) (bM B) f) 9) &&& 15, s3) = _
        rw [and15 _ hb9, bfN_mod, ovA_ovr]
    · have ov := over_ok (c := 53) (a := 4) (n := 5) hf (by omega) (by omega) e3.2.1
      refine ⟨nI (bfN (ovr H (bH B) (bM B) f 4) 5), s1, s3, ?_, ?_, e4, e5, hkk⟩
      · unfold f_X6_above
        rw [if_neg u1, e1, Option.bind_some]
        simp (disch := omega) only [li0, li1, li2, li3, li4, li5, li6, li7, li8, li9, li10, li15, li31, li32, li40, li41, li49, li50, li99, li100, li999, c_le, c_lt, c_eq, c_tn, c_inb, c_add, ov, Option.bind_some, Nat.one_ne_zero, if_true, if_false, ite_true, ite_false, ↓reduceIte, Nat.le_refl, Nat.lt_irrefl, Nat.reduceAdd, Nat.reduceLeDiff, Nat.reduceLT, Nat.reduceEqDiff, Bool.false_eq_true]
      · unfold f_X7_above
        rw [if_neg v1, if_neg (show ¬ f_X7_in (nI 1) 0 3 = 0 from v3), pre, if_neg (by decide), if_pos (by rfl)]
        show some (nI (bfN (ovA H (bH B) (bM B) f) 9) >>> (4 &&& 31), s3) = _
        rw [shr4 _ hb9, bfN_shr]
        rfl
    · obtain ⟨mm, w1, w2, w3⟩ := e3.1.2 f (by omega)
      have w2' : s1.1 38 f = nI mm := w2
      have hmm := veto_bf w1 w3
      refine ⟨nI mm, s1, s3, ?_, ?_, e4, e5, hkk⟩
      · unfold f_X6_above
        rw [if_neg u1, e1, Option.bind_some]
        simp (disch := omega) only [li0, li1, li2, li3, li4, li5, li6, li7, li8, li9, li10, li15, li31, li32, li40, li41, li49, li50, li99, li100, li999, c_le, c_lt, c_eq, c_tn, c_inb, c_add, hf, w2', if_true, if_false, ite_true, ite_false, ↓reduceIte, Nat.le_refl, Nat.lt_irrefl, Nat.reduceAdd, Nat.reduceLeDiff, Nat.reduceLT, Nat.reduceEqDiff, Bool.false_eq_true]
      · unfold f_X7_above
        rw [if_neg v1, if_neg (show ¬ f_X7_in (nI 2) 0 3 = 0 from v3), pre, if_neg (by decide), if_neg (by decide), if_pos (by rfl), ← hmm]
    · have hrow : s1.1 54 (4 + f) = nI (ctl H (bH B) (bM B) (4 + f) 5) := (e3.2.1 (4 + f) (by omega)).1
      have hw := has_ok _ (ctl_lt H (bH B) (bM B) (4 + f) 5) f hf
      refine ⟨b2i ((ctl H (bH B) (bM B) (4 + f) 5).testBit f), s1, s3, ?_, ?_, e4, e5, hkk⟩
      · unfold f_X6_above
        rw [if_neg u1, e1, Option.bind_some]
        simp (disch := omega) only [li0, li1, li2, li3, li4, li5, li6, li7, li8, li9, li10, li15, li31, li32, li40, li41, li49, li50, li99, li100, li999, c_le, c_lt, c_eq, c_tn, c_inb, c_add, hold_ok f hf, hrow, hw, b2i_as, show 4 + f < 9 by omega, if_true, if_false, ite_true, ite_false, ↓reduceIte, Nat.le_refl, Nat.lt_irrefl, Nat.reduceAdd, Nat.reduceLeDiff, Nat.reduceLT, Nat.reduceEqDiff, Bool.false_eq_true]
      · unfold f_X7_above
        rw [if_neg v1, if_neg (show ¬ f_X7_in (nI 3) 0 3 = 0 from v3), pre, if_neg (by decide), if_neg (by decide), if_neg (by decide)]
        show some ((nI (bfN (ovA H (bH B) (bM B) f) 9) >>> ((4 + nI f) &&& 31)) &&& 1, s3) = _
        rw [shr4f _ hb9 f hf, bfN_bit, decide_eq_true (show 4 + f < 9 by omega), Bool.true_and]
        rfl
theorem q_stake_in {B : Bk} {σ : Sg} (hB : okB B) (hr : repB 1 σ B) (hM : repMB σ B) (hc : cacheOK σ B) {s f : Nat} (hs : s < 5) (hf : f < 5) (x3 : Int32) : ∃ r s1 s2, f_X6_bringUpToDate σ = some s1 ∧ (Option.bind (f_X4_upper (nI f) (nI s) s1) (fun r10 => Option.bind (f_X4_lower (nI f) s1) (fun r12 => Option.bind (f_X6_inLowestTerms r10 r12 x3 s1) (fun r14 => some (r14, s1)))) = some (r, s1)) ∧ (Option.bind (f_X7_lay (s1.1 132 7) (-6) s1) (fun q4 => Option.bind (f_X7_upper (nI (hN s)) (nI f) q4.2) (fun q6 => Option.bind (f_X7_lower q6.2) (fun q8 => Option.bind (f_X7_part q6.1 q8.1 x3 q8.2) (fun r10 => some (r10, q8.2))))) = some (r, s2)) ∧ kpC σ s1 ∧ cacheOK s1 B ∧ kpM s1 s2 := by
  obtain ⟨s1, H, e1, e2, e3, e4, e5, e6⟩ := bringQ hB hr hc
  have hL : bL B < 2000 := by have := hB.2.2.2.1; omega
  have hM1 := hM.kc e4
  obtain ⟨s2, g1, g2, g3, g4⟩ := layQ hB hL hM1 e2
  obtain ⟨s3, k1, k2, k3⟩ := upperM_ok hf hs g2.1 e2.2
  obtain ⟨s4, j1, j2, j3⟩ := lowerM_ok (σ := s3) (H := H) (by unfold repM; rw [k2]; exact g2.1) e2.2
  obtain ⟨v, f1, f2⟩ := frac_ok (Int64.ofInt (UP H s f)) (Int64.ofInt (LO H)) (LO_ne e2.2) x3
  refine ⟨v, s1, s4, e1, ?_, ?_, e4, e5, g4.tr ((kpM.of k3 (fun j hj => by omega)).tr (kpM.of j3 (fun j hj => by omega)))⟩
  · rw [upper_ok e3.2.2.1 hf hs, Option.bind_some, lower_ok e3.2.2.1 hf, Option.bind_some, f1]
    rfl
  · rw [hM1.2.1, g1, Option.bind_some]
    show Option.bind (f_X7_upper (nI (hN s)) (nI f) s2) _ = _
    rw [k1, Option.bind_some]
    show Option.bind (f_X7_lower s3) _ = _
    rw [j1, Option.bind_some, f2]
    rfl
theorem q_stake {B : Bk} {σ : Sg} (hB : okB B) (hr : repB 1 σ B) (hM : repMB σ B) (hc : cacheOK σ B) (x1 x2 x3 : Int32) : QQ B σ (f_X6_stake x1 x2 x3 σ) (f_X7_stake x1 x2 x3) := by
  rcases pers_c x1 with ⟨u1, v1, n1⟩ | ⟨u1, v1, a, ha, rfl⟩
  · by_cases c9 : x1 = 9
    · rcases firm_c x2 with ⟨u2, v2, _⟩ | ⟨u2, v2, f, hf, rfl⟩
      · refine QQ.same hc (r := -1) ?_ ?_
        · unfold f_X6_stake; rw [if_pos u1, if_pos c9, if_pos u2]
        · unfold f_X7_stake; rw [if_pos v1, if_pos c9, if_pos v2]
      rcases yn_c x3 with ⟨u3, v3, _⟩ | ⟨u3, v3, _⟩
      · refine QQ.same hc (r := -2) ?_ ?_
        · unfold f_X6_stake; rw [if_pos u1, if_pos c9, if_neg u2, if_pos u3]
        · unfold f_X7_stake; rw [if_pos v1, if_pos c9, if_neg v2, if_pos v3]
      obtain ⟨r, s1, s2, w1, w2, w3, w4, w5, w6⟩ := q_stake_in hB hr hM hc (s := 4) (by omega) hf x3
      refine ⟨r, s1, s2, ?_, ?_, w4, w5, w6⟩
      · unfold f_X6_stake
        rw [if_pos u1, if_pos c9, if_neg u2, if_neg u3, w1, Option.bind_some]
        show jn _ _ = _
        unfold jn
        rw [if_pos c9]
        exact w2
      · unfold f_X7_stake
        rw [if_pos v1, if_pos c9, if_neg v2, if_neg v3, c9]
        exact w3
    · refine QQ.same hc (r := -1) ?_ ?_
      · unfold f_X6_stake; rw [if_pos u1, if_neg c9]
      · unfold f_X7_stake; rw [if_pos v1, if_neg c9]
  · rcases firm_c x2 with ⟨u2, v2, _⟩ | ⟨u2, v2, f, hf, rfl⟩
    · refine QQ.same hc (r := -1) ?_ ?_
      · unfold f_X6_stake; rw [if_neg u1, if_pos u2]
      · unfold f_X7_stake; rw [if_neg v1, if_pos v2]
    rcases yn_c x3 with ⟨u3, v3, _⟩ | ⟨u3, v3, _⟩
    · refine QQ.same hc (r := -2) ?_ ?_
      · unfold f_X6_stake; rw [if_neg u1, if_neg u2, if_pos u3]
      · unfold f_X7_stake; rw [if_neg v1, if_neg v2, if_pos v3]
    obtain ⟨r, s1, s2, w1, w2, w3, w4, w5, w6⟩ := q_stake_in hB hr hM hc (s := a) (by omega) hf x3
    rw [show hN a = a by unfold hN; rw [if_neg (by omega)]] at w3
    refine ⟨r, s1, s2, ?_, ?_, w4, w5, w6⟩
    · unfold f_X6_stake
      rw [if_neg u1, if_neg u2, if_neg u3, w1, Option.bind_some]
      unfold jn
      rw [if_neg (show ¬ nI a = 9 by rw [li9, c_eq (by omega) (by omega)]; omega)]
      exact w2
    · unfold f_X7_stake
      rw [if_neg v1, if_neg v2, if_neg v3]
      exact w3
theorem q_nobody {B : Bk} {σ : Sg} (hB : okB B) (hr : repB 1 σ B) (hM : repMB σ B) (hc : cacheOK σ B) (x1 x2 : Int32) : QQ B σ (f_X6_nobody x1 x2 σ) (f_X7_nobody x1 x2) := by
  rcases firm_c x1 with ⟨u1, v1, _⟩ | ⟨u1, v1, f, hf, rfl⟩
  · refine QQ.same hc (r := -1) ?_ ?_
    · unfold f_X6_nobody; rw [if_pos u1]
    · unfold f_X7_nobody; rw [if_pos v1]
  rcases yn_c x2 with ⟨u3, v3, _⟩ | ⟨u3, v3, _⟩
  · refine QQ.same hc (r := -2) ?_ ?_
    · unfold f_X6_nobody; rw [if_neg u1, if_pos u3]
    · unfold f_X7_nobody; rw [if_neg v1, if_pos v3]
  obtain ⟨s1, H, e1, e2, e3, e4, e5, e6⟩ := bringQ hB hr hc
  have hL : bL B < 2000 := by have := hB.2.2.2.1; omega
  have hM1 := hM.kc e4
  obtain ⟨s2, g1, g2, g3, g4⟩ := layQ hB hL hM1 e2
  obtain ⟨s3, k1, k2, k3⟩ := lowerM_ok g2.1 e2.2
  obtain ⟨s4, j1, j2, j3⟩ := upperM_ok (σ := s3) (H := H) (s := 4) hf (by omega) (by unfold repM; rw [k2]; exact g2.1) e2.2
  obtain ⟨s5, m1, m2, m3⟩ := nobM_ok (σ := s4) (H := H) hf x2 (by unfold repM; rw [j2, k2]; exact g2.1) e2.2
  obtain ⟨s6, p1, p2, p3⟩ := lowerM_ok (σ := s5) (H := H) (by unfold repM; rw [m2, j2, k2]; exact g2.1) e2.2
  obtain ⟨v, f1, f2⟩ := frac_ok (Int64.ofInt (NBk H f 5)) (Int64.ofInt (LO H)) (LO_ne e2.2) x2
  refine ⟨v, s1, s6, ?_, ?_, e4, e5, g4.tr ((kpM.of k3 (fun j hj => by omega)).tr ((kpM.of j3 (fun j hj => by omega)).tr ((kpM.of m3 (fun j hj => by omega)).tr (kpM.of p3 (fun j hj => by omega)))))⟩
  · unfold f_X6_nobody
    rw [if_neg u1, if_neg u3, e1, Option.bind_some, nobC_ok e3.2.2.1 hf, Option.bind_some, lower_ok e3.2.2.1 hf, Option.bind_some, f1]
    rfl
  · unfold f_X7_nobody
    rw [if_neg v1, if_neg v3, hM1.2.1, g1, Option.bind_some]
    show Option.bind (f_X7_lower s2) _ = _
    rw [k1, Option.bind_some]
    show Option.bind (f_X7_upper (nI (hN 4)) (nI f) s3) _ = _
    rw [j1, Option.bind_some]
    show Option.bind (L_X7_nobody_51 (nI f) x2 FU (Int64.ofInt (LO H) - Int64.ofInt (UP H 4 f)) 0 s4) _ = _
    rw [m1, Option.bind_some]
    show Option.bind (f_X7_lower s5) _ = _
    rw [p1, Option.bind_some, f2]
    rfl
theorem upp_lay {B : Bk} {s1 : Sg} {H : Hd} (hB : okB B) (hM1 : repMB s1 B) (e2 : holdB B (bL B) H) {f : Nat} (hf : f < 5) : ∃ s3, f_X7_layUppers (nI f) s1 = some s3 ∧ (∀ s, s < 4 → s3.2 147 s = Int64.ofInt (UP H s f)) ∧ repR s3 H (bH B) (bM B) ∧ repMB s3 B ∧ kpM s1 s3 := by
  have hL : bL B < 2000 := by have := hB.2.2.2.1; omega
  obtain ⟨s2, g1, g2, g3, g4⟩ := layQ hB hL hM1 e2
  obtain ⟨s3, k1, k2, k3, k4⟩ := uppM_ok hf g2.1 e2.2
  have kk := kpM.of k4 (fun j hj => by omega)
  refine ⟨s3, ?_, k2, g2.kept (fun j _ _ => by rw [k3]), g3.kp kk, g4.tr kk⟩
  unfold f_X7_layUppers
  rw [hM1.2.1, g1, Option.bind_some]
  show Option.bind (L_X7_layUppers_13 (nI f) FU 0 s2) _ = _
  rw [k1]
  rfl
theorem q_ranked {B : Bk} {σ : Sg} (hB : okB B) (hr : repB 1 σ B) (hM : repMB σ B) (hc : cacheOK σ B) (x1 x2 : Int32) : QQ B σ (f_X6_ranked x1 x2 σ) (f_X7_ranked x1 x2) := by
  rcases firm_c x1 with ⟨u1, v1, _⟩ | ⟨u1, v1, f, hf, rfl⟩
  · refine QQ.same hc (r := -1) ?_ ?_
    · unfold f_X6_ranked; rw [if_pos u1]
    · unfold f_X7_ranked; rw [if_pos v1]
  obtain ⟨s1, H, e1, e2, e3, e4, e5, e6⟩ := bringQ hB hr hc
  have hM1 := hM.kc e4
  obtain ⟨s3, g1, g2, g3, g4, g5⟩ := upp_lay hB hM1 e2 hf
  have rm := rankedM_ok (u := fun s => Int64.ofInt (UP H s f)) g2 x2
  refine ⟨lastR (fun s => Int64.ofInt (UP H s f)) x2 4, s1, s3, ?_, ?_, e4, e5, g5⟩
  · unfold f_X6_ranked
    rw [if_neg u1, e1, Option.bind_some]
    rcases rankedC_ok (σ := s1) (f := f) (u := fun s => Int64.ofInt (UP H s f)) (fun s hs => upper_ok e3.2.2.1 hf (by omega)) x2 with q | ⟨q, q2⟩
    · rw [q]; rfl
    · rw [q, q2]; rfl
  · unfold f_X7_ranked
    rw [if_neg v1, g1, Option.bind_some, rm, Option.bind_some]
theorem q_owners {B : Bk} {σ : Sg} (hB : okB B) (hr : repB 1 σ B) (hM : repMB σ B) (hc : cacheOK σ B) (x1 : Int32) : QQ B σ (f_X6_owners x1 σ) (f_X7_owners x1) := by
  rcases firm_c x1 with ⟨u1, v1, _⟩ | ⟨u1, v1, f, hf, rfl⟩
  · refine QQ.same hc (r := -1) ?_ ?_
    · unfold f_X6_owners; rw [if_pos u1]
    · unfold f_X7_owners; rw [if_pos v1]
  obtain ⟨s1, H, e1, e2, e3, e4, e5, e6⟩ := bringQ hB hr hc
  have hM1 := hM.kc e4
  obtain ⟨b1, b2, b3, b4, b5, b6, b7, b8⟩ := id hB
  obtain ⟨s3, g1, g2, g3, g4, g5⟩ := upp_lay hB hM1 e2 hf
  obtain ⟨s4, k1, k2, k3⟩ := lowerM_ok g3.1 e2.2
  have kk := kpM.of k3 (fun j hj => by omega)
  obtain ⟨s5, j1, j2⟩ := ownM_ok (σ := s4) (ow := nI (bW B)) hf (g3.kept (fun j _ _ => by rw [k2])) e2.2 (show bH B < 1000 by omega) (show bM B < 1000 by omega) (by rw [k2]; exact g4.2.2.2.2) (fun s hs => by rw [(k3 147 (by omega)).2]; exact g2 s hs)
  have ov := over_ok (c := 53) (a := 0) (n := 4) hf (by omega) (by omega) e3.2.1
  refine ⟨nI (bfN (owP H (bH B) (bM B) f (nI (bW B))) 4), s1, s5, ?_, ?_, e4, e5, g5.tr (kk.tr (kpM.off j2))⟩
  · unfold f_X6_owners
    rw [if_neg u1, e1, Option.bind_some, show f_X1_thoseOver 53 (nI f) 0 4 s1 = _ from ov, Option.bind_some, pab_ok e3.2.2.1 hf, Option.bind_some, oror_ok _ (bfN_lt _ 4 (by omega)) _ (bfN_lt _ 4 (by omega)), bfN_or, e6.2.2.2.2, show bfN (fun i => ovr H (bH B) (bM B) f 0 i || pab H f (nI (bW B)) i) 4 = bfN (owP H (bH B) (bM B) f (nI (bW B))) 4 from bfN_congr (fun j _ => rfl)]
  · unfold f_X7_owners
    rw [if_neg v1, g1, Option.bind_some, k1, Option.bind_some]
    show Option.bind (L_X7_owners_25 (nI f) (Int64.ofInt (LO H)) FU 0 0 s4) _ = _
    rw [j1]
    rfl
theorem q_circle {B : Bk} {σ : Sg} (hB : okB B) (hr : repB 1 σ B) (hM : repMB σ B) (hc : cacheOK σ B) (x1 : Int32) : QQ B σ (f_X6_circle x1 σ) (f_X7_circle x1) := by
  rcases firm_c x1 with ⟨u1, v1, _⟩ | ⟨u1, v1, f, hf, rfl⟩
  · refine QQ.same hc (r := -1) ?_ ?_
    · unfold f_X6_circle; rw [if_pos u1]
    · unfold f_X7_circle; rw [if_pos v1]
  obtain ⟨s1, H, e1, e2, e3, e4, e5, e6⟩ := bringQ hB hr hc
  have hL : bL B < 2000 := by have := hB.2.2.2.1; omega
  have hM1 := hM.kc e4
  obtain ⟨s2, g1, g2, g3, g4⟩ := layQ hB hL hM1 e2
  obtain ⟨s3, k1, k2, k3⟩ := cir_22 (y := nI f) s2
  have g6 : repM s3 H := (g2.kept (fun j _ _ => (k3 j (by omega)).1)).1
  obtain ⟨s4, j1, j2, j3⟩ := cir_42 (y := nI f) g6 e2.2 k2
  refine ⟨nI (bfN (crc H f) 5), s1, s4, ?_, ?_, e4, e5, g4.tr ((kpM.of k3 (fun j hj => by omega)).tr (kpM.of j3 (fun j hj => by omega)))⟩
  · unfold f_X6_circle
    rw [if_neg u1, e1, Option.bind_some, circ_ok hf e3.2.2.2]
    rfl
  · unfold f_X7_circle
    rw [if_neg v1, hM1.2.1, g1, Option.bind_some]
    show Option.bind (L_X7_circle_22 (nI f) FU 0 s2) _ = _
    rw [k1, Option.bind_some]
    show Option.bind (L_X7_circle_42 (nI f) FU 0 s3) _ = _
    rw [j1, Option.bind_some]
    show Option.bind (L_X7_circle_126 (nI f) s4 FU 0 0) _ = _
    rw [cir_126 hf j2]
    rfl
