/-! COUNTS; EVERY CALL -/
theorem cnt_lo {x : Int32} (n : ∀ m, m ≤ 49 → ¬ x = nI m) : f_X7_in x 10 49 = 0 := by
  unfold f_X7_in
  by_cases c1 : x < 10
  · rw [if_pos c1]
  · rw [if_neg c1, if_pos]
    have h10 : (10 : Int32).toInt = 10 := rfl
    have h49 : (49 : Int32).toInt = 49 := rfl
    rw [Int32.lt_iff_toInt_lt, h10] at c1
    rw [Int32.lt_iff_toInt_lt, h49]
    apply Int.lt_of_not_ge
    intro q
    exact n x.toInt.toNat (by omega) (asN (by omega))
theorem q_count {B : Bk} {σ : Sg} {k0 k1 : Bool} (hB : okB B) (hr : repB 1 σ B) (hM : repMB σ B) (hc : cacheOK σ B) (hk : keptOK σ k0 k1) (x1 : Int32) (h7 : x1 ≠ nI 7) : QQ B σ (f_X6_count x1 σ) (f_X7_count x1) := by
  obtain ⟨b1, b2, b3, b4, b5, b6, b7, b8⟩ := id hB
  have hL : bL B < 2000 := by omega
  obtain ⟨H, hH⟩ := holdB_ex hB (bL B)
  obtain ⟨s2, g1, g2, g3, g4⟩ := layQ hB hL hM hH
  have pre : ∀ Z : Int32 × Sg → Option (Int32 × Sg), (f_X7_lay (σ.1 132 7) (-6) σ).bind Z = Z (1, s2) := fun Z => by rw [hM.2.1, g1]; rfl
  have e6 : s2.1 132 6 = nI (bN B) := g3.1.1
  have e7 : s2.1 132 7 = nI (bL B) := g3.2.1
  have r0 := g3.2.2.1
  have r1 := g3.2.2.2.1
  have r2 := g3.2.2.2.2
  have d7 := hr.1.1
  have d8 := hr.2.1
  have d9 := hr.2.2.1
  have d10 := hr.2.2.2.1
  have d11 := hr.2.2.2.2
  rcases in_c x1 49 (by omega) rfl rfl with ⟨_, _, n1⟩ | ⟨_, _, k, hk1, rfl⟩
  · refine ⟨-2, σ, s2, ?_, ?_, kpC.rf, hc, g4⟩
    · unfold f_X6_count
      rw [if_neg (show ¬ x1 = 0 from n1 0 (by omega)), if_neg (show ¬ x1 = 1 from n1 1 (by omega)), if_neg (show ¬ x1 = 2 from n1 2 (by omega)), if_neg (show ¬ x1 = 3 from n1 3 (by omega)), if_neg (show ¬ x1 = 4 from n1 4 (by omega)), if_neg (show ¬ x1 = 5 from n1 5 (by omega)), if_neg (show ¬ x1 = 6 from n1 6 (by omega)), if_neg (show ¬ x1 = 7 from n1 7 (by omega)), if_neg (show ¬ x1 = 8 from n1 8 (by omega)), if_neg (show ¬ x1 = 9 from n1 9 (by omega))]
      by_cases c1 : x1 < 10
      · rw [if_pos c1]
      · rw [if_neg c1, if_pos]
        have h10 : (10 : Int32).toInt = 10 := rfl
        have h50 : (50 : Int32).toInt = 50 := rfl
        rw [Int32.lt_iff_toInt_lt, h10] at c1
        rw [Int32.le_iff_toInt_le, h50]
        apply Int.le_of_not_gt
        intro q
        exact n1 x1.toInt.toNat (by omega) (asN (by omega))
    · unfold f_X7_count
      rw [pre]
      rw [if_neg (show ¬ x1 = 0 from n1 0 (by omega)), if_neg (show ¬ x1 = 1 from n1 1 (by omega)), if_neg (show ¬ x1 = 2 from n1 2 (by omega)), if_neg (show ¬ x1 = 3 from n1 3 (by omega)), if_neg (show ¬ x1 = 4 from n1 4 (by omega)), if_neg (show ¬ x1 = 5 from n1 5 (by omega)), if_neg (show ¬ x1 = 6 from n1 6 (by omega)), if_neg (show ¬ x1 = 7 from n1 7 (by omega)), if_neg (show ¬ x1 = 8 from n1 8 (by omega)), if_neg (show ¬ x1 = 9 from n1 9 (by omega)), if_pos (cnt_lo n1)]
  by_cases c10 : 10 ≤ k
  · obtain ⟨i, rfl⟩ : ∃ i, k = i + 10 := ⟨k - 10, by omega⟩
    have hC := unlikeC_ok (b := 1) (i := i) b1 hr.1 b2 b3 (by omega)
    have hMm := unlikeM_ok (i := i) b1 g3.1 b2 b3 (by omega)
    have es : nI (i + 10) - 10 = nI i := by rw [li10, c_sub (by omega), Nat.add_sub_cancel]
    have hin : ¬ f_X7_in (nI (i + 10)) 10 49 = 0 := by
      unfold f_X7_in
      rw [if_neg (by rw [li10, c_lt (by omega) (by omega)]; omega), if_neg (by rw [li49, c_lt (by omega) (by omega)]; omega)]
      exact n10
    refine ⟨nx (bD B) (bN B) (bO B) (bsB B i), σ, s2, ?_, ?_, kpC.rf, hc, g4⟩
    · unfold f_X6_count
      rw [if_neg (show ¬ nI (i + 10) < 10 by rw [li10, c_lt (by omega) (by omega)]; omega), if_neg (show ¬ (50 : Int32) ≤ nI (i + 10) by rw [li50, c_le (by omega) (by omega)]; omega), es, hC]
      rfl
    · have ne : ∀ m, m < 10 → ¬ nI (i + 10) = nI m := fun m hm => by rw [c_eq (by omega) (by omega)]; omega
      unfold f_X7_count
      rw [pre]
      rw [if_neg (show ¬ nI (i + 10) = 0 from ne 0 (by omega)), if_neg (show ¬ nI (i + 10) = 1 from ne 1 (by omega)), if_neg (show ¬ nI (i + 10) = 2 from ne 2 (by omega)), if_neg (show ¬ nI (i + 10) = 3 from ne 3 (by omega)), if_neg (show ¬ nI (i + 10) = 4 from ne 4 (by omega)), if_neg (show ¬ nI (i + 10) = 5 from ne 5 (by omega)), if_neg (show ¬ nI (i + 10) = 6 from ne 6 (by omega)), if_neg (show ¬ nI (i + 10) = 7 from ne 7 (by omega)), if_neg (show ¬ nI (i + 10) = 8 from ne 8 (by omega)), if_neg (show ¬ nI (i + 10) = 9 from ne 9 (by omega)), if_neg hin, es, hMm]
      rfl
  · rcases (show k = 0 ∨ k = 1 ∨ k = 2 ∨ k = 3 ∨ k = 4 ∨ k = 5 ∨ k = 6 ∨ k = 7 ∨ k = 8 ∨ k = 9 by omega) with rfl | rfl | rfl | rfl | rfl | rfl | rfl | rfl | rfl | rfl
    · refine ⟨nI (bN B), σ, s2, ?_, ?_, kpC.rf, hc, g4⟩
      · show some (σ.1 1 7, σ) = _
        rw [d7]
      · unfold f_X7_count
        rw [pre]
        show some (s2.1 132 6, s2) = _
        rw [e6]
    · refine ⟨nI (bL B), σ, s2, ?_, ?_, kpC.rf, hc, g4⟩
      · show some (σ.1 1 8, σ) = _
        rw [d8]
      · unfold f_X7_count
        rw [pre]
        show some (s2.1 132 7, s2) = _
        rw [e7]
    · refine ⟨nI (bH B), σ, s2, ?_, ?_, kpC.rf, hc, g4⟩
      · show some (σ.1 1 9, σ) = _
        rw [d9]
      · unfold f_X7_count
        rw [pre]
        show (if inb 0 3 then some (s2.1 139 0, s2) else none) = _
        rw [r0]
        rfl
    · refine ⟨nI (bM B), σ, s2, ?_, ?_, kpC.rf, hc, g4⟩
      · show some (σ.1 1 10, σ) = _
        rw [d10]
      · unfold f_X7_count
        rw [pre]
        show (if inb 1 3 then some (s2.1 139 1, s2) else none) = _
        rw [r1]
        rfl
    · refine ⟨nI (bW B), σ, s2, ?_, ?_, kpC.rf, hc, g4⟩
      · show some (σ.1 1 11, σ) = _
        rw [d11]
      · unfold f_X7_count
        rw [pre]
        show (if inb 2 3 then some (s2.1 139 2, s2) else none) = _
        rw [r2]
        rfl
    · refine ⟨nI (dnN (bD B) (bN B) (bL B)), σ, s2, ?_, ?_, kpC.rf, hc, g4⟩
      · show Option.bind (f_X0_doneBy 1 (σ.1 1 8) σ) (fun r => some (r, σ)) = _
        rw [d8, doneC_ok (L := bL B) (by omega) hL hr.1 b2]
        rfl
      · unfold f_X7_count
        rw [pre]
        show Option.bind (f_X7_done s2) (fun r => some (r, s2)) = _
        rw [doneM_ok (L := bL B) (by omega) hL g3.1 e7 b2]
        rfl
    · obtain ⟨s1, H1, p1, p2, p3, p4, p5, p6⟩ := bringQ hB hr hc
      have hM1 := hM.kc p4
      obtain ⟨s3, q1, q2, q3, q4⟩ := layQ hB hL hM1 p2
      obtain ⟨s4, m1, m2⟩ := mostM_ok q2 p2.2 (by omega) (by omega)
      refine ⟨nI (mxN H1 (bH B) (bM B) 9), s1, s4, ?_, ?_, p4, p5, q4.tr (kpM.off m2)⟩
      · show Option.bind (f_X6_bringUpToDate σ) (fun q => Option.bind (f_X1_mostRounds 53 q) (fun r => some (r, q))) = _
        rw [p1, Option.bind_some, most_ok p3.2.1]
        rfl
      · unfold f_X7_count
        rw [hM1.2.1, q1, Option.bind_some]
        show Option.bind (f_X7_mostRounds s3) (fun q => some (q.1, q.2)) = _
        rw [m1]
        rfl
    · exact absurd rfl h7
    · obtain ⟨s1, H1, p1, p2, p3, p4, p5, p6⟩ := bringQ hB hr hc
      have hM1 := hM.kc p4
      obtain ⟨s3, q1, q2, q3, q4⟩ := layQ hB hL hM1 p2
      refine ⟨nI (lkN H1), s1, s3, ?_, ?_, p4, p5, q4⟩
      · show Option.bind (f_X6_bringUpToDate σ) (fun q => some (q.1 79 0, q)) = _
        rw [p1, Option.bind_some, p3.2.2.1.1]
      · unfold f_X7_count
        rw [hM1.2.1, q1, Option.bind_some]
        show Option.bind (f_X7_locked s3) (fun r => some (r, s3)) = _
        rw [lockM_ok q2.1 p2.2]
        rfl
    · have z150 : s2.1 150 = σ.1 150 := (g4.1 150 (by unfold inKM; omega)).1
      refine ⟨nI (k0.toNat + 2 * k1.toNat), σ, s2, ?_, ?_, kpC.rf, hc, g4⟩
      · show some (σ.1 0 3, σ) = _
        rw [hk.1]
      · unfold f_X7_count
        rw [pre]
        show some ((if s2.1 150 0 = 0 then (0 : Int32) else 1) + (if s2.1 150 1 = 0 then (0 : Int32) else 2), s2) = _
        rw [z150, hk.2.1, hk.2.2]
        cases k0 <;> cases k1 <;> rfl
theorem q_count7 {B : Bk} {σ : Sg} (hB : okB B) (hr : repB 1 σ B) (hM : repMB σ B) (ht : traceOK σ B) : TQ B σ (f_X6_count (nI 7) σ) (f_X7_count (nI 7)) := by
  obtain ⟨b1, b2, b3, b4, b5, b6, b7, b8⟩ := id hB
  have hL : bL B < 2000 := by omega
  obtain ⟨H, hH⟩ := holdB_ex hB (bL B)
  obtain ⟨s1, e1, ⟨T, l1, l2, l3⟩, e3, e4⟩ := traceQ hB hr ht
  have hM1 := hM.kt e4
  obtain ⟨s2, g1, g2, g3, g4⟩ := layQ hB hL hM1 hH
  obtain ⟨s3, k1, k2, k3⟩ := eventsM_ok (x1 := -6) hB l1 g3
  refine ⟨nI (cnt (ev B) (45 * T)), s1, s3, ?_, ?_, e4, Or.inr ⟨e3, T, l1, l2, l3⟩, g4.tr k3⟩
  · show Option.bind (f_X6_trace σ) (fun q => some (q.1 88 4, q)) = _
    rw [e1, Option.bind_some, l3.1]
  · unfold f_X7_count
    rw [hM1.2.1, g1, Option.bind_some]
    show Option.bind (f_X7_events (-6) s2) (fun q => some (q.1, q.2)) = _
    rw [k1]
    rfl
section
variable {σ : Sg}
theorem s_count (hI : INV σ) (x1 : Int32) : STP σ (f_X6_count x1) (f_X7_count x1) := by
  by_cases c : x1 = nI 7
  · subst c
    exact STP.t hI (fun B hB hr hM ht => q_count7 hB hr hM ht)
  · exact STP.op hI (fun B k0 k1 I0 I1 hB hr hM hc hk _ _ => OP.of hB hr hM (q_count hB hr hM hc hk x1 c))
theorem s_sellShares (hI : INV σ) (x1 x2 x3 x4 x5 : Int32) : STP σ (f_X6_sellShares x1 x2 x3 x4 x5) (f_X7_sellShares x1 x2 x3 x4 x5) := STP.op hI (fun B k0 k1 I0 I1 hB hr hM hc _ _ _ => q_sellShares hB hr hM hc x1 x2 x3 x4 x5)
theorem s_sellVotes (hI : INV σ) (x1 x2 x3 x4 x5 : Int32) : STP σ (f_X6_sellVotes x1 x2 x3 x4 x5) (f_X7_sellVotes x1 x2 x3 x4 x5) := STP.op hI (fun B k0 k1 I0 I1 hB hr hM hc _ _ _ => q_sellVotes hB hr hM hc x1 x2 x3 x4 x5)
theorem s_veto (hI : INV σ) (x1 x2 x3 x4 : Int32) : STP σ (f_X6_veto x1 x2 x3 x4) (f_X7_veto x1 x2 x3 x4) := STP.op hI (fun B k0 k1 I0 I1 hB hr hM hc _ _ _ => q_veto hB hr hM hc x1 x2 x3 x4)
theorem s_cancel (hI : INV σ) (x1 : Int32) : STP σ (f_X6_cancel x1) (f_X7_cancel x1) := STP.op hI (fun B k0 k1 I0 I1 hB hr hM hc _ _ _ => q_cancel hB hr hM hc x1)
theorem s_look (hI : INV σ) (x1 : Int32) : STP σ (f_X6_look x1) (f_X7_look x1) := STP.op hI (fun B k0 k1 I0 I1 hB hr hM hc _ _ _ => q_look hB hr hM hc x1)
theorem s_rule (hI : INV σ) (x1 x2 : Int32) : STP σ (f_X6_rule x1 x2) (f_X7_rule x1 x2) := STP.op hI (fun B k0 k1 I0 I1 hB hr hM hc _ _ _ => q_rule hB hr hM hc x1 x2)
theorem s_restore (hI : INV σ) (x1 : Int32) : STP σ (f_X6_restore x1) (f_X7_restore x1) := STP.op hI (fun B k0 k1 I0 I1 hB hr hM hc hk h0 h1 => q_restore hB hr hM hc hk h0 h1 x1)
theorem s_holds (hI : INV σ) (x1 x2 x3 : Int32) : STP σ (f_X6_holds x1 x2 x3) (f_X7_holds x1 x2 x3) := STP.q hI (fun B hB hr hM hc => q_holds hB hr hM hc x1 x2 x3)
theorem s_controls (hI : INV σ) (x1 : Int32) : STP σ (f_X6_controls x1) (f_X7_controls x1) := STP.q hI (fun B hB hr hM hc => q_controls hB hr hM hc x1)
theorem s_how (hI : INV σ) (x1 x2 x3 : Int32) : STP σ (f_X6_how x1 x2 x3) (f_X7_how x1 x2 x3) := STP.q hI (fun B hB hr hM hc => q_how hB hr hM hc x1 x2 x3)
theorem s_above (hI : INV σ) (x1 x2 : Int32) : STP σ (f_X6_above x1 x2) (f_X7_above x1 x2) := STP.q hI (fun B hB hr hM hc => q_above hB hr hM hc x1 x2)
theorem s_fewest (hI : INV σ) (x1 x2 x3 : Int32) : STP σ (f_X6_fewest x1 x2 x3) (f_X7_fewest x1 x2 x3) := STP.q hI (fun B hB hr hM hc => q_fewest hB hr hM hc x1 x2 x3)
theorem s_when (hI : INV σ) (x1 x2 x3 : Int32) : STP σ (f_X6_when x1 x2 x3) (f_X7_when x1 x2 x3) := STP.t hI (fun B hB hr hM ht => q_when hB hr hM ht x1 x2 x3)
theorem s_event (hI : INV σ) (x1 x2 : Int32) : STP σ (f_X6_event x1 x2) (f_X7_event x1 x2) := STP.t hI (fun B hB hr hM ht => q_event hB hr hM ht x1 x2)
theorem s_stake (hI : INV σ) (x1 x2 x3 : Int32) : STP σ (f_X6_stake x1 x2 x3) (f_X7_stake x1 x2 x3) := STP.q hI (fun B hB hr hM hc => q_stake hB hr hM hc x1 x2 x3)
theorem s_nobody (hI : INV σ) (x1 x2 : Int32) : STP σ (f_X6_nobody x1 x2) (f_X7_nobody x1 x2) := STP.q hI (fun B hB hr hM hc => q_nobody hB hr hM hc x1 x2)
theorem s_ranked (hI : INV σ) (x1 x2 : Int32) : STP σ (f_X6_ranked x1 x2) (f_X7_ranked x1 x2) := STP.q hI (fun B hB hr hM hc => q_ranked hB hr hM hc x1 x2)
theorem s_owners (hI : INV σ) (x1 : Int32) : STP σ (f_X6_owners x1) (f_X7_owners x1) := STP.q hI (fun B hB hr hM hc => q_owners hB hr hM hc x1)
theorem s_circle (hI : INV σ) (x1 : Int32) : STP σ (f_X6_circle x1) (f_X7_circle x1) := STP.q hI (fun B hB hr hM hc => q_circle hB hr hM hc x1)
end
