/-! LOOKING AT A DAY, RULES -/
theorem q_look {B : Bk} {σ : Sg} (hB : okB B) (hr : repB 1 σ B) (hM : repMB σ B) (hc : cacheOK σ B) (x1 : Int32) : OP B σ (f_X6_look x1 σ) (f_X7_look x1) := by
  rcases day_c x1 with ⟨u1, v1, _⟩ | ⟨u1, v1, d, hd, rfl⟩
  · refine OP.same hB hr hM hc (r := -2) ?_ ?_
    · unfold f_X6_look; rw [if_pos u1]
    · unfold f_X7_look; rw [if_pos v1]
  obtain ⟨b1, b2, b3, b4, b5, b6, b7, b8⟩ := id hB
  obtain ⟨s1, hs1⟩ : ∃ s1, s1 = setR (setR σ 1 (upd (σ.1 1) 8 (nI d))) 0 (upd (σ.1 0) 8 (nI 0)) := ⟨_, rfl⟩
  obtain ⟨s2, hs2⟩ : ∃ s2, s2 = setR s1 132 (upd (s1.1 132) 7 (nI d)) := ⟨_, rfl⟩
  have w : ∀ j, j ≠ 0 → j ≠ 1 → j ≠ 132 → s2.1 j = σ.1 j := fun j h0 h1 h2 => by rw [hs2, hs1]; simp (disch := omega) only [sR_s, sR_n, sL_s, sL_n, sR_2, sL_1, up_s, up_n]
  have w0 : s2.1 0 = upd (σ.1 0) 8 (nI 0) := by rw [hs2, hs1]; simp (disch := omega) only [sR_s, sR_n, sL_s, sL_n, sR_2, sL_1, up_s, up_n]
  have w1 : s2.1 1 = upd (σ.1 1) 8 (nI d) := by rw [hs2, hs1]; simp (disch := omega) only [sR_s, sR_n, sL_s, sL_n, sR_2, sL_1, up_s, up_n]
  have w2 : s2.1 132 = upd (σ.1 132) 7 (nI d) := by rw [hs2, hs1]; simp (disch := omega) only [sR_s, sR_n, sL_s, sL_n, sR_2, sL_1, up_s, up_n]
  have h7 : s1.1 132 7 = nI (bL B) := by rw [hs1]; simp (disch := omega) only [sR_s, sR_n, sL_s, sL_n, sR_2, sL_1, up_s, up_n]; exact hM.2.1
  refine ⟨nI (bL B), s1, s2, (bN B, bD B, bO B, d, bH B, bM B, bW B), ?_, ?_, ⟨b1, b2, b3, show d ≤ 999 by omega, b5, b6, b7, b8⟩, ?_, ?_, Or.inl (by rw [w0, up_s]), ?_, fun y h1 h2 => by rw [w0, up_n _ _ h1], Or.inl ⟨⟨rfl, rfl, rfl, rfl, rfl⟩, by rw [w0, up_n _ _ (by omega)]⟩⟩
  · unfold f_X6_look
    rw [if_neg u1, hr.2.1, hs1]
    simp only [jn]
    rw [sR_n _ _ (show (0 : Nat) ≠ 1 by omega)]
    rfl
  · unfold f_X7_look
    rw [if_neg v1, h7, hs2]
    rfl
  · obtain ⟨⟨r1, r2, r3⟩, r4, r5, r6, r7⟩ := hr
    refine ⟨⟨by rw [w1, up_n _ _ (by omega)]; exact r1, fun e he => ?_, fun k hk => by rw [w (1 + 7) (by omega) (by omega) (by omega)]; exact r3 k hk⟩, by rw [w1, up_s], by rw [w1, up_n _ _ (by omega)]; exact r5, by rw [w1, up_n _ _ (by omega)]; exact r6, by rw [w1, up_n _ _ (by omega)]; exact r7⟩
    have := r2 e he
    unfold repD at this ⊢
    rw [w (1 + 1) (by omega) (by omega) (by omega), w (1 + 2) (by omega) (by omega) (by omega), w (1 + 3) (by omega) (by omega) (by omega), w (1 + 4) (by omega) (by omega) (by omega), w (1 + 5) (by omega) (by omega) (by omega), w (1 + 6) (by omega) (by omega) (by omega)]
    exact this
  · obtain ⟨m1, m2, m3, m4, m5⟩ := hM
    refine ⟨m1.kp (fun j h1 h2 => w j (by omega) (by omega) (by omega)) (by rw [w2, up_n _ _ (by omega)]), by rw [w2, up_s], ?_, ?_, ?_⟩ <;> rw [w 139 (by omega) (by omega) (by omega)]
    · exact m3
    · exact m4
    · exact m5
  · rw [hs2, hs1]
    refine fr.tr (fr.tr (fr.setR ?_) (fr.setR ?_)) (fr.setR ?_) <;> unfold inOP inB <;> omega
theorem amt99_c (x : Int32) : (f_X7_in x 1 99 = 0 ∧ (x < 1 ∨ (¬ x < 1 ∧ ¬ x < 100))) ∨ (¬ f_X7_in x 1 99 = 0 ∧ ¬ x < 1 ∧ x < 100 ∧ ∃ m, 1 ≤ m ∧ m < 100 ∧ x = nI m) := by
  unfold f_X7_in
  have h1 : (1 : Int32).toInt = 1 := rfl
  have h99 : (99 : Int32).toInt = 99 := rfl
  have h100 : (100 : Int32).toInt = 100 := rfl
  by_cases c1 : x < 1
  · left; rw [if_pos c1]; exact ⟨rfl, Or.inl c1⟩
  · rw [if_neg c1]
    have c1' := c1
    rw [Int32.lt_iff_toInt_lt, h1] at c1'
    by_cases c2 : 99 < x
    · left
      rw [if_pos c2]
      rw [Int32.lt_iff_toInt_lt, h99] at c2
      refine ⟨rfl, Or.inr ⟨c1, fun q => ?_⟩⟩
      rw [Int32.lt_iff_toInt_lt, h100] at q
      omega
    · right
      rw [if_neg c2]
      rw [Int32.lt_iff_toInt_lt, h99] at c2
      exact ⟨n10, c1, Int32.lt_iff_toInt_lt.mpr (by rw [h100]; omega), x.toInt.toNat, by omega, by omega, asN (by omega)⟩
theorem ix_c (x : Int32) : (f_X7_in x 0 2 = 0 ∧ (x < 0 ∨ (¬ x < 0 ∧ 2 < x))) ∨ (¬ f_X7_in x 0 2 = 0 ∧ ¬ x < 0 ∧ ¬ 2 < x ∧ ∃ m, m < 3 ∧ x = nI m) := by
  have h0 : (0 : Int32).toInt = 0 := rfl
  have h2 : (2 : Int32).toInt = 2 := rfl
  unfold f_X7_in
  by_cases c1 : x < 0
  · left; rw [if_pos c1]; exact ⟨rfl, Or.inl c1⟩
  · rw [if_neg c1]
    by_cases c2 : 2 < x
    · left; rw [if_pos c2]; exact ⟨rfl, Or.inr ⟨c1, c2⟩⟩
    · right
      rw [if_neg c2]
      refine ⟨n10, c1, c2, x.toInt.toNat, ?_, asN ?_⟩
      · rw [Int32.lt_iff_toInt_lt, h2] at c2; omega
      · rw [Int32.lt_iff_toInt_lt, h0] at c1; omega
def rulB (B : Bk) (k n : Nat) : Bk := (bN B, bD B, bO B, bL B, if k = 0 then n else bH B, if k = 1 then n else bM B, if k = 2 then n else bW B)
def rulO (B : Bk) (k : Nat) : Nat := if k = 0 then bH B else if k = 1 then bM B else bW B
theorem rul_rep {B : Bk} {σ s : Sg} {k n : Nat} (hk : k < 3) (hr : repB 1 σ B) (h1 : s.1 1 = upd (σ.1 1) (9 + k) (nI n)) (h2 : ∀ j, 2 ≤ j → j ≤ 8 → s.1 j = σ.1 j) : repB 1 s (rulB B k n) := by
  obtain ⟨⟨r1, r2, r3⟩, r4, r5, r6, r7⟩ := hr
  refine ⟨⟨by rw [h1, up_n _ _ (by omega)]; exact r1, fun e he => ?_, fun k hk => by rw [h2 (1 + 7) (by omega) (by omega)]; exact r3 k hk⟩, by rw [h1, up_n _ _ (by omega)]; exact r4, ?_, ?_, ?_⟩
  · have := r2 e he
    unfold repD at this ⊢
    rw [h2 (1 + 1) (by omega) (by omega), h2 (1 + 2) (by omega) (by omega), h2 (1 + 3) (by omega) (by omega), h2 (1 + 4) (by omega) (by omega), h2 (1 + 5) (by omega) (by omega), h2 (1 + 6) (by omega) (by omega)]
    exact this
  · rw [h1, upd_at]
    show _ = nI (if k = 0 then n else bH B)
    by_cases c : k = 0
    · rw [if_pos (by omega), if_pos c]
    · rw [if_neg (by omega), if_neg c]; exact r5
  · rw [h1, upd_at]
    show _ = nI (if k = 1 then n else bM B)
    by_cases c : k = 1
    · rw [if_pos (by omega), if_pos c]
    · rw [if_neg (by omega), if_neg c]; exact r6
  · rw [h1, upd_at]
    show _ = nI (if k = 2 then n else bW B)
    by_cases c : k = 2
    · rw [if_pos (by omega), if_pos c]
    · rw [if_neg (by omega), if_neg c]; exact r7
theorem q_rule {B : Bk} {σ : Sg} (hB : okB B) (hr : repB 1 σ B) (hM : repMB σ B) (hc : cacheOK σ B) (x1 x2 : Int32) : OP B σ (f_X6_rule x1 x2 σ) (f_X7_rule x1 x2) := by
  rcases ix_c x1 with ⟨v1, u1⟩ | ⟨v1, u1, w1, k, hk, rfl⟩
  · refine OP.same hB hr hM hc (r := -2) ?_ ?_
    · unfold f_X6_rule
      rcases u1 with u1 | ⟨u1, w1⟩
      · rw [if_pos u1]
      · rw [if_neg u1, if_pos w1]
    · unfold f_X7_rule; rw [if_pos v1]
  rcases amt99_c x2 with ⟨v2, u2⟩ | ⟨v2, u2, w2, n, n1, n2, rfl⟩
  · refine OP.same hB hr hM hc (r := -2) ?_ ?_
    · unfold f_X6_rule
      rcases u2 with u2 | ⟨u2, w2⟩
      · rw [if_neg u1, if_neg w1, if_pos u2]
      · rw [if_neg u1, if_neg w1, if_neg u2, if_neg w2]
    · unfold f_X7_rule; rw [if_neg v1, if_pos v2]
  obtain ⟨b1, b2, b3, b4, b5, b6, b7, b8⟩ := id hB
  obtain ⟨s0, hs0⟩ : ∃ s0, s0 = setR σ 1 (upd (σ.1 1) (9 + k) (nI n)) := ⟨_, rfl⟩
  obtain ⟨s1, g1, g2, g3, g4, g5⟩ := changed_ok s0
  obtain ⟨s2, hs2⟩ : ∃ s2, s2 = setR s1 139 (upd (s1.1 139) k (nI n)) := ⟨_, rfl⟩
  have z : ∀ j, j ≠ 0 → j ≠ 1 → s1.1 j = σ.1 j := fun j h0 h1 => by rw [(g5 j h0).1, hs0, sR_n _ _ h1]
  have w : ∀ j, j ≠ 0 → j ≠ 1 → j ≠ 139 → s2.1 j = σ.1 j := fun j h0 h1 h2 => by rw [hs2, sR_n _ _ h2]; exact z j h0 h1
  have e1 : s2.1 1 = upd (σ.1 1) (9 + k) (nI n) := by rw [hs2, sR_n _ _ (by omega), (g5 1 (by omega)).1, hs0, sR_s]
  have e0 : s2.1 0 = s1.1 0 := by rw [hs2, sR_n _ _ (by omega)]
  have o1 : σ.1 1 (9 + k) = nI (rulO B k) := by
    obtain ⟨_, _, r5, r6, r7⟩ := hr
    rcases (show k = 0 ∨ k = 1 ∨ k = 2 by omega) with rfl | rfl | rfl
    · exact r5
    · exact r6
    · exact r7
  have o2 : s1.1 139 k = nI (rulO B k) := by
    rw [z 139 (by omega) (by omega)]
    obtain ⟨_, _, r5, r6, r7⟩ := hM
    rcases (show k = 0 ∨ k = 1 ∨ k = 2 by omega) with rfl | rfl | rfl
    · exact r5
    · exact r6
    · exact r7
  refine ⟨nI (rulO B k), s1, s2, rulB B k n, ?_, ?_, ⟨b1, b2, b3, b4, ?_, ?_, ?_, b8⟩, rul_rep hk hr e1 (fun j a b => w j (by omega) (by omega) (by omega)), ?_, Or.inl (by rw [e0]; exact g2), ?_, fun y h1 h2 => by rw [e0, g4 y h1 h2, hs0, sR_n _ _ (by omega)], Or.inr (by rw [e0]; exact g3)⟩
  · unfold f_X6_rule
    rw [if_neg u1, if_neg w1, if_neg u2, if_pos w2]
    simp only [jn]
    rcases (show k = 0 ∨ k = 1 ∨ k = 2 by omega) with rfl | rfl | rfl
    · rw [if_pos (show nI 0 = 0 from rfl), show setR σ 1 (upd (σ.1 1) 9 (nI n)) = s0 from hs0.symm, g1, Option.bind_some, show σ.1 1 9 = _ from o1]
    · rw [if_neg (show ¬ nI 1 = 0 by decide), if_pos (show nI 1 = 1 from rfl), show setR σ 1 (upd (σ.1 1) 10 (nI n)) = s0 from hs0.symm, g1, Option.bind_some, show σ.1 1 10 = _ from o1]
    · rw [if_neg (show ¬ nI 2 = 0 by decide), if_neg (show ¬ nI 2 = 1 by decide), show setR σ 1 (upd (σ.1 1) 11 (nI n)) = s0 from hs0.symm, g1, Option.bind_some, show σ.1 1 11 = _ from o1]
  · unfold f_X7_rule
    rw [if_neg v1, if_neg v2]
    simp only [jn]
    rw [if_pos (show inb (nI k) 3 by rw [c_inb (by omega)]; exact hk), if_pos (show inb (nI k) 3 by rw [c_inb (by omega)]; exact hk), c_tn (by omega), o2, hs2]
  · show (if k = 0 then n else bH B) < 100
    split <;> omega
  · show (if k = 1 then n else bM B) < 100
    split <;> omega
  · show (if k = 2 then n else bW B) < 100
    split <;> omega
  · obtain ⟨m1, m2, m3, m4, m5⟩ := hM
    have e139 : s2.1 139 = upd (σ.1 139) k (nI n) := by rw [hs2, sR_s, z 139 (by omega) (by omega)]
    refine ⟨m1.kept (fun j a b => w j (by omega) (by omega) (by omega)), by rw [w 132 (by omega) (by omega) (by omega)]; exact m2, ?_, ?_, ?_⟩
    · rw [e139, upd_at]
      show _ = nI (if k = 0 then n else bH B)
      by_cases c : k = 0
      · rw [if_pos (by omega), if_pos c]
      · rw [if_neg (by omega), if_neg c]; exact m3
    · rw [e139, upd_at]
      show _ = nI (if k = 1 then n else bM B)
      by_cases c : k = 1
      · rw [if_pos (by omega), if_pos c]
      · rw [if_neg (by omega), if_neg c]; exact m4
    · rw [e139, upd_at]
      show _ = nI (if k = 2 then n else bW B)
      by_cases c : k = 2
      · rw [if_pos (by omega), if_pos c]
      · rw [if_neg (by omega), if_neg c]; exact m5
  · rw [hs2]
    refine fr.tr (fr.tr ?_ (g5.mono (fun j hj => Or.inl hj))) (fr.setR (by unfold inOP; omega))
    rw [hs0]
    exact fr.setR (by unfold inOP inB; omega)
