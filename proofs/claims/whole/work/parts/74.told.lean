/-! A DEAL TOLD -/
theorem deal_c {B : Bk} {σ : Sg} (hB : okB B) (hr : repB 1 σ B) (hM : repMB σ B) (x : Int32) : (f_X6_isDeal x σ = some 0 ∧ f_X7_isDeal x σ = some 0) ∨ (f_X6_isDeal x σ = some 1 ∧ f_X7_isDeal x σ = some 1 ∧ ∃ d, d < bN B ∧ x = nI d) := by
  have h1 := hB.1
  unfold f_X6_isDeal f_X7_isDeal f_X7_in
  rw [hr.1.1, hM.1.1]
  by_cases c1 : x < 0
  · left; rw [if_pos c1, if_pos c1]; exact ⟨rfl, rfl⟩
  · have h0 : 0 ≤ x.toInt := by
      rw [Int32.lt_iff_toInt_lt] at c1
      have : (0 : Int32).toInt = 0 := rfl
      omega
    rw [if_neg c1, if_neg c1]
    by_cases c2 : nI (bN B) ≤ x
    · left
      rw [if_pos c2]
      refine ⟨rfl, ?_⟩
      rw [if_pos]
      rw [Int32.le_iff_toInt_le, c_ti (by omega)] at c2
      by_cases z : bN B = 0
      · rw [z, show nI 0 - 1 = -1 from rfl, Int32.lt_iff_toInt_lt, show (-1 : Int32).toInt = -1 from rfl]
        omega
      · rw [li1, c_sub (by omega), Int32.lt_iff_toInt_lt, c_ti (by omega)]
        omega
    · right
      rw [if_neg c2]
      rw [Int32.le_iff_toInt_le, c_ti (by omega)] at c2
      refine ⟨rfl, ?_, x.toInt.toNat, by omega, asN h0⟩
      rw [if_neg]
      rw [li1, c_sub (by omega), Int32.lt_iff_toInt_lt, c_ti (by omega)]
      omega
theorem q_told {B : Bk} {σ : Sg} (hB : okB B) (hr : repB 1 σ B) (hM : repMB σ B) (x1 x2 : Int32) : ∃ r, f_X6_told x1 x2 σ = some r ∧ f_X7_told x1 x2 σ = some r := by
  rcases deal_c hB hr hM x1 with ⟨u1, v1⟩ | ⟨u1, v1, d, hd, rfl⟩
  · refine ⟨-1, ?_, ?_⟩
    · unfold f_X6_told; rw [u1, Option.bind_some, if_pos rfl]
    · unfold f_X7_told; rw [v1, Option.bind_some, if_pos rfl]
  obtain ⟨b1, b2, b3, b4, b5, b6, b7, b8⟩ := id hB
  obtain ⟨c1, c2, c3, c4, c5, c6⟩ := hr.1.2.1 d hd
  obtain ⟨m1, m2, m3, m4, m5, m6⟩ := hM.1.2 d hd
  have od := b2 d hd
  unfold f_X6_told f_X7_told
  rw [u1, v1, Option.bind_some, Option.bind_some, if_neg n10, if_neg n10]
  rcases in_c x2 7 (by omega) rfl rfl with ⟨_, _, n3⟩ | ⟨_, _, k, hk, rfl⟩
  · refine ⟨-2, ?_, ?_⟩
    · rw [if_neg (show ¬ x2 = 0 from n3 0 (by omega)), if_neg (show ¬ x2 = 1 from n3 1 (by omega)), if_neg (show ¬ x2 = 2 from n3 2 (by omega)), if_neg (show ¬ x2 = 3 from n3 3 (by omega)), if_neg (show ¬ x2 = 4 from n3 4 (by omega)), if_neg (show ¬ x2 = 5 from n3 5 (by omega)), if_neg (show ¬ x2 = 6 from n3 6 (by omega)), if_neg (show ¬ x2 = 7 from n3 7 (by omega))]
    · rw [if_neg (show ¬ x2 = 0 from n3 0 (by omega)), if_neg (show ¬ x2 = 1 from n3 1 (by omega)), if_neg (show ¬ x2 = 2 from n3 2 (by omega)), if_neg (show ¬ x2 = 3 from n3 3 (by omega)), if_neg (show ¬ x2 = 4 from n3 4 (by omega)), if_neg (show ¬ x2 = 5 from n3 5 (by omega)), if_neg (show ¬ x2 = 6 from n3 6 (by omega)), if_neg (show ¬ x2 = 7 from n3 7 (by omega))]
  · have hd41 : d < 41 := by omega
    have c1' : σ.1 2 d = nI (dDay (bD B d)) := c1
    have c2' : σ.1 3 d = nI (dKind (bD B d)) := c2
    have c3' : σ.1 4 d = nI (dFirm (bD B d)) := c3
    have c4' : σ.1 5 d = if dKind (bD B d) < 2 then nI (dFrom (bD B d)) else -6 := c4
    have c5' : σ.1 6 d = nI (dTo (bD B d)) := c5
    have c6' : σ.1 7 d = nI (dAmt (bD B d)) := c6
    have hday := od.1
    have hkind := od.2.1
    rcases (show k = 0 ∨ k = 1 ∨ k = 2 ∨ k = 3 ∨ k = 4 ∨ k = 5 ∨ k = 6 ∨ k = 7 by omega) with rfl | rfl | rfl | rfl | rfl | rfl | rfl | rfl
    · exact ⟨nI (dDay (bD B d)), by simp (disch := omega) only [li0, li1, li2, li3, li4, li5, li6, li7, li8, li9, li10, li15, li31, li32, li40, li41, li49, li50, li99, li100, li999, c_le, c_lt, c_eq, c_tn, c_inb, c_add, hd41, c1', if_true, if_false, ite_true, ite_false, ↓reduceIte, Nat.le_refl, Nat.lt_irrefl, Nat.reduceAdd, Nat.reduceLeDiff, Nat.reduceLT, Nat.reduceEqDiff, Bool.false_eq_true], by simp (disch := omega) only [li0, li1, li2, li3, li4, li5, li6, li7, li8, li9, li10, li15, li31, li32, li40, li41, li49, li50, li99, li100, li999, c_le, c_lt, c_eq, c_tn, c_inb, c_add, hd41, m1, if_true, if_false, ite_true, ite_false, ↓reduceIte, Nat.le_refl, Nat.lt_irrefl, Nat.reduceAdd, Nat.reduceLeDiff, Nat.reduceLT, Nat.reduceEqDiff, Bool.false_eq_true]⟩
    · exact ⟨nI (dFirm (bD B d)), by simp (disch := omega) only [li0, li1, li2, li3, li4, li5, li6, li7, li8, li9, li10, li15, li31, li32, li40, li41, li49, li50, li99, li100, li999, c_le, c_lt, c_eq, c_tn, c_inb, c_add, hd41, c3', Nat.one_ne_zero, if_true, if_false, ite_true, ite_false, ↓reduceIte, Nat.le_refl, Nat.lt_irrefl, Nat.reduceAdd, Nat.reduceLeDiff, Nat.reduceLT, Nat.reduceEqDiff, Bool.false_eq_true], by simp (disch := omega) only [li0, li1, li2, li3, li4, li5, li6, li7, li8, li9, li10, li15, li31, li32, li40, li41, li49, li50, li99, li100, li999, c_le, c_lt, c_eq, c_tn, c_inb, c_add, hd41, m2, Nat.one_ne_zero, if_true, if_false, ite_true, ite_false, ↓reduceIte, Nat.le_refl, Nat.lt_irrefl, Nat.reduceAdd, Nat.reduceLeDiff, Nat.reduceLT, Nat.reduceEqDiff, Bool.false_eq_true]⟩
    · exact ⟨nI (dKind (bD B d)), by simp (disch := omega) only [li0, li1, li2, li3, li4, li5, li6, li7, li8, li9, li10, li15, li31, li32, li40, li41, li49, li50, li99, li100, li999, c_le, c_lt, c_eq, c_tn, c_inb, c_add, hd41, c2', if_true, if_false, ite_true, ite_false, ↓reduceIte, Nat.le_refl, Nat.lt_irrefl, Nat.reduceAdd, Nat.reduceLeDiff, Nat.reduceLT, Nat.reduceEqDiff, Bool.false_eq_true], by simp (disch := omega) only [li0, li1, li2, li3, li4, li5, li6, li7, li8, li9, li10, li15, li31, li32, li40, li41, li49, li50, li99, li100, li999, c_le, c_lt, c_eq, c_tn, c_inb, c_add, hd41, m3, if_true, if_false, ite_true, ite_false, ↓reduceIte, Nat.le_refl, Nat.lt_irrefl, Nat.reduceAdd, Nat.reduceLeDiff, Nat.reduceLT, Nat.reduceEqDiff, Bool.false_eq_true]⟩
    · by_cases q : dKind (bD B d) < 2
      · rw [if_pos q] at c4'
        exact ⟨nI (dFrom (bD B d)), by simp (disch := omega) only [li0, li1, li2, li3, li4, li5, li6, li7, li8, li9, li10, li15, li31, li32, li40, li41, li49, li50, li99, li100, li999, c_le, c_lt, c_eq, c_tn, c_inb, c_add, hd41, c4', if_true, if_false, ite_true, ite_false, ↓reduceIte, Nat.le_refl, Nat.lt_irrefl, Nat.reduceAdd, Nat.reduceLeDiff, Nat.reduceLT, Nat.reduceEqDiff, Bool.false_eq_true], by simp (disch := omega) only [li0, li1, li2, li3, li4, li5, li6, li7, li8, li9, li10, li15, li31, li32, li40, li41, li49, li50, li99, li100, li999, c_le, c_lt, c_eq, c_tn, c_inb, c_add, hd41, m3, m4, show dKind (bD B d) ≤ 1 by omega, if_true, if_false, ite_true, ite_false, ↓reduceIte, Nat.le_refl, Nat.lt_irrefl, Nat.reduceAdd, Nat.reduceLeDiff, Nat.reduceLT, Nat.reduceEqDiff, Bool.false_eq_true]⟩
      · rw [if_neg q] at c4'
        exact ⟨-6, by simp (disch := omega) only [li0, li1, li2, li3, li4, li5, li6, li7, li8, li9, li10, li15, li31, li32, li40, li41, li49, li50, li99, li100, li999, c_le, c_lt, c_eq, c_tn, c_inb, c_add, hd41, c4', if_true, if_false, ite_true, ite_false, ↓reduceIte, Nat.le_refl, Nat.lt_irrefl, Nat.reduceAdd, Nat.reduceLeDiff, Nat.reduceLT, Nat.reduceEqDiff, Bool.false_eq_true], by simp (disch := omega) only [li0, li1, li2, li3, li4, li5, li6, li7, li8, li9, li10, li15, li31, li32, li40, li41, li49, li50, li99, li100, li999, c_le, c_lt, c_eq, c_tn, c_inb, c_add, hd41, m3, m4, show ¬ dKind (bD B d) ≤ 1 by omega, if_true, if_false, ite_true, ite_false, ↓reduceIte, Nat.le_refl, Nat.lt_irrefl, Nat.reduceAdd, Nat.reduceLeDiff, Nat.reduceLT, Nat.reduceEqDiff, Bool.false_eq_true]⟩
    · exact ⟨nI (dTo (bD B d)), by simp (disch := omega) only [li0, li1, li2, li3, li4, li5, li6, li7, li8, li9, li10, li15, li31, li32, li40, li41, li49, li50, li99, li100, li999, c_le, c_lt, c_eq, c_tn, c_inb, c_add, hd41, c5', if_true, if_false, ite_true, ite_false, ↓reduceIte, Nat.le_refl, Nat.lt_irrefl, Nat.reduceAdd, Nat.reduceLeDiff, Nat.reduceLT, Nat.reduceEqDiff, Bool.false_eq_true], by simp (disch := omega) only [li0, li1, li2, li3, li4, li5, li6, li7, li8, li9, li10, li15, li31, li32, li40, li41, li49, li50, li99, li100, li999, c_le, c_lt, c_eq, c_tn, c_inb, c_add, hd41, m5, if_true, if_false, ite_true, ite_false, ↓reduceIte, Nat.le_refl, Nat.lt_irrefl, Nat.reduceAdd, Nat.reduceLeDiff, Nat.reduceLT, Nat.reduceEqDiff, Bool.false_eq_true]⟩
    · exact ⟨nI (dAmt (bD B d)), by simp (disch := omega) only [li0, li1, li2, li3, li4, li5, li6, li7, li8, li9, li10, li15, li31, li32, li40, li41, li49, li50, li99, li100, li999, c_le, c_lt, c_eq, c_tn, c_inb, c_add, hd41, c6', if_true, if_false, ite_true, ite_false, ↓reduceIte, Nat.le_refl, Nat.lt_irrefl, Nat.reduceAdd, Nat.reduceLeDiff, Nat.reduceLT, Nat.reduceEqDiff, Bool.false_eq_true], by simp (disch := omega) only [li0, li1, li2, li3, li4, li5, li6, li7, li8, li9, li10, li15, li31, li32, li40, li41, li49, li50, li99, li100, li999, c_le, c_lt, c_eq, c_tn, c_inb, c_add, hd41, m6, if_true, if_false, ite_true, ite_false, ↓reduceIte, Nat.le_refl, Nat.lt_irrefl, Nat.reduceAdd, Nat.reduceLeDiff, Nat.reduceLT, Nat.reduceEqDiff, Bool.false_eq_true]⟩
    · have pc := placeC_ok (by omega) hr.1 b3 hd
      have pm := place_ok (n := bN B) (d := d) (dy := days (bD B)) (σ := σ) (by omega) hM.1.1 (fun e he => ⟨(hM.1.2 e he).1, by have := (b2 e he).1; show dDay (bD B e) < 2000; omega⟩) hd
      exact ⟨nI (rk (days (bD B)) (bN B) d), by simp (disch := omega) only [li0, li1, li2, li3, li4, li5, li6, li7, li8, li9, li10, li15, li31, li32, li40, li41, li49, li50, li99, li100, li999, c_le, c_lt, c_eq, c_tn, c_inb, c_add, pc, Option.bind_some, if_true, if_false, ite_true, ite_false, ↓reduceIte, Nat.le_refl, Nat.lt_irrefl, Nat.reduceAdd, Nat.reduceLeDiff, Nat.reduceLT, Nat.reduceEqDiff, Bool.false_eq_true], by simp (disch := omega) only [li0, li1, li2, li3, li4, li5, li6, li7, li8, li9, li10, li15, li31, li32, li40, li41, li49, li50, li99, li100, li999, c_le, c_lt, c_eq, c_tn, c_inb, c_add, pm, Option.bind_some, if_true, if_false, ite_true, ite_false, ↓reduceIte, Nat.le_refl, Nat.lt_irrefl, Nat.reduceAdd, Nat.reduceLeDiff, Nat.reduceLT, Nat.reduceEqDiff, Bool.false_eq_true]⟩
    · have hl : σ.1 1 8 = nI (bL B) := hr.2.1
      have hl2 := hM.2.1
      have a0 : f_X6_asNumber (nI 0) = nI 0 := rfl
      have a1 : f_X6_asNumber (nI 1) = nI 1 := rfl
      by_cases q : bL B < dDay (bD B d)
      · exact ⟨nI 0, by simp (disch := omega) only [li0, li1, li2, li3, li4, li5, li6, li7, li8, li9, li10, li15, li31, li32, li40, li41, li49, li50, li99, li100, li999, c_le, c_lt, c_eq, c_tn, c_inb, c_add, hd41, c1', hl, q, jn, a0, if_true, if_false, ite_true, ite_false, ↓reduceIte, Nat.le_refl, Nat.lt_irrefl, Nat.reduceAdd, Nat.reduceLeDiff, Nat.reduceLT, Nat.reduceEqDiff, Bool.false_eq_true], by simp (disch := omega) only [li0, li1, li2, li3, li4, li5, li6, li7, li8, li9, li10, li15, li31, li32, li40, li41, li49, li50, li99, li100, li999, c_le, c_lt, c_eq, c_tn, c_inb, c_add, hd41, m1, hl2, q, if_true, if_false, ite_true, ite_false, ↓reduceIte, Nat.le_refl, Nat.lt_irrefl, Nat.reduceAdd, Nat.reduceLeDiff, Nat.reduceLT, Nat.reduceEqDiff, Bool.false_eq_true]⟩
      · exact ⟨nI 1, by simp (disch := omega) only [li0, li1, li2, li3, li4, li5, li6, li7, li8, li9, li10, li15, li31, li32, li40, li41, li49, li50, li99, li100, li999, c_le, c_lt, c_eq, c_tn, c_inb, c_add, hd41, c1', hl, q, jn, a1, if_true, if_false, ite_true, ite_false, ↓reduceIte, Nat.le_refl, Nat.lt_irrefl, Nat.reduceAdd, Nat.reduceLeDiff, Nat.reduceLT, Nat.reduceEqDiff, Bool.false_eq_true], by simp (disch := omega) only [li0, li1, li2, li3, li4, li5, li6, li7, li8, li9, li10, li15, li31, li32, li40, li41, li49, li50, li99, li100, li999, c_le, c_lt, c_eq, c_tn, c_inb, c_add, hd41, m1, hl2, q, if_true, if_false, ite_true, ite_false, ↓reduceIte, Nat.le_refl, Nat.lt_irrefl, Nat.reduceAdd, Nat.reduceLeDiff, Nat.reduceLT, Nat.reduceEqDiff, Bool.false_eq_true]⟩
