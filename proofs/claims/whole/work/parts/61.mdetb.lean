/-! the loop of the determinant -/
set_option maxRecDepth 100000 in
set_option maxHeartbeats 4000000 in
theorem mdet_step {σ : Sg} {M : Nat → Int} (h : ∀ j, j < 25 → σ.2 146 j = Int64.ofInt (M j)) {k : Nat} (hk : k < 3125) (m : Nat) : L_X7_determinant_4 σ (m + 1) (Int64.ofInt (DK M k)) (nI k) = L_X7_determinant_4 σ m (Int64.ofInt (DK M (k + 1))) (nI (k + 1)) := by
  rw [L_X7_determinant_4, if_neg (k3125 hk), show nI k + 1 = nI (k + 1) by rw [li1, c_add]]
  by_cases c : pcond (nI k) = 31
  · have hp := pin_ok k hk c
    simp only [pin, Bool.and_eq_true, decide_eq_true_eq] at hp
    obtain ⟨⟨⟨⟨p0, p1⟩, p2⟩, p3⟩, p4⟩ := hp
    have hd : decK k = some (decide (ppar (nI k) = 0), (pix0 (nI k)).toNatClampNeg, (pix1 (nI k)).toNatClampNeg, (pix2 (nI k)).toNatClampNeg, (pix3 (nI k)).toNatClampNeg, (pix4 (nI k)).toNatClampNeg) := by
      unfold decK
      rw [if_pos c]
    have h0 := h _ (inb_lt p0)
    have h1 := h _ (inb_lt p1)
    have h2 := h _ (inb_lt p2)
    have h3 := h _ (inb_lt p3)
    have h4 := h _ (inb_lt p4)
    rw [DK_some hd]
    have c' := c
    unfold pcond at c'
    unfold pix0 at p0
    unfold pix1 at p1
    unfold pix2 at p2
    unfold pix3 at p3
    unfold pix4 at p4
    rw [if_pos c', if_pos p0, if_pos p1, if_pos p2, if_pos p3, if_pos p4]
    by_cases q : ppar (nI k) = 0
    · have e : dstep M (DK M k) (decide (ppar (nI k) = 0), (pix0 (nI k)).toNatClampNeg, (pix1 (nI k)).toNatClampNeg, (pix2 (nI k)).toNatClampNeg, (pix3 (nI k)).toNatClampNeg, (pix4 (nI k)).toNatClampNeg) = DK M k + M (pix0 (nI k)).toNatClampNeg * M (pix1 (nI k)).toNatClampNeg * M (pix2 (nI k)).toNatClampNeg * M (pix3 (nI k)).toNatClampNeg * M (pix4 (nI k)).toNatClampNeg := by
        rw [decide_eq_true q]; rfl
      unfold ppar at q
      rw [if_pos q, e, Int64.ofInt_add, Int64.ofInt_mul, Int64.ofInt_mul, Int64.ofInt_mul, Int64.ofInt_mul, ← h0, ← h1, ← h2, ← h3, ← h4]
      rfl
    · have e : dstep M (DK M k) (decide (ppar (nI k) = 0), (pix0 (nI k)).toNatClampNeg, (pix1 (nI k)).toNatClampNeg, (pix2 (nI k)).toNatClampNeg, (pix3 (nI k)).toNatClampNeg, (pix4 (nI k)).toNatClampNeg) = DK M k + -(M (pix0 (nI k)).toNatClampNeg * M (pix1 (nI k)).toNatClampNeg * M (pix2 (nI k)).toNatClampNeg * M (pix3 (nI k)).toNatClampNeg * M (pix4 (nI k)).toNatClampNeg) := by
        rw [decide_eq_false q]; exact Int.sub_eq_add_neg
      unfold ppar at q
      rw [if_neg q, e, Int64.ofInt_add, Int64.ofInt_neg, Int64.ofInt_mul, Int64.ofInt_mul, Int64.ofInt_mul, Int64.ofInt_mul, ← h0, ← h1, ← h2, ← h3, ← h4]
      rfl
  · rw [DK_none (show decK k = none by unfold decK; rw [if_neg c])]
    unfold pcond at c
    rw [if_neg c]
theorem mdet_ok {σ : Sg} {M : Nat → Int} (h : ∀ j, j < 25 → σ.2 146 j = Int64.ofInt (M j)) : f_X7_determinant σ = some (Int64.ofInt (dM M)) := by
  have := run_FU (fun m k => L_X7_determinant_4 σ m (Int64.ofInt (DK M k)) (nI k)) 3125 (some (Int64.ofInt (DK M 3125), nI 3125)) (by decide) (fun k hk m => mdet_step h hk m) (fun m => by rw [L_X7_determinant_4, if_pos (by decide)])
  unfold f_X7_determinant
  rw [show L_X7_determinant_4 σ FU 0 0 = _ from this, DK_full]
  rfl
