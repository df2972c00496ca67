/-! THE POOL out of the worlds that the constructors leave -/
def adF (u v : Nat → Nat → Nat) (i : Nat) : Nat := if i < 1 then u 0 0 else if i < 9 then u 1 (i - 1) else if i < 17 then u 2 (i - 9) else if i < 25 then u 3 (i - 17) else if i < 39 then hdA (u 4) (i - 25) else if i < 53 then hdA (u 9) (i - 39) else if i < 66 then ctA (u 5) (i - 53) else if i < 79 then ctA (u 10) (i - 66) else if i < 86 then skA (u 6) (i - 79) else if i < 88 then u 7 (i - 86) else if i < 132 then tlA (u 8) (i - 88) else v 0 (i - 132)
def posF (i : Nat) : Nat := if i < 39 then i else if i < 53 then i + 66 else if i < 66 then i - 14 else if i < 79 then i + 53 else if i < 132 then i - 27 else i
theorem posF_inj {i j : Nat} (hi : i < 151) (hj : j < 151) (h : posF i = posF j) : i = j := by
  unfold posF at h
  split at h <;> split at h <;> (try split at h) <;> (try split at h) <;> (try split at h) <;> (try split at h) <;> (try split at h) <;> (try split at h) <;> (try split at h) <;> (try split at h) <;> omega
def seg (ws : va_W) (off : Nat) (L : va_W) : Prop := ∀ (k : Nat) (q : Nat × va_E), L[k]? = some q → ws[off + k]? = some q
theorem seg.rf {L : va_W} : seg L 0 L := fun k q h => by rw [Nat.zero_add]; exact h
theorem seg.l {w1 w2 L : va_W} {off : Nat} (h : seg w1 off L) : seg (w1 ++ w2) off L := fun k q hq => app_l (h k q hq)
theorem seg.r {w1 L : va_W} {n : Nat} (hn : w1.length = n) : seg (w1 ++ L) n L := fun k q hq => by rw [← hn]; exact app_r hq
theorem seg.c {w1 L : va_W} {x : Nat × va_E} {off : Nat} (h : seg w1 off L) : seg (x :: w1) (off + 1) L := fun k q hq => by
  rw [show off + 1 + k = off + k + 1 by omega, List.getElem?_cons_succ]
  exact h k q hq
section
variable {ca : Nat → ClassId} {u v : Nat → Nat → Nat}
theorem ln_X0 (h : Nat → Nat → Nat) : (outX0 ca h).length = 8 := rfl
theorem ln_X2 (h : Nat → Nat → Nat) : (outX2 ca h).length = 14 := by simp [outX2, rwI]
theorem ln_X1 (h : Nat → Nat → Nat) : (outX1 ca h).length = 13 := by simp [outX1, rwI]
theorem ln_X4 (h : Nat → Nat → Nat) : (outX4 ca h).length = 7 := by simp [outX4, rwL]
theorem ln_X3 (h : Nat → Nat → Nat) : (outX3 ca h).length = 2 := rfl
theorem ln_X5 (h : Nat → Nat → Nat) : (outX5 ca h).length = 44 := by simp [outX5, rwI]
theorem sg_0 : seg (outX6 ca u ++ outX7 ca v) 1 (outX0 ca (fun _ => u 1)) := seg.l (seg.c (seg.l (seg.l (seg.l (seg.l (seg.l (seg.l (seg.l (seg.l (seg.l seg.rf))))))))))
theorem lp_1 : (outX0 ca (fun _ => u 1)).length = 8 := by simp [ln_X0, ln_X1, ln_X2, ln_X3, ln_X4, ln_X5]
theorem sg_1 : seg (outX6 ca u ++ outX7 ca v) 9 (outX0 ca (fun _ => u 2)) := seg.l (seg.c (seg.l (seg.l (seg.l (seg.l (seg.l (seg.l (seg.l (seg.l (seg.r lp_1))))))))))
theorem lp_2 : ((outX0 ca (fun _ => u 1) ++ outX0 ca (fun _ => u 2))).length = 16 := by simp [ln_X0, ln_X1, ln_X2, ln_X3, ln_X4, ln_X5]
theorem sg_2 : seg (outX6 ca u ++ outX7 ca v) 17 (outX0 ca (fun _ => u 3)) := seg.l (seg.c (seg.l (seg.l (seg.l (seg.l (seg.l (seg.l (seg.l (seg.r lp_2)))))))))
theorem lp_3 : (((outX0 ca (fun _ => u 1) ++ outX0 ca (fun _ => u 2)) ++ outX0 ca (fun _ => u 3))).length = 24 := by simp [ln_X0, ln_X1, ln_X2, ln_X3, ln_X4, ln_X5]
theorem sg_3 : seg (outX6 ca u ++ outX7 ca v) 25 (outX2 ca (fun _ => u 4)) := seg.l (seg.c (seg.l (seg.l (seg.l (seg.l (seg.l (seg.l (seg.r lp_3))))))))
theorem lp_4 : ((((outX0 ca (fun _ => u 1) ++ outX0 ca (fun _ => u 2)) ++ outX0 ca (fun _ => u 3)) ++ outX2 ca (fun _ => u 4))).length = 38 := by simp [ln_X0, ln_X1, ln_X2, ln_X3, ln_X4, ln_X5]
theorem sg_4 : seg (outX6 ca u ++ outX7 ca v) 39 (outX1 ca (fun _ => u 5)) := seg.l (seg.c (seg.l (seg.l (seg.l (seg.l (seg.l (seg.r lp_4)))))))
theorem lp_5 : (((((outX0 ca (fun _ => u 1) ++ outX0 ca (fun _ => u 2)) ++ outX0 ca (fun _ => u 3)) ++ outX2 ca (fun _ => u 4)) ++ outX1 ca (fun _ => u 5))).length = 51 := by simp [ln_X0, ln_X1, ln_X2, ln_X3, ln_X4, ln_X5]
theorem sg_5 : seg (outX6 ca u ++ outX7 ca v) 52 (outX4 ca (fun _ => u 6)) := seg.l (seg.c (seg.l (seg.l (seg.l (seg.l (seg.r lp_5))))))
theorem lp_6 : ((((((outX0 ca (fun _ => u 1) ++ outX0 ca (fun _ => u 2)) ++ outX0 ca (fun _ => u 3)) ++ outX2 ca (fun _ => u 4)) ++ outX1 ca (fun _ => u 5)) ++ outX4 ca (fun _ => u 6))).length = 58 := by simp [ln_X0, ln_X1, ln_X2, ln_X3, ln_X4, ln_X5]
theorem sg_6 : seg (outX6 ca u ++ outX7 ca v) 59 (outX3 ca (fun _ => u 7)) := seg.l (seg.c (seg.l (seg.l (seg.l (seg.r lp_6)))))
theorem lp_7 : (((((((outX0 ca (fun _ => u 1) ++ outX0 ca (fun _ => u 2)) ++ outX0 ca (fun _ => u 3)) ++ outX2 ca (fun _ => u 4)) ++ outX1 ca (fun _ => u 5)) ++ outX4 ca (fun _ => u 6)) ++ outX3 ca (fun _ => u 7))).length = 60 := by simp [ln_X0, ln_X1, ln_X2, ln_X3, ln_X4, ln_X5]
theorem sg_7 : seg (outX6 ca u ++ outX7 ca v) 61 (outX5 ca (fun _ => u 8)) := seg.l (seg.c (seg.l (seg.l (seg.r lp_7))))
theorem lp_8 : ((((((((outX0 ca (fun _ => u 1) ++ outX0 ca (fun _ => u 2)) ++ outX0 ca (fun _ => u 3)) ++ outX2 ca (fun _ => u 4)) ++ outX1 ca (fun _ => u 5)) ++ outX4 ca (fun _ => u 6)) ++ outX3 ca (fun _ => u 7)) ++ outX5 ca (fun _ => u 8))).length = 104 := by simp [ln_X0, ln_X1, ln_X2, ln_X3, ln_X4, ln_X5]
theorem sg_8 : seg (outX6 ca u ++ outX7 ca v) 105 (outX2 ca (fun _ => u 9)) := seg.l (seg.c (seg.l (seg.r lp_8)))
theorem lp_9 : (((((((((outX0 ca (fun _ => u 1) ++ outX0 ca (fun _ => u 2)) ++ outX0 ca (fun _ => u 3)) ++ outX2 ca (fun _ => u 4)) ++ outX1 ca (fun _ => u 5)) ++ outX4 ca (fun _ => u 6)) ++ outX3 ca (fun _ => u 7)) ++ outX5 ca (fun _ => u 8)) ++ outX2 ca (fun _ => u 9))).length = 118 := by simp [ln_X0, ln_X1, ln_X2, ln_X3, ln_X4, ln_X5]
theorem sg_9 : seg (outX6 ca u ++ outX7 ca v) 119 (outX1 ca (fun _ => u 10)) := seg.l (seg.c (seg.r lp_9))
theorem ln_X6 : (outX6 ca u).length = 132 := by simp [outX6, ln_X0, ln_X1, ln_X2, ln_X3, ln_X4, ln_X5]
theorem sg_m : seg (outX6 ca u ++ outX7 ca v) 132 (outX7 ca v) := seg.r ln_X6
theorem pool_in : ∀ i, i < 151 → ∃ e, (outX6 ca u ++ outX7 ca v)[posF i]? = some (adF u v i, e) ∧ sameE e (entF ca (adF u v) i (σ0.1 i) (σ0.2 i)) := by
  have use : ∀ (L : va_W) (b len off : Nat), blOK L ca (adF u v) σ0 b len → seg (outX6 ca u ++ outX7 ca v) off L → (∀ i, i < len → posF (b + i) = off + i) → ∀ i, b ≤ i → i < b + len → ∃ e, (outX6 ca u ++ outX7 ca v)[posF i]? = some (adF u v i, e) ∧ sameE e (entF ca (adF u v) i (σ0.1 i) (σ0.2 i)) := by
    intro L b len off h1 h2 h3 i hb hi
    obtain ⟨e, e1, e2⟩ := h1 (i - b) (by omega)
    have hp := h3 (i - b) (by omega)
    rw [show b + (i - b) = i by omega] at e1 e2 hp
    exact ⟨e, by rw [hp]; exact h2 _ _ e1, e2⟩
  have k0 : ∀ i, i < 8 → kd (1 + i) = kdBook.getD i (0, 0) := by decide +kernel
  have a0 : ∀ i, i < 8 → adF u v (1 + i) = u 1 i := fun i hi => by
    unfold adF
    rw [if_neg (show ¬ 1 + i < 1 by omega), if_pos (show 1 + i < 9 by omega), show 1 + i - 1 = i by omega]
  have b0 := use _ 1 8 1 (bl_X0 (h := u 1) k0 a0 (fun i h1 h2 => s0_z (by omega) (by omega)) rfl) sg_0 (fun i hi => by unfold posF; (split <;> (try split) <;> (try split) <;> (try split) <;> (try split) <;> omega))
  have k1 : ∀ i, i < 8 → kd (9 + i) = kdBook.getD i (0, 0) := by decide +kernel
  have a1 : ∀ i, i < 8 → adF u v (9 + i) = u 2 i := fun i hi => by
    unfold adF
    rw [if_neg (show ¬ 9 + i < 1 by omega), if_neg (show ¬ 9 + i < 9 by omega), if_pos (show 9 + i < 17 by omega), show 9 + i - 9 = i by omega]
  have b1 := use _ 9 8 9 (bl_X0 (h := u 2) k1 a1 (fun i h1 h2 => s0_z (by omega) (by omega)) rfl) sg_1 (fun i hi => by unfold posF; (split <;> (try split) <;> (try split) <;> (try split) <;> (try split) <;> omega))
  have k2 : ∀ i, i < 8 → kd (17 + i) = kdBook.getD i (0, 0) := by decide +kernel
  have a2 : ∀ i, i < 8 → adF u v (17 + i) = u 3 i := fun i hi => by
    unfold adF
    rw [if_neg (show ¬ 17 + i < 1 by omega), if_neg (show ¬ 17 + i < 9 by omega), if_neg (show ¬ 17 + i < 17 by omega), if_pos (show 17 + i < 25 by omega), show 17 + i - 17 = i by omega]
  have b2 := use _ 17 8 17 (bl_X0 (h := u 3) k2 a2 (fun i h1 h2 => s0_z (by omega) (by omega)) rfl) sg_2 (fun i hi => by unfold posF; (split <;> (try split) <;> (try split) <;> (try split) <;> (try split) <;> omega))
  have k3 : ∀ i, i < 14 → kd (25 + i) = kdHold.getD i (0, 0) := by decide +kernel
  have a3 : ∀ i, i < 14 → adF u v (25 + i) = hdA (u 4) i := fun i hi => by
    unfold adF
    rw [if_neg (show ¬ 25 + i < 1 by omega), if_neg (show ¬ 25 + i < 9 by omega), if_neg (show ¬ 25 + i < 17 by omega), if_neg (show ¬ 25 + i < 25 by omega), if_pos (show 25 + i < 39 by omega), show 25 + i - 25 = i by omega]
  have b3 := use _ 25 14 25 (bl_X2 (h := u 4) k3 a3 (fun i h1 h2 => s0_z (by omega) (by omega))) sg_3 (fun i hi => by unfold posF; (split <;> (try split) <;> (try split) <;> (try split) <;> (try split) <;> omega))
  have k4 : ∀ i, i < 14 → kd (39 + i) = kdHold.getD i (0, 0) := by decide +kernel
  have a4 : ∀ i, i < 14 → adF u v (39 + i) = hdA (u 9) i := fun i hi => by
    unfold adF
    rw [if_neg (show ¬ 39 + i < 1 by omega), if_neg (show ¬ 39 + i < 9 by omega), if_neg (show ¬ 39 + i < 17 by omega), if_neg (show ¬ 39 + i < 25 by omega), if_neg (show ¬ 39 + i < 39 by omega), if_pos (show 39 + i < 53 by omega), show 39 + i - 39 = i by omega]
  have b4 := use _ 39 14 105 (bl_X2 (h := u 9) k4 a4 (fun i h1 h2 => s0_z (by omega) (by omega))) sg_8 (fun i hi => by unfold posF; (split <;> (try split) <;> (try split) <;> (try split) <;> (try split) <;> omega))
  have k5 : ∀ i, i < 13 → kd (53 + i) = kdCtrl.getD i (0, 0) := by decide +kernel
  have a5 : ∀ i, i < 13 → adF u v (53 + i) = ctA (u 5) i := fun i hi => by
    unfold adF
    rw [if_neg (show ¬ 53 + i < 1 by omega), if_neg (show ¬ 53 + i < 9 by omega), if_neg (show ¬ 53 + i < 17 by omega), if_neg (show ¬ 53 + i < 25 by omega), if_neg (show ¬ 53 + i < 39 by omega), if_neg (show ¬ 53 + i < 53 by omega), if_pos (show 53 + i < 66 by omega), show 53 + i - 53 = i by omega]
  have b5 := use _ 53 13 39 (bl_X1 (h := u 5) k5 a5 (fun i h1 h2 => s0_z (by omega) (by omega))) sg_4 (fun i hi => by unfold posF; (split <;> (try split) <;> (try split) <;> (try split) <;> (try split) <;> omega))
  have k6 : ∀ i, i < 13 → kd (66 + i) = kdCtrl.getD i (0, 0) := by decide +kernel
  have a6 : ∀ i, i < 13 → adF u v (66 + i) = ctA (u 10) i := fun i hi => by
    unfold adF
    rw [if_neg (show ¬ 66 + i < 1 by omega), if_neg (show ¬ 66 + i < 9 by omega), if_neg (show ¬ 66 + i < 17 by omega), if_neg (show ¬ 66 + i < 25 by omega), if_neg (show ¬ 66 + i < 39 by omega), if_neg (show ¬ 66 + i < 53 by omega), if_neg (show ¬ 66 + i < 66 by omega), if_pos (show 66 + i < 79 by omega), show 66 + i - 66 = i by omega]
  have b6 := use _ 66 13 119 (bl_X1 (h := u 10) k6 a6 (fun i h1 h2 => s0_z (by omega) (by omega))) sg_9 (fun i hi => by unfold posF; (split <;> (try split) <;> (try split) <;> (try split) <;> (try split) <;> omega))
  have k7 : ∀ i, i < 7 → kd (79 + i) = kdStak.getD i (0, 0) := by decide +kernel
  have a7 : ∀ i, i < 7 → adF u v (79 + i) = skA (u 6) i := fun i hi => by
    unfold adF
    rw [if_neg (show ¬ 79 + i < 1 by omega), if_neg (show ¬ 79 + i < 9 by omega), if_neg (show ¬ 79 + i < 17 by omega), if_neg (show ¬ 79 + i < 25 by omega), if_neg (show ¬ 79 + i < 39 by omega), if_neg (show ¬ 79 + i < 53 by omega), if_neg (show ¬ 79 + i < 66 by omega), if_neg (show ¬ 79 + i < 79 by omega), if_pos (show 79 + i < 86 by omega), show 79 + i - 79 = i by omega]
  have b7 := use _ 79 7 52 (bl_X4 (h := u 6) k7 a7 (fun i h1 h2 => s0_z (by omega) (by omega)) (fun i _ _ => rfl)) sg_5 (fun i hi => by unfold posF; (split <;> (try split) <;> (try split) <;> (try split) <;> (try split) <;> omega))
  have k8 : ∀ i, i < 2 → kd (86 + i) = kdReac.getD i (0, 0) := by decide +kernel
  have a8 : ∀ i, i < 2 → adF u v (86 + i) = u 7 i := fun i hi => by
    unfold adF
    rw [if_neg (show ¬ 86 + i < 1 by omega), if_neg (show ¬ 86 + i < 9 by omega), if_neg (show ¬ 86 + i < 17 by omega), if_neg (show ¬ 86 + i < 25 by omega), if_neg (show ¬ 86 + i < 39 by omega), if_neg (show ¬ 86 + i < 53 by omega), if_neg (show ¬ 86 + i < 66 by omega), if_neg (show ¬ 86 + i < 79 by omega), if_neg (show ¬ 86 + i < 86 by omega), if_pos (show 86 + i < 88 by omega), show 86 + i - 86 = i by omega]
  have b8 := use _ 86 2 59 (bl_X3 (h := u 7) k8 a8 (fun i h1 h2 => s0_z (by omega) (by omega))) sg_6 (fun i hi => by unfold posF; (split <;> (try split) <;> (try split) <;> (try split) <;> (try split) <;> omega))
  have k9 : ∀ i, i < 44 → kd (88 + i) = kdTime.getD i (0, 0) := by decide +kernel
  have a9 : ∀ i, i < 44 → adF u v (88 + i) = tlA (u 8) i := fun i hi => by
    unfold adF
    rw [if_neg (show ¬ 88 + i < 1 by omega), if_neg (show ¬ 88 + i < 9 by omega), if_neg (show ¬ 88 + i < 17 by omega), if_neg (show ¬ 88 + i < 25 by omega), if_neg (show ¬ 88 + i < 39 by omega), if_neg (show ¬ 88 + i < 53 by omega), if_neg (show ¬ 88 + i < 66 by omega), if_neg (show ¬ 88 + i < 79 by omega), if_neg (show ¬ 88 + i < 86 by omega), if_neg (show ¬ 88 + i < 88 by omega), if_pos (show 88 + i < 132 by omega), show 88 + i - 88 = i by omega]
  have b9 := use _ 88 44 61 (bl_X5 (h := u 8) k9 a9 (fun i h1 h2 => s0_z (by omega) (by omega))) sg_7 (fun i hi => by unfold posF; (split <;> (try split) <;> (try split) <;> (try split) <;> (try split) <;> omega))
  have am : ∀ i, i < 19 → adF u v (132 + i) = v 0 i := fun i hi => by
    unfold adF
    rw [if_neg (show ¬ 132 + i < 1 by omega), if_neg (show ¬ 132 + i < 9 by omega), if_neg (show ¬ 132 + i < 17 by omega), if_neg (show ¬ 132 + i < 25 by omega), if_neg (show ¬ 132 + i < 39 by omega), if_neg (show ¬ 132 + i < 53 by omega), if_neg (show ¬ 132 + i < 66 by omega), if_neg (show ¬ 132 + i < 79 by omega), if_neg (show ¬ 132 + i < 86 by omega), if_neg (show ¬ 132 + i < 88 by omega), if_neg (show ¬ 132 + i < 132 by omega), show 132 + i - 132 = i by omega]
  have bm := use _ 132 19 132 (bl_X7 (h := v 0) rfl am) sg_m (fun i hi => by unfold posF; (split <;> (try split) <;> (try split) <;> (try split) <;> (try split) <;> omega))
  intro i hi
  by_cases c0 : i = 0
  · subst c0
    refine ⟨_, rfl, Or.inl ?_⟩
    rw [e_ControlRegister kd_0]
    rfl
  by_cases c1 : i < 9
  · exact b0 i (by omega) c1
  by_cases c2 : i < 17
  · exact b1 i (by omega) c2
  by_cases c3 : i < 25
  · exact b2 i (by omega) c3
  by_cases c4 : i < 39
  · exact b3 i (by omega) c4
  by_cases c5 : i < 53
  · exact b4 i (by omega) c5
  by_cases c6 : i < 66
  · exact b5 i (by omega) c6
  by_cases c7 : i < 79
  · exact b6 i (by omega) c7
  by_cases c8 : i < 86
  · exact b7 i (by omega) c8
  by_cases c9 : i < 88
  · exact b8 i (by omega) c9
  by_cases c10 : i < 132
  · exact b9 i (by omega) c10
  exact bm i (by omega) (by omega)
theorem pool_of {D : va_G} {A : Nat → Prop} {H : Heap} (hP : va_P D vwCl (outX6 ca u ++ outX7 ca v) H) (hD : va_D A (outX6 ca u ++ outX7 ca v)) : va_P D vwCl (pool ca (adF u v) σ0) H ∧ va_D A (pool ca (adF u v) σ0) := by
  have at_i : ∀ (k : Nat) (q : Nat × va_E), (pool ca (adF u v) σ0)[k]? = some q → k < 151 ∧ q = (adF u v k, entF ca (adF u v) k (σ0.1 k) (σ0.2 k)) := by
    intro k q hq
    have hk : k < NN := by
      have := (List.getElem?_eq_some_iff.mp hq).1
      rwa [pool_len] at this
    rw [pool_at hk] at hq
    exact ⟨hk, (Option.some.inj hq).symm⟩
  refine ⟨fun k q hq => ?_, fun i j p q hi hj he => ?_, fun k q hq => ?_⟩
  · obtain ⟨hk, rfl⟩ := at_i k q hq
    obtain ⟨e, e1, e2⟩ := pool_in (ca := ca) (u := u) (v := v) k hk
    exact va_at.same e2 (hP _ _ e1)
  · obtain ⟨h1, rfl⟩ := at_i i p hi
    obtain ⟨h2, rfl⟩ := at_i j q hj
    obtain ⟨e, e1, e2⟩ := pool_in (ca := ca) (u := u) (v := v) i h1
    obtain ⟨f, f1, f2⟩ := pool_in (ca := ca) (u := u) (v := v) j h2
    exact posF_inj h1 h2 (hD.1 _ _ _ _ e1 f1 he)
  · obtain ⟨hk, rfl⟩ := at_i k q hq
    obtain ⟨e, e1, e2⟩ := pool_in (ca := ca) (u := u) (v := v) k hk
    exact hD.2 _ (adF u v k, e) e1
end
