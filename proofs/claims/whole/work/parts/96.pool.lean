/-! THE CELLS OF THE TWO NEW OBJECTS are the pool -/
def sameE (e e' : va_E) : Prop := e = e' ∨ ∃ (c : ClassId) (N : Nat) (f f' : Nat → Option Nat), e = .inl (c, N, .inr (.inr (.inr (.inr f)))) ∧ e' = .inl (c, N, .inr (.inr (.inr (.inr f')))) ∧ ∀ j, j < N → f j = f' j
theorem va_at.same {D : va_G} {cl : List vw_C} {a : Nat} {e e' : va_E} {H : Heap} (h : sameE e e') (ha : va_at D cl (a, e) H) : va_at D cl (a, e') H := by
  rcases h with rfl | ⟨c, N, f, f', rfl, rfl, hj⟩
  · exact ha
  · have e : vp_cell c (N, .inr (.inr (.inr (.inr f)))) = vp_cell c (N, .inr (.inr (.inr (.inr f')))) := by
      show ({ cls := c, slots := Array.ofFn (n := N) fun j => va_rf (f j.val), vm := .none } : Cell) = { cls := c, slots := Array.ofFn (n := N) fun j => va_rf (f' j.val), vm := .none }
      congr 2
      funext j
      rw [hj j.val j.isLt]
    show H[a]? = some (vp_cell c _)
    rw [← e]
    exact ha
def blOK (L : va_W) (ca : Nat → ClassId) (ad : Nat → Nat) (σ : Sg) (b len : Nat) : Prop := ∀ i, i < len → ∃ e, L[i]? = some (ad (b + i), e) ∧ sameE e (entF ca ad (b + i) (σ.1 (b + i)) (σ.2 (b + i)))
def z0 : Nat → Int32 := fun _ => 0
def z0L : Nat → Int64 := fun _ => 0
def zB : Nat → Int32 := fun y => if y = 9 then 50 else if y = 10 then 30 else if y = 11 then 25 else 0
def zR : Nat → Int32 := upd (upd (upd (fun _ => 0) 0 50) 1 30) 2 25
def σ0 : Sg := (fun i => if i = 1 ∨ i = 9 ∨ i = 17 then zB else if i = 139 then zR else z0, fun _ => z0L)
theorem s0_z {i : Nat} (h : ¬ (i = 1 ∨ i = 9 ∨ i = 17)) (h2 : i ≠ 139) : σ0.1 i = z0 := by
  show (if i = 1 ∨ i = 9 ∨ i = 17 then zB else if i = 139 then zR else z0) = z0
  rw [if_neg h, if_neg h2]
section
variable {ca : Nat → ClassId} {ad : Nat → Nat} {σ : Sg} {b : Nat} {h : Nat → Nat}
theorem bl_X0 (hk : ∀ i, i < 8 → kd (b + i) = kdBook.getD i (0, 0)) (had : ∀ i, i < 8 → ad (b + i) = h i) (hσ : ∀ i, 1 ≤ i → i < 8 → σ.1 (b + i) = z0) (hb : σ.1 b = zB) : blOK (outX0 ca (fun _ => h)) ca ad σ b 8 := by
  intro i hi
  rcases (show i = 0 ∨ i = 1 ∨ i = 2 ∨ i = 3 ∨ i = 4 ∨ i = 5 ∨ i = 6 ∨ i = 7 by omega) with rfl | rfl | rfl | rfl | rfl | rfl | rfl | rfl
  · refine ⟨_, by rw [had 0 hi]; rfl, Or.inl ?_⟩
    show _ = entF ca ad b (σ.1 b) (σ.2 b)
    rw [e_Book (show kd b = (5, 0) from hk 0 hi), hb, had 1 (by omega), had 2 (by omega), had 3 (by omega), had 4 (by omega), had 5 (by omega), had 6 (by omega), had 7 (by omega)]
    rfl
  · refine ⟨_, by rw [had 1 hi]; rfl, Or.inl ?_⟩
    rw [e_ia (n := 41) (hk 1 hi), hσ 1 (by omega) hi]
    rfl
  · refine ⟨_, by rw [had 2 hi]; rfl, Or.inl ?_⟩
    rw [e_ia (n := 41) (hk 2 hi), hσ 2 (by omega) hi]
    rfl
  · refine ⟨_, by rw [had 3 hi]; rfl, Or.inl ?_⟩
    rw [e_ia (n := 41) (hk 3 hi), hσ 3 (by omega) hi]
    rfl
  · refine ⟨_, by rw [had 4 hi]; rfl, Or.inl ?_⟩
    rw [e_ia (n := 41) (hk 4 hi), hσ 4 (by omega) hi]
    rfl
  · refine ⟨_, by rw [had 5 hi]; rfl, Or.inl ?_⟩
    rw [e_ia (n := 41) (hk 5 hi), hσ 5 (by omega) hi]
    rfl
  · refine ⟨_, by rw [had 6 hi]; rfl, Or.inl ?_⟩
    rw [e_ia (n := 41) (hk 6 hi), hσ 6 (by omega) hi]
    rfl
  · refine ⟨_, by rw [had 7 hi]; rfl, Or.inl ?_⟩
    rw [e_ia (n := 41) (hk 7 hi), hσ 7 (by omega) hi]
    rfl
def hdA (h : Nat → Nat) (i : Nat) : Nat := if i = 0 then h 0 else if i < 7 then h 1 + (i - 1) else if i < 13 then h 2 + (i - 7) else h 3
def ctA (h : Nat → Nat) (i : Nat) : Nat := if i = 0 then h 0 else if i = 1 then h 1 else if i < 12 then h 2 + (i - 2) else h 3
def skA (h : Nat → Nat) (i : Nat) : Nat := if i = 0 then h 0 else h 1 + (i - 1)
def tlA (h : Nat → Nat) (i : Nat) : Nat := if i = 0 then h 0 else if i = 1 then h 1 else if i < 43 then h 2 + (i - 2) else h 3
theorem hdA_1 (h : Nat → Nat) {i : Nat} (h1 : 1 ≤ i) (h2 : i < 7) : hdA h i = h 1 + (i - 1) := by unfold hdA; rw [if_neg (by omega), if_pos h2]
theorem hdA_2 (h : Nat → Nat) {i : Nat} (h1 : 7 ≤ i) (h2 : i < 13) : hdA h i = h 2 + (i - 7) := by unfold hdA; rw [if_neg (by omega), if_neg (by omega), if_pos h2]
theorem ctA_2 (h : Nat → Nat) {i : Nat} (h1 : 2 ≤ i) (h2 : i < 12) : ctA h i = h 2 + (i - 2) := by unfold ctA; rw [if_neg (by omega), if_neg (by omega), if_pos h2]
theorem skA_1 (h : Nat → Nat) {i : Nat} (h1 : 1 ≤ i) : skA h i = h 1 + (i - 1) := by unfold skA; rw [if_neg (by omega)]
theorem tlA_2 (h : Nat → Nat) {i : Nat} (h1 : 2 ≤ i) (h2 : i < 43) : tlA h i = h 2 + (i - 2) := by unfold tlA; rw [if_neg (by omega), if_neg (by omega), if_pos h2]
theorem bl_X2 (hk : ∀ i, i < 14 → kd (b + i) = kdHold.getD i (0, 0)) (had : ∀ i, i < 14 → ad (b + i) = hdA h i) (hσ : ∀ i, 0 ≤ i → i < 14 → σ.1 (b + i) = z0) : blOK (outX2 ca (fun _ => h)) ca ad σ b 14 := by
  intro i hi
  rcases (show i = 0 ∨ i = 1 ∨ i = 2 ∨ i = 3 ∨ i = 4 ∨ i = 5 ∨ i = 6 ∨ i = 7 ∨ i = 8 ∨ i = 9 ∨ i = 10 ∨ i = 11 ∨ i = 12 ∨ i = 13 by omega) with rfl | rfl | rfl | rfl | rfl | rfl | rfl | rfl | rfl | rfl | rfl | rfl | rfl | rfl
  · refine ⟨_, by rw [had 0 hi]; rfl, Or.inl ?_⟩
    show _ = entF ca ad b (σ.1 b) (σ.2 b)
    rw [e_Holdings (show kd b = (7, 0) from hk 0 hi), had 1 (by omega), had 7 (by omega), had 13 (by omega)]
    rfl
  · refine ⟨_, by rw [had 1 hi]; rfl, Or.inr ⟨ca 3, 5, _, _, rfl, e_iia (n := 5) (hk 1 hi), fun j hj => ?_⟩⟩
    show some (h 1 + 1 + j) = some (ad (b + 1 + 1 + j))
    rw [Nat.add_assoc b 1 1, Nat.add_assoc b (1 + 1) j, had (1 + 1 + j) (by omega), hdA_1 h (by omega) (by omega)]
    exact congrArg some (by omega)
  · refine ⟨_, by rw [had 2 hi]; rfl, Or.inl ?_⟩
    rw [e_ia (n := 10) (hk 2 hi), hσ 2 (by omega) hi]
    rfl
  · refine ⟨_, by rw [had 3 hi]; rfl, Or.inl ?_⟩
    rw [e_ia (n := 10) (hk 3 hi), hσ 3 (by omega) hi]
    rfl
  · refine ⟨_, by rw [had 4 hi]; rfl, Or.inl ?_⟩
    rw [e_ia (n := 10) (hk 4 hi), hσ 4 (by omega) hi]
    rfl
  · refine ⟨_, by rw [had 5 hi]; rfl, Or.inl ?_⟩
    rw [e_ia (n := 10) (hk 5 hi), hσ 5 (by omega) hi]
    rfl
  · refine ⟨_, by rw [had 6 hi]; rfl, Or.inl ?_⟩
    rw [e_ia (n := 10) (hk 6 hi), hσ 6 (by omega) hi]
    rfl
  · refine ⟨_, by rw [had 7 hi]; rfl, Or.inr ⟨ca 3, 5, _, _, rfl, e_iia (n := 5) (hk 7 hi), fun j hj => ?_⟩⟩
    show some (h 2 + 1 + j) = some (ad (b + 7 + 1 + j))
    rw [Nat.add_assoc b 7 1, Nat.add_assoc b (7 + 1) j, had (7 + 1 + j) (by omega), hdA_2 h (by omega) (by omega)]
    exact congrArg some (by omega)
  · refine ⟨_, by rw [had 8 hi]; rfl, Or.inl ?_⟩
    rw [e_ia (n := 10) (hk 8 hi), hσ 8 (by omega) hi]
    rfl
  · refine ⟨_, by rw [had 9 hi]; rfl, Or.inl ?_⟩
    rw [e_ia (n := 10) (hk 9 hi), hσ 9 (by omega) hi]
    rfl
  · refine ⟨_, by rw [had 10 hi]; rfl, Or.inl ?_⟩
    rw [e_ia (n := 10) (hk 10 hi), hσ 10 (by omega) hi]
    rfl
  · refine ⟨_, by rw [had 11 hi]; rfl, Or.inl ?_⟩
    rw [e_ia (n := 10) (hk 11 hi), hσ 11 (by omega) hi]
    rfl
  · refine ⟨_, by rw [had 12 hi]; rfl, Or.inl ?_⟩
    rw [e_ia (n := 10) (hk 12 hi), hσ 12 (by omega) hi]
    rfl
  · refine ⟨_, by rw [had 13 hi]; rfl, Or.inl ?_⟩
    rw [e_ia (n := 5) (hk 13 hi), hσ 13 (by omega) hi]
    rfl
theorem bl_X1 (hk : ∀ i, i < 13 → kd (b + i) = kdCtrl.getD i (0, 0)) (had : ∀ i, i < 13 → ad (b + i) = ctA h i) (hσ : ∀ i, 0 ≤ i → i < 13 → σ.1 (b + i) = z0) : blOK (outX1 ca (fun _ => h)) ca ad σ b 13 := by
  intro i hi
  rcases (show i = 0 ∨ i = 1 ∨ i = 2 ∨ i = 3 ∨ i = 4 ∨ i = 5 ∨ i = 6 ∨ i = 7 ∨ i = 8 ∨ i = 9 ∨ i = 10 ∨ i = 11 ∨ i = 12 by omega) with rfl | rfl | rfl | rfl | rfl | rfl | rfl | rfl | rfl | rfl | rfl | rfl | rfl
  · refine ⟨_, by rw [had 0 hi]; rfl, Or.inl ?_⟩
    show _ = entF ca ad b (σ.1 b) (σ.2 b)
    rw [e_Control (show kd b = (6, 0) from hk 0 hi), had 1 (by omega), had 2 (by omega), had 12 (by omega)]
    rfl
  · refine ⟨_, by rw [had 1 hi]; rfl, Or.inl ?_⟩
    rw [e_ia (n := 9) (hk 1 hi), hσ 1 (by omega) hi]
    rfl
  · refine ⟨_, by rw [had 2 hi]; rfl, Or.inr ⟨ca 3, 9, _, _, rfl, e_iia (n := 9) (hk 2 hi), fun j hj => ?_⟩⟩
    show some (h 2 + 1 + j) = some (ad (b + 2 + 1 + j))
    rw [Nat.add_assoc b 2 1, Nat.add_assoc b (2 + 1) j, had (2 + 1 + j) (by omega), ctA_2 h (by omega) (by omega)]
    exact congrArg some (by omega)
  · refine ⟨_, by rw [had 3 hi]; rfl, Or.inl ?_⟩
    rw [e_ia (n := 5) (hk 3 hi), hσ 3 (by omega) hi]
    rfl
  · refine ⟨_, by rw [had 4 hi]; rfl, Or.inl ?_⟩
    rw [e_ia (n := 5) (hk 4 hi), hσ 4 (by omega) hi]
    rfl
  · refine ⟨_, by rw [had 5 hi]; rfl, Or.inl ?_⟩
    rw [e_ia (n := 5) (hk 5 hi), hσ 5 (by omega) hi]
    rfl
  · refine ⟨_, by rw [had 6 hi]; rfl, Or.inl ?_⟩
    rw [e_ia (n := 5) (hk 6 hi), hσ 6 (by omega) hi]
    rfl
  · refine ⟨_, by rw [had 7 hi]; rfl, Or.inl ?_⟩
    rw [e_ia (n := 5) (hk 7 hi), hσ 7 (by omega) hi]
    rfl
  · refine ⟨_, by rw [had 8 hi]; rfl, Or.inl ?_⟩
    rw [e_ia (n := 5) (hk 8 hi), hσ 8 (by omega) hi]
    rfl
  · refine ⟨_, by rw [had 9 hi]; rfl, Or.inl ?_⟩
    rw [e_ia (n := 5) (hk 9 hi), hσ 9 (by omega) hi]
    rfl
  · refine ⟨_, by rw [had 10 hi]; rfl, Or.inl ?_⟩
    rw [e_ia (n := 5) (hk 10 hi), hσ 10 (by omega) hi]
    rfl
  · refine ⟨_, by rw [had 11 hi]; rfl, Or.inl ?_⟩
    rw [e_ia (n := 5) (hk 11 hi), hσ 11 (by omega) hi]
    rfl
  · refine ⟨_, by rw [had 12 hi]; rfl, Or.inl ?_⟩
    rw [e_ia (n := 9) (hk 12 hi), hσ 12 (by omega) hi]
    rfl
theorem bl_X4 (hk : ∀ i, i < 7 → kd (b + i) = kdStak.getD i (0, 0)) (had : ∀ i, i < 7 → ad (b + i) = skA h i) (hσ : ∀ i, 0 ≤ i → i < 7 → σ.1 (b + i) = z0) (hσ2 : ∀ i, 0 ≤ i → i < 7 → σ.2 (b + i) = z0L) : blOK (outX4 ca (fun _ => h)) ca ad σ b 7 := by
  intro i hi
  rcases (show i = 0 ∨ i = 1 ∨ i = 2 ∨ i = 3 ∨ i = 4 ∨ i = 5 ∨ i = 6 by omega) with rfl | rfl | rfl | rfl | rfl | rfl | rfl
  · refine ⟨_, by rw [had 0 hi]; rfl, Or.inl ?_⟩
    show _ = entF ca ad b (σ.1 b) (σ.2 b)
    rw [e_Stakes (show kd b = (9, 0) from hk 0 hi), had 1 (by omega), show σ.1 b = z0 from hσ 0 (by omega) hi]
    rfl
  · refine ⟨_, by rw [had 1 hi]; rfl, Or.inr ⟨ca 4, 5, _, _, rfl, e_lla (n := 5) (hk 1 hi), fun j hj => ?_⟩⟩
    show some (h 1 + 1 + j) = some (ad (b + 1 + 1 + j))
    rw [Nat.add_assoc b 1 1, Nat.add_assoc b (1 + 1) j, had (1 + 1 + j) (by omega), skA_1 h (by omega)]
    exact congrArg some (by omega)
  · refine ⟨_, by rw [had 2 hi]; rfl, Or.inl ?_⟩
    rw [e_la (n := 10) (hk 2 hi), hσ2 2 (by omega) hi]
    rfl
  · refine ⟨_, by rw [had 3 hi]; rfl, Or.inl ?_⟩
    rw [e_la (n := 10) (hk 3 hi), hσ2 3 (by omega) hi]
    rfl
  · refine ⟨_, by rw [had 4 hi]; rfl, Or.inl ?_⟩
    rw [e_la (n := 10) (hk 4 hi), hσ2 4 (by omega) hi]
    rfl
  · refine ⟨_, by rw [had 5 hi]; rfl, Or.inl ?_⟩
    rw [e_la (n := 10) (hk 5 hi), hσ2 5 (by omega) hi]
    rfl
  · refine ⟨_, by rw [had 6 hi]; rfl, Or.inl ?_⟩
    rw [e_la (n := 10) (hk 6 hi), hσ2 6 (by omega) hi]
    rfl
theorem bl_X3 (hk : ∀ i, i < 2 → kd (b + i) = kdReac.getD i (0, 0)) (had : ∀ i, i < 2 → ad (b + i) = h i) (hσ : ∀ i, 0 ≤ i → i < 2 → σ.1 (b + i) = z0) : blOK (outX3 ca (fun _ => h)) ca ad σ b 2 := by
  intro i hi
  rcases (show i = 0 ∨ i = 1 by omega) with rfl | rfl
  · refine ⟨_, by rw [had 0 hi]; rfl, Or.inl ?_⟩
    show _ = entF ca ad b (σ.1 b) (σ.2 b)
    rw [e_Reach (show kd b = (8, 0) from hk 0 hi), had 1 (by omega)]
  · refine ⟨_, by rw [had 1 hi]; rfl, Or.inl ?_⟩
    rw [e_ia (n := 5) (hk 1 hi), hσ 1 (by omega) hi]
    rfl
theorem bl_X5 (hk : ∀ i, i < 44 → kd (b + i) = kdTime.getD i (0, 0)) (had : ∀ i, i < 44 → ad (b + i) = tlA h i) (hσ : ∀ i, 0 ≤ i → i < 44 → σ.1 (b + i) = z0) : blOK (outX5 ca (fun _ => h)) ca ad σ b 44 := by
  intro i hi
  have hrow : ∀ j, j < 40 → kdTime.getD (3 + j) (0, 0) = (0, 9) := by decide
  rcases (show i = 0 ∨ i = 1 ∨ i = 2 ∨ i = 43 ∨ ∃ j, j < 40 ∧ i = 3 + j by
    by_cases c : i < 3
    · omega
    · by_cases c2 : i = 43
      · omega
      · exact Or.inr (Or.inr (Or.inr (Or.inr ⟨i - 3, by omega, by omega⟩)))) with rfl | rfl | rfl | rfl | ⟨j, hj, rfl⟩
  · refine ⟨_, by rw [had 0 hi]; rfl, Or.inl ?_⟩
    show _ = entF ca ad b (σ.1 b) (σ.2 b)
    rw [e_Timeline (show kd b = (10, 0) from hk 0 hi), had 1 (by omega), had 2 (by omega), had 43 (by omega), show σ.1 b = z0 from hσ 0 (by omega) hi]
    rfl
  · refine ⟨_, by rw [had 1 hi]; rfl, Or.inl ?_⟩
    rw [e_ia (n := 40) (hk 1 hi), hσ 1 (by omega) hi]
    rfl
  · refine ⟨_, by rw [had 2 hi]; rfl, Or.inr ⟨ca 3, 40, _, _, rfl, e_iia (n := 40) (hk 2 hi), fun j hj => ?_⟩⟩
    show some (h 2 + 1 + j) = some (ad (b + 2 + 1 + j))
    rw [Nat.add_assoc b 2 1, Nat.add_assoc b (2 + 1) j, had (2 + 1 + j) (by omega), tlA_2 h (by omega) (by omega)]
    exact congrArg some (by omega)
  · refine ⟨_, by rw [had 43 hi]; rfl, Or.inl ?_⟩
    rw [e_ia (n := 1800) (hk 43 hi), hσ 43 (by omega) hi]
    rfl
  · refine ⟨zI (ca 0) 9, ?_, Or.inl ?_⟩
    · rw [had (3 + j) hi, tlA_2 h (by omega) (by omega)]
      have e1 : (rwI (ca 0) 40 9 (h 2))[j]? = some (h 2 + 1 + j, zI (ca 0) 9) := by
        unfold rwI
        rw [List.getElem?_map, List.getElem?_range hj]
        rfl
      have e2 : (rwI (ca 0) 40 9 (h 2) ++ [(h 3, zI (ca 0) 1800)])[j]? = some (h 2 + 1 + j, zI (ca 0) 9) := app_l e1
      show (((h 0, _) :: (h 1, zI (ca 0) 40) :: (h 2, zA (ca 3) 40 (h 2)) :: (rwI (ca 0) 40 9 (h 2) ++ [(h 3, zI (ca 0) 1800)])) : va_W)[3 + j]? = _
      rw [show 3 + j = j + 1 + 1 + 1 by omega, List.getElem?_cons_succ, List.getElem?_cons_succ, List.getElem?_cons_succ, e2]
      exact congrArg (fun q => some (q, zI (ca 0) 9)) (by omega)
    · rw [e_ia (n := 9) ((hk (3 + j) hi).trans (hrow j hj)), hσ (3 + j) (by omega) hi]
      rfl
theorem out7_eq : outX7 ca (fun _ => h) = [(h 0, .inr (7, [.ref (h 1), .ref (h 2), .ref (h 3), .ref (h 4), .ref (h 5), .ref (h 6), .int 0, .int 0, .ref (h 7), .ref (h 8), .ref (h 9), .ref (h 10), .ref (h 11), .ref (h 12), .int 0, .ref (h 13), .int 0, .int 0, .int 0, .int 0, .ref (h 14), .ref (h 15), .ref (h 16), .ref (h 17), .ref (h 18)])), (h 1, zI (ca 0) 41), (h 2, zI (ca 0) 41), (h 3, zI (ca 0) 41), (h 4, zI (ca 0) 41), (h 5, zI (ca 0) 41), (h 6, zI (ca 0) 41), (h 7, .inl (ca 0, 3, .inl (upd (upd (upd (fun _ => 0) 0 50) 1 30) 2 25))), (h 8, zI (ca 0) 41), (h 9, zI (ca 0) 50), (h 10, zI (ca 0) 50), (h 11, zI (ca 2) 50), (h 12, zI (ca 0) 5), (h 13, zI (ca 0) 9), (h 14, zL (ca 1) 25), (h 15, zL (ca 1) 4), (h 16, zI (ca 0) 5), (h 17, zI (ca 0) 490), (h 18, zI (ca 2) 2)] := by simp only [outX7, List.cons_append, List.nil_append]
theorem bl_X7 (hb : b = 132) (had : ∀ i, i < 19 → ad (b + i) = h i) : blOK (outX7 ca (fun _ => h)) ca ad σ0 b 19 := by
  subst hb
  have hk : ∀ i, i < 19 → kd (132 + i) = kdModl.getD i (0, 0) := by decide +kernel
  have hσ : ∀ i, 0 ≤ i → i < 19 → i ≠ 7 → σ0.1 (132 + i) = z0 := fun i _ hi h7 => s0_z (by omega) (by omega)
  intro i hi
  rcases (show i = 0 ∨ i = 1 ∨ i = 2 ∨ i = 3 ∨ i = 4 ∨ i = 5 ∨ i = 6 ∨ i = 7 ∨ i = 8 ∨ i = 9 ∨ i = 10 ∨ i = 11 ∨ i = 12 ∨ i = 13 ∨ i = 14 ∨ i = 15 ∨ i = 16 ∨ i = 17 ∨ i = 18 by omega) with rfl | rfl | rfl | rfl | rfl | rfl | rfl | rfl | rfl | rfl | rfl | rfl | rfl | rfl | rfl | rfl | rfl | rfl | rfl
  · refine ⟨_, by rw [had 0 hi, out7_eq]; rfl, Or.inl ?_⟩
    show _ = entF ca ad 132 (σ0.1 132) (σ0.2 132)
    rw [e_ControlRegisterModel (show kd 132 = (12, 0) from hk 0 hi), show ad 133 = h 1 from had 1 (by omega), show ad 134 = h 2 from had 2 (by omega), show ad 135 = h 3 from had 3 (by omega), show ad 136 = h 4 from had 4 (by omega), show ad 137 = h 5 from had 5 (by omega), show ad 138 = h 6 from had 6 (by omega), show ad 139 = h 7 from had 7 (by omega), show ad 140 = h 8 from had 8 (by omega), show ad 141 = h 9 from had 9 (by omega), show ad 142 = h 10 from had 10 (by omega), show ad 143 = h 11 from had 11 (by omega), show ad 144 = h 12 from had 12 (by omega), show ad 145 = h 13 from had 13 (by omega), show ad 146 = h 14 from had 14 (by omega), show ad 147 = h 15 from had 15 (by omega), show ad 148 = h 16 from had 16 (by omega), show ad 149 = h 17 from had 17 (by omega), show ad 150 = h 18 from had 18 (by omega), show σ0.1 132 = z0 from hσ 0 (by omega) hi (by omega)]
    rfl
  · refine ⟨_, by rw [had 1 hi, out7_eq]; rfl, Or.inl ?_⟩
    rw [e_ia (n := 41) (hk 1 hi), hσ 1 (by omega) hi (by omega)]
    rfl
  · refine ⟨_, by rw [had 2 hi, out7_eq]; rfl, Or.inl ?_⟩
    rw [e_ia (n := 41) (hk 2 hi), hσ 2 (by omega) hi (by omega)]
    rfl
  · refine ⟨_, by rw [had 3 hi, out7_eq]; rfl, Or.inl ?_⟩
    rw [e_ia (n := 41) (hk 3 hi), hσ 3 (by omega) hi (by omega)]
    rfl
  · refine ⟨_, by rw [had 4 hi, out7_eq]; rfl, Or.inl ?_⟩
    rw [e_ia (n := 41) (hk 4 hi), hσ 4 (by omega) hi (by omega)]
    rfl
  · refine ⟨_, by rw [had 5 hi, out7_eq]; rfl, Or.inl ?_⟩
    rw [e_ia (n := 41) (hk 5 hi), hσ 5 (by omega) hi (by omega)]
    rfl
  · refine ⟨_, by rw [had 6 hi, out7_eq]; rfl, Or.inl ?_⟩
    rw [e_ia (n := 41) (hk 6 hi), hσ 6 (by omega) hi (by omega)]
    rfl
  · refine ⟨_, by rw [had 7 hi, out7_eq]; rfl, Or.inl ?_⟩
    rw [e_ia (n := 3) (hk 7 hi)]
    rfl
  · refine ⟨_, by rw [had 8 hi, out7_eq]; rfl, Or.inl ?_⟩
    rw [e_ia (n := 41) (hk 8 hi), hσ 8 (by omega) hi (by omega)]
    rfl
  · refine ⟨_, by rw [had 9 hi, out7_eq]; rfl, Or.inl ?_⟩
    rw [e_ia (n := 50) (hk 9 hi), hσ 9 (by omega) hi (by omega)]
    rfl
  · refine ⟨_, by rw [had 10 hi, out7_eq]; rfl, Or.inl ?_⟩
    rw [e_ia (n := 50) (hk 10 hi), hσ 10 (by omega) hi (by omega)]
    rfl
  · refine ⟨_, by rw [had 11 hi, out7_eq]; rfl, Or.inl ?_⟩
    rw [e_za (n := 50) (hk 11 hi), hσ 11 (by omega) hi (by omega)]
    rfl
  · refine ⟨_, by rw [had 12 hi, out7_eq]; rfl, Or.inl ?_⟩
    rw [e_ia (n := 5) (hk 12 hi), hσ 12 (by omega) hi (by omega)]
    rfl
  · refine ⟨_, by rw [had 13 hi, out7_eq]; rfl, Or.inl ?_⟩
    rw [e_ia (n := 9) (hk 13 hi), hσ 13 (by omega) hi (by omega)]
    rfl
  · refine ⟨_, by rw [had 14 hi, out7_eq]; rfl, Or.inl ?_⟩
    rw [e_la (n := 25) (hk 14 hi)]
    rfl
  · refine ⟨_, by rw [had 15 hi, out7_eq]; rfl, Or.inl ?_⟩
    rw [e_la (n := 4) (hk 15 hi)]
    rfl
  · refine ⟨_, by rw [had 16 hi, out7_eq]; rfl, Or.inl ?_⟩
    rw [e_ia (n := 5) (hk 16 hi), hσ 16 (by omega) hi (by omega)]
    rfl
  · refine ⟨_, by rw [had 17 hi, out7_eq]; rfl, Or.inl ?_⟩
    rw [e_ia (n := 490) (hk 17 hi), hσ 17 (by omega) hi (by omega)]
    rfl
  · refine ⟨_, by rw [had 18 hi, out7_eq]; rfl, Or.inl ?_⟩
    rw [e_za (n := 2) (hk 18 hi), hσ 18 (by omega) hi (by omega)]
    rfl
end
