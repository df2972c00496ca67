/-! THE WORLD: every cell that the law's two objects are made of, by a number of its own (0 .. 150); what the cells hold, as two tables of numbers. -/
abbrev Sg : Type := (Nat → Nat → Int32) × (Nat → Nat → Int64)
def setR (σ : Sg) (i : Nat) (g : Nat → Int32) : Sg := (fun a => if a = i then g else σ.1 a, σ.2)
def setL (σ : Sg) (i : Nat) (g : Nat → Int64) : Sg := (σ.1, fun a => if a = i then g else σ.2 a)
def NN : Nat := 151
/-- the kinds: 0 int[], 1 long[], 2 boolean[], 3 int[][], 4 long[][], 5 Book, 6 Control, 7 Holdings, 8 Reach, 9 Stakes, 10 Timeline, 11 ControlRegister, 12 ControlRegisterModel; and the length -/
def kdBook : List (Nat × Nat) := [(5, 0), (0, 41), (0, 41), (0, 41), (0, 41), (0, 41), (0, 41), (0, 41)]
def kdHold : List (Nat × Nat) := [(7, 0), (3, 5), (0, 10), (0, 10), (0, 10), (0, 10), (0, 10), (3, 5), (0, 10), (0, 10), (0, 10), (0, 10), (0, 10), (0, 5)]
def kdCtrl : List (Nat × Nat) := [(6, 0), (0, 9), (3, 9), (0, 5), (0, 5), (0, 5), (0, 5), (0, 5), (0, 5), (0, 5), (0, 5), (0, 5), (0, 9)]
def kdStak : List (Nat × Nat) := [(9, 0), (4, 5), (1, 10), (1, 10), (1, 10), (1, 10), (1, 10)]
def kdReac : List (Nat × Nat) := [(8, 0), (0, 5)]
def kdTime : List (Nat × Nat) := [(10, 0), (0, 40), (3, 40)] ++ List.replicate 40 (0, 9) ++ [(0, 1800)]
def kdModl : List (Nat × Nat) := [(12, 0), (0, 41), (0, 41), (0, 41), (0, 41), (0, 41), (0, 41), (0, 3), (0, 41), (0, 50), (0, 50), (2, 50), (0, 5), (0, 9), (1, 25), (1, 4), (0, 5), (0, 490), (2, 2)]
def kdAll : List (Nat × Nat) := [(11, 0)] ++ kdBook ++ kdBook ++ kdBook ++ kdHold ++ kdHold ++ kdCtrl ++ kdCtrl ++ kdStak ++ kdReac ++ kdTime ++ kdModl
def kd (i : Nat) : Nat × Nat := kdAll.getD i (0, 0)
theorem kdAll_len : kdAll.length = NN := by decide +kernel
def entF (ca : Nat → ClassId) (ad : Nat → Nat) (i : Nat) (f : Nat → Int32) (g : Nat → Int64) : va_E :=
  if (kd i).1 = 0 then .inl (ca 0, (kd i).2, .inl f)
  else if (kd i).1 = 1 then .inl (ca 1, (kd i).2, .inr (.inl g))
  else if (kd i).1 = 2 then .inl (ca 2, (kd i).2, .inl f)
  else if (kd i).1 = 3 then .inl (ca 3, (kd i).2, .inr (.inr (.inr (.inr (fun j => some (ad (i + 1 + j)))))))
  else if (kd i).1 = 4 then .inl (ca 4, (kd i).2, .inr (.inr (.inr (.inr (fun j => some (ad (i + 1 + j)))))))
  else if (kd i).1 = 5 then .inr (0, [.ref (ad (i + 1)), .ref (ad (i + 2)), .ref (ad (i + 3)), .ref (ad (i + 4)), .ref (ad (i + 5)), .ref (ad (i + 6)), .ref (ad (i + 7)), .int (f 7), .int (f 8), .int (f 9), .int (f 10), .int (f 11)])
  else if (kd i).1 = 6 then .inr (1, [.ref (ad (i + 1)), .ref (ad (i + 2)), .ref (ad (i + 12))])
  else if (kd i).1 = 7 then .inr (2, [.ref (ad (i + 1)), .ref (ad (i + 7)), .ref (ad (i + 13))])
  else if (kd i).1 = 8 then .inr (3, [.ref (ad (i + 1))])
  else if (kd i).1 = 9 then .inr (4, [.int (f 0), .ref (ad (i + 1))])
  else if (kd i).1 = 10 then .inr (5, [.ref (ad (i + 1)), .ref (ad (i + 2)), .int (f 2), .ref (ad (i + 43)), .int (f 4)])
  else if (kd i).1 = 11 then .inr (6, [.ref (ad 1), .ref (ad 9), .ref (ad 17), .int (f 3), .ref (ad 25), .ref (ad 53), .ref (ad 79), .ref (ad 86), .int (f 8), .ref (ad 88), .int (f 10), .ref (ad 39), .ref (ad 66)])
  else .inr (7, [.ref (ad 133), .ref (ad 134), .ref (ad 135), .ref (ad 136), .ref (ad 137), .ref (ad 138), .int (f 6), .int (f 7), .ref (ad 139), .ref (ad 140), .ref (ad 141), .ref (ad 142), .ref (ad 143), .ref (ad 144), .int (f 14), .ref (ad 145), .int (f 16), .int (f 17), .int (f 18), .int (f 19), .ref (ad 146), .ref (ad 147), .ref (ad 148), .ref (ad 149), .ref (ad 150)])
def pool (ca : Nat → ClassId) (ad : Nat → Nat) (σ : Sg) : va_W := (List.range NN).map (fun i => (ad i, entF ca ad i (σ.1 i) (σ.2 i)))
def tysA (ca : Nat → ClassId) : List (ClassId × FieldType) := [(ca 0, .int), (ca 1, .long), (ca 2, .boolean), (ca 3, .array .int), (ca 4, .array .long)]
def Aw (ad : Nat → Nat) (sz : Nat) : Nat → Prop := fun q => (∃ i, i < NN ∧ q = ad i) ∨ sz ≤ q
theorem Aw.mono {ad : Nat → Nat} {a b q : Nat} (h : a ≤ b) (hq : Aw ad b q) : Aw ad a q := hq.elim Or.inl (fun h2 => Or.inr (Nat.le_trans h h2))
theorem pool_at {ca : Nat → ClassId} {ad : Nat → Nat} {σ : Sg} {i : Nat} (h : i < NN) : (pool ca ad σ)[i]? = some (ad i, entF ca ad i (σ.1 i) (σ.2 i)) := by
  simp [pool, h]
theorem pool_len {ca : Nat → ClassId} {ad : Nat → Nat} {σ : Sg} : (pool ca ad σ).length = NN := by simp [pool]
theorem pool_set {ca : Nat → ClassId} {ad : Nat → Nat} {σ σ' : Sg} {i : Nat} {e : va_E} (h : i < NN) (he : e = entF ca ad i (σ'.1 i) (σ'.2 i)) (ho : ∀ j, j ≠ i → σ'.1 j = σ.1 j ∧ σ'.2 j = σ.2 j) : (pool ca ad σ).set i (ad i, e) = pool ca ad σ' := by
  apply List.ext_getElem?
  intro j
  rw [List.getElem?_set]
  by_cases hj : i = j
  · subst hj
    rw [if_pos rfl, if_pos (by rw [pool_len]; exact h), pool_at h, he]
  · rw [if_neg hj]
    by_cases hl : j < NN
    · rw [pool_at hl, pool_at hl, (ho j (Ne.symm hj)).1, (ho j (Ne.symm hj)).2]
    · have h1 : (pool ca ad σ).length ≤ j := by rw [pool_len]; exact Nat.le_of_not_lt hl
      have h2 : (pool ca ad σ').length ≤ j := by rw [pool_len]; exact Nat.le_of_not_lt hl
      rw [List.getElem?_eq_none h1, List.getElem?_eq_none h2]
theorem setR_eq (σ : Sg) (i : Nat) (g : Nat → Int32) : (setR σ i g).1 i = g := by simp [setR]
theorem setR_ne (σ : Sg) {i j : Nat} (g : Nat → Int32) (h : j ≠ i) : (setR σ i g).1 j = σ.1 j := by simp [setR, h]
theorem setR_2 (σ : Sg) (i : Nat) (g : Nat → Int32) : (setR σ i g).2 = σ.2 := rfl
theorem setL_eq (σ : Sg) (i : Nat) (g : Nat → Int64) : (setL σ i g).2 i = g := by simp [setL]
theorem setL_ne (σ : Sg) {i j : Nat} (g : Nat → Int64) (h : j ≠ i) : (setL σ i g).2 j = σ.2 j := by simp [setL, h]
theorem setL_1 (σ : Sg) (i : Nat) (g : Nat → Int64) : (setL σ i g).1 = σ.1 := rfl
theorem pool_setR {ca : Nat → ClassId} {ad : Nat → Nat} {σ : Sg} {i : Nat} {g : Nat → Int32} {e : va_E} (h : i < NN) (he : e = entF ca ad i g (σ.2 i)) : (pool ca ad σ).set i (ad i, e) = pool ca ad (setR σ i g) :=
  pool_set h (by rw [setR_eq]; exact he) (fun j hj => ⟨setR_ne σ g hj, rfl⟩)
theorem pool_setL {ca : Nat → ClassId} {ad : Nat → Nat} {σ : Sg} {i : Nat} {g : Nat → Int64} {e : va_E} (h : i < NN) (he : e = entF ca ad i (σ.1 i) g) : (pool ca ad σ).set i (ad i, e) = pool ca ad (setL σ i g) :=
  pool_set h (by rw [setL_eq]; exact he) (fun j hj => ⟨rfl, setL_ne σ g hj⟩)
section
variable {ca : Nat → ClassId} {ad : Nat → Nat} {i n : Nat} {f : Nat → Int32} {g : Nat → Int64}
theorem e_ia (h : kd i = (0, n)) : entF ca ad i f g = .inl (ca 0, n, .inl f) := by simp [entF, h]
theorem e_la (h : kd i = (1, n)) : entF ca ad i f g = .inl (ca 1, n, .inr (.inl g)) := by simp [entF, h]
theorem e_za (h : kd i = (2, n)) : entF ca ad i f g = .inl (ca 2, n, .inl f) := by simp [entF, h]
theorem e_iia (h : kd i = (3, n)) : entF ca ad i f g = .inl (ca 3, n, .inr (.inr (.inr (.inr (fun j => some (ad (i + 1 + j))))))) := by simp [entF, h]
theorem e_lla (h : kd i = (4, n)) : entF ca ad i f g = .inl (ca 4, n, .inr (.inr (.inr (.inr (fun j => some (ad (i + 1 + j))))))) := by simp [entF, h]
theorem e_Book (h : kd i = (5, 0)) : entF ca ad i f g = .inr (0, [.ref (ad (i + 1)), .ref (ad (i + 2)), .ref (ad (i + 3)), .ref (ad (i + 4)), .ref (ad (i + 5)), .ref (ad (i + 6)), .ref (ad (i + 7)), .int (f 7), .int (f 8), .int (f 9), .int (f 10), .int (f 11)]) := by simp [entF, h]
theorem e_Control (h : kd i = (6, 0)) : entF ca ad i f g = .inr (1, [.ref (ad (i + 1)), .ref (ad (i + 2)), .ref (ad (i + 12))]) := by simp [entF, h]
theorem e_Holdings (h : kd i = (7, 0)) : entF ca ad i f g = .inr (2, [.ref (ad (i + 1)), .ref (ad (i + 7)), .ref (ad (i + 13))]) := by simp [entF, h]
theorem e_Reach (h : kd i = (8, 0)) : entF ca ad i f g = .inr (3, [.ref (ad (i + 1))]) := by simp [entF, h]
theorem e_Stakes (h : kd i = (9, 0)) : entF ca ad i f g = .inr (4, [.int (f 0), .ref (ad (i + 1))]) := by simp [entF, h]
theorem e_Timeline (h : kd i = (10, 0)) : entF ca ad i f g = .inr (5, [.ref (ad (i + 1)), .ref (ad (i + 2)), .int (f 2), .ref (ad (i + 43)), .int (f 4)]) := by simp [entF, h]
theorem e_ControlRegister (h : kd i = (11, 0)) : entF ca ad i f g = .inr (6, [.ref (ad 1), .ref (ad 9), .ref (ad 17), .int (f 3), .ref (ad 25), .ref (ad 53), .ref (ad 79), .ref (ad 86), .int (f 8), .ref (ad 88), .int (f 10), .ref (ad 39), .ref (ad 66)]) := by simp [entF, h]
theorem e_ControlRegisterModel (h : kd i = (12, 0)) : entF ca ad i f g = .inr (7, [.ref (ad 133), .ref (ad 134), .ref (ad 135), .ref (ad 136), .ref (ad 137), .ref (ad 138), .int (f 6), .int (f 7), .ref (ad 139), .ref (ad 140), .ref (ad 141), .ref (ad 142), .ref (ad 143), .ref (ad 144), .int (f 14), .ref (ad 145), .int (f 16), .int (f 17), .int (f 18), .int (f 19), .ref (ad 146), .ref (ad 147), .ref (ad 148), .ref (ad 149), .ref (ad 150)]) := by simp [entF, h]
end
/-- the words of the tables that go with every call -/
def wsAll : List Cond := lw_tbl.filter goodWord
theorem mem_ws {w : Cond} (h : w ∈ lw_tbl) (hg : goodWord w = true) : w ∈ wsAll := List.mem_filter.mpr ⟨h, hg⟩
theorem ws_good : GoodIn wsAll wsAll := fun _ h => ⟨h, good_of_word (List.mem_filter.mp h).2⟩
theorem mem_tb (i : Nat) {w : Cond} (h : tables_1[i]? = some w) (hg : goodWord w = true) : w ∈ wsAll := mem_ws (List.mem_append_right _ (List.mem_of_getElem? h)) hg
theorem mem_sl (i : Nat) {w : Cond} (h : (k2_sels lw_privs)[i]? = some w) (hg : goodWord w = true) : w ∈ wsAll := mem_ws (List.mem_append_left _ (List.mem_of_getElem? h)) hg
/-- the words of nest mates, which a contract carries by itself -/
def nests : List (String × Nat × MethodName) := [("ControlRegister", 11, yX0_init), ("ControlRegister", 24, yX2_init), ("ControlRegister", 31, yX1_init), ("ControlRegister", 38, yX4_init), ("ControlRegister", 45, yX3_init), ("ControlRegister", 52, yX5_init), ("ControlRegister$Book", 62, yX6_asNumber), ("ControlRegister$Control", 31, yX6_has), ("ControlRegister$Holdings", 68, yX6_has), ("ControlRegister$Holdings", 72, yX6_holderOf), ("ControlRegister$Reach", 19, yX6_has), ("ControlRegister$Reach", 29, yX6_holderOf), ("ControlRegister$Stakes", 31, yX6_has), ("ControlRegister$Stakes", 45, yX6_holderOf), ("ControlRegister$Stakes", 63, yX6_asNumber), ("ControlRegister$Timeline", 71, yX6_asNumber), ("ControlRegister$Timeline", 75, yX6_has)]
def NW (U : State) : Prop := ∀ q ∈ nests, va_Nw (.methodLinkNest q.1 q.2.1 q.2.2 "ControlRegister") U
theorem NW.warm {s U : State} (hW : s.WarmedH U.vm) (h : NW s) : NW U := fun q hq => va_Nw.warmM hW (h q hq)
theorem NW.same {u U : State} (hv : u.vm = U.vm) (h : NW u) : NW U := fun q hq => va_Nw.same rfl hv (h q hq)
