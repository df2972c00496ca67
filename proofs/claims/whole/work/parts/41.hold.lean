/-! HOLDINGS: who has what; the component's rows and the reference's rows of it -/
abbrev Hd : Type := (Nat → Nat → Nat) × (Nat → Nat → Nat) × (Nat → Nat → Bool)
def H0 : Hd := (fun _ k => if k = 9 then 100 else 0, fun _ k => if k = 9 then 100 else 0, fun _ _ => false)
def fr (S : Nat → Prop) (σ σ' : Sg) : Prop := ∀ j, ¬ S j → σ'.1 j = σ.1 j ∧ σ'.2 j = σ.2 j
theorem fr.rf {S : Nat → Prop} {σ : Sg} : fr S σ σ := fun _ _ => ⟨rfl, rfl⟩
theorem fr.tr {S : Nat → Prop} {a b c : Sg} (h1 : fr S a b) (h2 : fr S b c) : fr S a c := fun j hj => ⟨(h2 j hj).1.trans (h1 j hj).1, (h2 j hj).2.trans (h1 j hj).2⟩
theorem fr.mono {S T : Nat → Prop} {a b : Sg} (h : fr S a b) (hs : ∀ j, S j → T j) : fr T a b := fun j hj => h j (fun q => hj (hs j q))
theorem fr.setR {S : Nat → Prop} {σ : Sg} {i : Nat} {g : Nat → Int32} (h : S i) : fr S σ (setR σ i g) := fun j hj => ⟨setR_ne σ g (fun e => hj (by rw [e]; exact h)), rfl⟩
theorem fr.setL {S : Nat → Prop} {σ : Sg} {i : Nat} {g : Nat → Int64} (h : S i) : fr S σ (setL σ i g) := fun j hj => ⟨rfl, setL_ne σ g (fun e => hj (by rw [e]; exact h))⟩
theorem setR_at (σ : Sg) (i j : Nat) (g : Nat → Int32) : (setR σ i g).1 j = if j = i then g else σ.1 j := rfl
theorem upd_at (f : Nat → Int32) (k j : Nat) (x : Int32) : upd f k x j = if j = k then x else f j := rfl
def repC (h : Nat) (σ : Sg) (H : Hd) : Prop := (∀ f, f < 5 → ∀ k, k < 10 → σ.1 (h + 1 + 1 + f) k = nI (H.1 f k) ∧ σ.1 (h + 7 + 1 + f) k = nI (H.2.1 f k)) ∧ ∀ f, f < 5 → ∃ m, m < 512 ∧ σ.1 (h + 13) f = nI m ∧ ∀ k, k < 9 → m.testBit k = H.2.2 f k
def inH (h j : Nat) : Prop := h < j ∧ j ≤ h + 13
theorem sR_s (σ : Sg) (i : Nat) (g : Nat → Int32) : (setR σ i g).1 i = g := setR_eq σ i g
theorem sR_n (σ : Sg) {i j : Nat} (g : Nat → Int32) (h : j ≠ i) : (setR σ i g).1 j = σ.1 j := setR_ne σ g h
theorem sR_2 (σ : Sg) (i : Nat) (g : Nat → Int32) : (setR σ i g).2 = σ.2 := rfl
theorem sL_s (σ : Sg) (i : Nat) (g : Nat → Int64) : (setL σ i g).2 i = g := setL_eq σ i g
theorem sL_n (σ : Sg) {i j : Nat} (g : Nat → Int64) (h : j ≠ i) : (setL σ i g).2 j = σ.2 j := setL_ne σ g h
theorem sL_1 (σ : Sg) (i : Nat) (g : Nat → Int64) : (setL σ i g).1 = σ.1 := rfl
theorem up_s (f : Nat → Int32) (k : Nat) (x : Int32) : upd f k x k = x := pk_us
theorem up_n (f : Nat → Int32) {k j : Nat} (x : Int32) (h : j ≠ k) : upd f k x j = f j := pk_un h
theorem begin_in (h f : Nat) (hf : f < 5) (σ : Sg) : ∃ σ', L_X2_beginAgain_9 h (nI f) FU 0 σ = some (nI 10, σ') ∧ (∀ j, j < 10 → σ'.1 (h + 1 + 1 + f) j = nI (if j = 9 then 100 else 0) ∧ σ'.1 (h + 7 + 1 + f) j = nI (if j = 9 then 100 else 0)) ∧ fr (fun j => j = h + 1 + 1 + f ∨ j = h + 7 + 1 + f) σ σ' := by
  refine ex_use (loop_inv (fun m k a => L_X2_beginAgain_9 h (nI f) m (nI k) a) (fun k a => (∀ j, j < k → a.1 (h + 1 + 1 + f) j = nI (if j = 9 then 100 else 0) ∧ a.1 (h + 7 + 1 + f) j = nI (if j = 9 then 100 else 0)) ∧ fr (fun j => j = h + 1 + 1 + f ∨ j = h + 7 + 1 + f) σ a) 10 (fun a => (nI 10, a)) (by decide) (fun k hk m a ha => ?_) (fun m a ha => ?_) σ ⟨fun j hj => absurd hj (by omega), fr.rf⟩) (fun σ' h1 h2 => ⟨σ', h2, h1⟩)
  · refine ⟨_, (by rw [L_X2_beginAgain_9]; simp (disch := omega) only [li0, li1, li2, li3, li4, li5, li6, li7, li8, li9, li10, li15, li31, li32, li40, li41, li49, li50, li99, li100, li999, c_le, c_lt, c_eq, c_tn, c_inb, c_add, hf, hk, show ¬ 10 ≤ k by omega, jn, if_true, if_false, ite_true, ite_false, ↓reduceIte, Nat.le_refl, Nat.lt_irrefl, Nat.reduceAdd, Nat.reduceLeDiff, Nat.reduceLT, Nat.reduceEqDiff, Bool.false_eq_true]; rfl), ⟨fun j hj => ?_, ?_⟩⟩
    · rcases Nat.lt_succ_iff_lt_or_eq.mp hj with hj | hj
      · simp (disch := omega) only [sR_s, sR_n, sL_s, sL_n, sR_2, sL_1, up_s, up_n]
        exact ha.1 j hj
      · subst hj
        simp (disch := omega) only [sR_s, sR_n, sL_s, sL_n, sR_2, sL_1, up_s, up_n]
        split <;> exact ⟨rfl, rfl⟩
    · exact (ha.2.tr (fr.setR (Or.inl rfl))).tr (fr.setR (Or.inr rfl))
  · rw [L_X2_beginAgain_9]
    simp (disch := omega) only [li0, li1, li2, li3, li4, li5, li6, li7, li8, li9, li10, li15, li31, li32, li40, li41, li49, li50, li99, li100, li999, c_le, c_lt, c_eq, c_tn, c_inb, c_add, if_true, if_false, ite_true, ite_false, ↓reduceIte, Nat.le_refl, Nat.lt_irrefl, Nat.reduceAdd, Nat.reduceLeDiff, Nat.reduceLT, Nat.reduceEqDiff, Bool.false_eq_true]
theorem begin_ok (h : Nat) (σ : Sg) : ∃ σ', f_X2_beginAgain h σ = some σ' ∧ repC h σ' H0 ∧ fr (inH h) σ σ' := by
  refine ex_use (loop_inv (fun m k a => L_X2_beginAgain_2 h m (nI k) a) (fun k a => (∀ f, f < k → (∀ j, j < 10 → a.1 (h + 1 + 1 + f) j = nI (if j = 9 then 100 else 0) ∧ a.1 (h + 7 + 1 + f) j = nI (if j = 9 then 100 else 0)) ∧ a.1 (h + 13) f = nI 0) ∧ fr (inH h) σ a) 5 (fun a => (nI 5, a)) (by decide) (fun k hk m a ha => ?_) (fun m a ha => ?_) σ ⟨fun j hj => absurd hj (by omega), fr.rf⟩) (fun σ' h1 h2 => ⟨σ', ?_, ⟨fun f hf k hk => (h1.1 f hf).1 k hk, fun f hf => ⟨0, by decide, (h1.1 f hf).2, fun k _ => by simp [H0]⟩⟩, h1.2⟩)
  · obtain ⟨σ1, e1, e2, e3⟩ := begin_in h k hk a
    refine ⟨_, (by rw [L_X2_beginAgain_2]; rw [e1]; simp (disch := omega) only [li0, li1, li2, li3, li4, li5, li6, li7, li8, li9, li10, li15, li31, li32, li40, li41, li49, li50, li99, li100, li999, c_le, c_lt, c_eq, c_tn, c_inb, c_add, hk, show ¬ 5 ≤ k by omega, jn, Option.bind_some, if_true, if_false, ite_true, ite_false, ↓reduceIte, Nat.le_refl, Nat.lt_irrefl, Nat.reduceAdd, Nat.reduceLeDiff, Nat.reduceLT, Nat.reduceEqDiff, Bool.false_eq_true]; rfl), ⟨fun f hf => ?_, ?_⟩⟩
    · rcases Nat.lt_succ_iff_lt_or_eq.mp hf with hf | hf
      · have w1 := (e3 (h + 1 + 1 + f) (by omega)).1
        have w2 := (e3 (h + 7 + 1 + f) (by omega)).1
        have w3 := (e3 (h + 13) (by omega)).1
        simp (disch := omega) only [sR_s, sR_n, sL_s, sL_n, sR_2, sL_1, up_s, up_n, w1, w2, w3]
        exact ha.1 f hf
      · subst hf
        simp (disch := omega) only [sR_s, sR_n, sL_s, sL_n, sR_2, sL_1, up_s, up_n]
        exact ⟨e2, trivial⟩
    · exact (ha.2.tr (e3.mono (fun j hj => by unfold inH; omega))).tr (fr.setR (by unfold inH; omega))
  · rw [L_X2_beginAgain_2]
    simp (disch := omega) only [li0, li1, li2, li3, li4, li5, li6, li7, li8, li9, li10, li15, li31, li32, li40, li41, li49, li50, li99, li100, li999, c_le, c_lt, c_eq, c_tn, c_inb, c_add, if_true, if_false, ite_true, ite_false, ↓reduceIte, Nat.le_refl, Nat.lt_irrefl, Nat.reduceAdd, Nat.reduceLeDiff, Nat.reduceLT, Nat.reduceEqDiff, Bool.false_eq_true]
  · unfold f_X2_beginAgain
    rw [show (0 : Int32) = nI 0 from rfl, h2]
    rfl
/-! ### a row from which some go -/
theorem move_ok {r a b n va vb : Nat} {σ : Sg} (ha : a < 10) (hb : b < 10) (hab : a ≠ b) (hn : n < 1000) (hva : va < 1000) (hvb : vb < 1000) (h1 : σ.1 r a = nI va) (h2 : σ.1 r b = nI vb) (hle : n ≤ va) : ∃ σ', f_X2_move r (nI a) (nI b) (nI n) σ = some (1, σ') ∧ σ'.1 r = upd (upd (σ.1 r) a (nI (va - n))) b (nI (vb + n)) ∧ fr (fun j => j = r) σ σ' := by
  refine ⟨_, (by unfold f_X2_move; simp (disch := omega) only [li0, li1, li2, li3, li4, li5, li6, li7, li8, li9, li10, li15, li31, li32, li40, li41, li49, li50, li99, li100, li999, c_le, c_lt, c_eq, c_tn, c_inb, c_add, ha, hb, h1, h2, hle, jn, sR_s, up_n, c_sub, if_true, if_false, ite_true, ite_false, ↓reduceIte, Nat.le_refl, Nat.lt_irrefl, Nat.reduceAdd, Nat.reduceLeDiff, Nat.reduceLT, Nat.reduceEqDiff, Bool.false_eq_true]; rfl), ?_, ?_⟩
  · simp (disch := omega) only [sR_s, sR_n, sL_s, sL_n, sR_2, sL_1, up_s, up_n]
  · exact fr.tr (S := fun j => j = r) (fr.setR rfl) (fr.setR rfl)
theorem move_no {r a b n va : Nat} {σ : Sg} (ha : a < 10) (hn : n < 1000) (hva : va < 1000) (h1 : σ.1 r a = nI va) (hle : ¬ n ≤ va) : f_X2_move r (nI a) (nI b) (nI n) σ = some (0, σ) := by
  unfold f_X2_move
  simp (disch := omega) only [li0, li1, li2, li3, li4, li5, li6, li7, li8, li9, li10, li15, li31, li32, li40, li41, li49, li50, li99, li100, li999, c_le, c_lt, c_eq, c_tn, c_inb, c_add, ha, h1, hle, if_true, if_false, ite_true, ite_false, ↓reduceIte, Nat.le_refl, Nat.lt_irrefl, Nat.reduceAdd, Nat.reduceLeDiff, Nat.reduceLT, Nat.reduceEqDiff, Bool.false_eq_true]
