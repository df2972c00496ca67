/-! DEALS: one deal done, by the component and by the reference -/
abbrev Dl : Type := Nat × Nat × Nat × Nat × Nat × Nat
abbrev dDay (x : Dl) : Nat := x.1
abbrev dKind (x : Dl) : Nat := x.2.1
abbrev dFirm (x : Dl) : Nat := x.2.2.1
abbrev dFrom (x : Dl) : Nat := x.2.2.2.1
abbrev dTo (x : Dl) : Nat := x.2.2.2.2.1
abbrev dAmt (x : Dl) : Nat := x.2.2.2.2.2
def okD (x : Dl) : Prop := dDay x ≤ 999 ∧ dKind x < 4 ∧ dFirm x < 5 ∧ (dKind x < 2 → dFrom x < 10 ∧ dTo x < 10 ∧ dFrom x ≠ dTo x ∧ 1 ≤ dAmt x ∧ dAmt x ≤ 100) ∧ (2 ≤ dKind x → dFrom x = 0 ∧ dTo x < 9 ∧ dAmt x = 0)
def mvN (g : Nat → Nat → Nat) (f a b n : Nat) : Nat → Nat → Nat := fun f' k => if f' = f then (if k = b then g f b + n else if k = a then g f a - n else g f k) else g f' k
def veN (g : Nat → Nat → Bool) (f k0 : Nat) (v : Bool) : Nat → Nat → Bool := fun f' k => if f' = f then (if k = k0 then v else g f' k) else g f' k
def doD (x : Dl) (H : Hd) : Option Hd :=
  if dKind x = 0 then (if dAmt x ≤ H.1 (dFirm x) (dFrom x) then some (mvN H.1 (dFirm x) (dFrom x) (dTo x) (dAmt x), H.2.1, H.2.2) else none)
  else if dKind x = 1 then (if dAmt x ≤ H.2.1 (dFirm x) (dFrom x) then some (H.1, mvN H.2.1 (dFirm x) (dFrom x) (dTo x) (dAmt x), H.2.2) else none)
  else some (H.1, H.2.1, veN H.2.2 (dFirm x) (dTo x) (decide (dKind x = 2)))
def sumN (g : Nat → Nat) : Nat → Nat
  | 0 => 0
  | n + 1 => sumN g n + g n
theorem sumN_congr {g h : Nat → Nat} : ∀ {n : Nat}, (∀ k, k < n → g k = h k) → sumN g n = sumN h n
  | 0, _ => rfl
  | n + 1, e => by
    simp only [sumN]
    rw [sumN_congr (fun k hk => e k (by omega)), e n (by omega)]
theorem sumN_upd {g : Nat → Nat} {a v : Nat} : ∀ {n : Nat}, a < n → sumN (fun k => if k = a then v else g k) n + g a = sumN g n + v
  | 0, h => absurd h (by omega)
  | n + 1, h => by
    simp only [sumN]
    by_cases e : a = n
    · subst e
      rw [sumN_congr (h := g) (fun k hk => by simp [show ¬ k = a by omega])]
      simp
      omega
    · have := sumN_upd (g := g) (v := v) (show a < n by omega)
      simp only [show ¬ n = a by omega, if_false]
      omega
theorem sumN_le {g : Nat → Nat} : ∀ {n k : Nat}, k < n → g k ≤ sumN g n
  | 0, _, h => absurd h (by omega)
  | n + 1, k, h => by
    simp only [sumN]
    by_cases e : k = n
    · subst e; omega
    · have := sumN_le (g := g) (show k < n by omega)
      omega
def okH (H : Hd) : Prop := ∀ f, f < 5 → sumN (H.1 f) 10 = 100 ∧ sumN (H.2.1 f) 10 = 100 ∧ H.2.2 f 9 = false
theorem okH.sh {H : Hd} (h : okH H) {f k : Nat} (hf : f < 5) (hk : k < 10) : H.1 f k ≤ 100 := by
  have := sumN_le (g := H.1 f) hk
  rw [(h f hf).1] at this
  exact this
theorem okH.vo {H : Hd} (h : okH H) {f k : Nat} (hf : f < 5) (hk : k < 10) : H.2.1 f k ≤ 100 := by
  have := sumN_le (g := H.2.1 f) hk
  rw [(h f hf).2.1] at this
  exact this
theorem okH0 : okH H0 := fun f _ => ⟨rfl, rfl, rfl⟩
theorem mvN_sum {g : Nat → Nat → Nat} {f a b n : Nat} (ha : a < 10) (hb : b < 10) (hab : a ≠ b) (hle : n ≤ g f a) : sumN (mvN g f a b n f) 10 = sumN (g f) 10 := by
  have e1 := sumN_upd (g := g f) (v := g f a - n) ha
  have e2 := sumN_upd (g := fun k => if k = a then g f a - n else g f k) (v := g f b + n) hb
  have e3 : sumN (mvN g f a b n f) 10 = sumN (fun k => if k = b then g f b + n else if k = a then g f a - n else g f k) 10 := sumN_congr (fun k _ => by simp [mvN])
  rw [e3]
  simp only [show ¬ b = a by omega, if_false] at e2
  omega
theorem doD_ok {x : Dl} {H H' : Hd} (hx : okD x) (hH : okH H) (e : doD x H = some H') : okH H' := by
  unfold doD at e
  obtain ⟨h1, h2, h3, h4, h5⟩ := hx
  split at e
  · rename_i hk
    split at e
    · rename_i hle
      cases e
      intro f hf
      obtain ⟨a1, a2, a3, a4, a5⟩ := h4 (by omega)
      refine ⟨?_, (hH f hf).2.1, (hH f hf).2.2⟩
      by_cases ef : f = dFirm x
      · subst ef
        exact (mvN_sum a1 a2 a3 hle).trans (hH _ hf).1
      · exact (sumN_congr (fun k _ => by simp [mvN, ef])).trans (hH f hf).1
    · cases e
  · split at e
    · rename_i hk
      split at e
      · rename_i hle
        cases e
        intro f hf
        obtain ⟨a1, a2, a3, a4, a5⟩ := h4 (by omega)
        refine ⟨(hH f hf).1, ?_, (hH f hf).2.2⟩
        by_cases ef : f = dFirm x
        · subst ef
          exact (mvN_sum a1 a2 a3 hle).trans (hH _ hf).2.1
        · exact (sumN_congr (fun k _ => by simp [mvN, ef])).trans (hH f hf).2.1
      · cases e
    · cases e
      intro f hf
      obtain ⟨a1, a2, a3⟩ := h5 (by omega)
      refine ⟨(hH f hf).1, (hH f hf).2.1, ?_⟩
      simp only [veN, show ¬ 9 = dTo x by omega, if_false, (hH f hf).2.2, ite_self]
/-- a deal as the component's book has it, as the reference has it -/
def repD (b : Nat) (σ : Sg) (d : Nat) (x : Dl) : Prop := σ.1 (b + 1) d = nI (dDay x) ∧ σ.1 (b + 2) d = nI (dKind x) ∧ σ.1 (b + 3) d = nI (dFirm x) ∧ σ.1 (b + 4) d = (if dKind x < 2 then nI (dFrom x) else -6) ∧ σ.1 (b + 5) d = nI (dTo x) ∧ σ.1 (b + 6) d = nI (dAmt x)
def repDM (σ : Sg) (d : Nat) (x : Dl) : Prop := σ.1 133 d = nI (dDay x) ∧ σ.1 134 d = nI (dFirm x) ∧ σ.1 135 d = nI (dKind x) ∧ σ.1 136 d = nI (dFrom x) ∧ σ.1 137 d = nI (dTo x) ∧ σ.1 138 d = nI (dAmt x)
def repM (σ : Sg) (H : Hd) : Prop := ∀ f, f < 5 → ∀ k, k < 10 → σ.1 141 (5 * k + f) = nI (H.1 f k) ∧ σ.1 142 (5 * k + f) = nI (H.2.1 f k) ∧ σ.1 143 (5 * k + f) = b2i (H.2.2 f k)
theorem tb_or (m k j : Nat) : (m ||| (1 <<< k)).testBit j = (m.testBit j || decide (j = k)) := by
  rw [Nat.testBit_or, Nat.testBit_shiftLeft]
  by_cases h : k ≤ j
  · by_cases e : j = k
    · subst e; simp
    · have : 1 ≤ j - k := by omega
      simp [h, e, Nat.testBit_one_eq_true_iff_self_eq_zero, show ¬ j - k = 0 by omega]
  · simp [h, show ¬ j = k by omega]
theorem or_lt : ∀ s, s < 512 → ∀ f, f < 9 → s ||| (1 <<< f) < 512 := by decide +kernel
theorem andn_lt (s f : Nat) (h : s < 512) : s &&& (511 ^^^ (1 <<< f)) < 512 := Nat.lt_of_le_of_lt Nat.and_le_left h
theorem tb_511 : ∀ j, j < 9 → (511 : Nat).testBit j = true := by decide +kernel
theorem tb_andn (m k j : Nat) (hj : j < 9) : (m &&& (511 ^^^ (1 <<< k))).testBit j = (m.testBit j && !decide (j = k)) := by
  rw [Nat.testBit_and, Nat.testBit_xor, tb_511 j hj]
  have := tb_or 0 k j
  rw [Nat.zero_or] at this
  rw [this]
  by_cases e : j = k <;> simp [e]
theorem carry_some {b h d : Nat} {σ : Sg} {x : Dl} {H H' : Hd} (hd : d < 41) (hb : repD b σ d x) (hx : okD x) (hr : repC h σ H) (hH : okH H) (e : doD x H = some H') : ∃ σ', f_X2_carryOut h b (nI d) σ = some (1, σ') ∧ repC h σ' H' ∧ fr (inH h) σ σ' := by
  obtain ⟨b1, b2, b3, b4, b5, b6⟩ := hb
  obtain ⟨h1, h2, h3, h4, h5⟩ := hx
  unfold doD at e
  unfold f_X2_carryOut
  split at e
  · rename_i hk
    split at e
    · rename_i hle
      cases e
      obtain ⟨a1, a2, a3, a4, a5⟩ := h4 (by omega)
      have s1 := hH.sh h3 a1
      have s2 := hH.sh h3 a2
      obtain ⟨σ1, e1, e2, e3⟩ := move_ok (r := h + 1 + 1 + dFirm x) (σ := σ) a1 a2 a3 (show dAmt x < 1000 by omega) (by omega) (by omega) (hr.1 _ h3 _ a1).1 (hr.1 _ h3 _ a2).1 hle
      refine ⟨σ1, ?_, ⟨fun f hf k hk' => ?_, fun f hf => ?_⟩, e3.mono (fun j hj => by unfold inH; omega)⟩
      · rw [if_pos (show dKind x < 2 by omega)] at b4
        simp (disch := omega) only [li0, li1, li2, li3, li4, li5, li6, li7, li8, li9, li10, li15, li31, li32, li40, li41, li49, li50, li99, li100, li999, c_le, c_lt, c_eq, c_tn, c_inb, c_add, hd, b2, b3, b4, b5, b6, hk, h3, e1, Option.bind_some, if_true, if_false, ite_true, ite_false, ↓reduceIte, Nat.le_refl, Nat.lt_irrefl, Nat.reduceAdd, Nat.reduceLeDiff, Nat.reduceLT, Nat.reduceEqDiff, Bool.false_eq_true]
      · have w2 := (e3 (h + 7 + 1 + f) (by omega)).1
        rw [w2]
        refine ⟨?_, (hr.1 f hf k hk').2⟩
        by_cases ef : f = dFirm x
        · subst ef
          rw [e2]
          by_cases e4 : k = dTo x
          · subst e4; rw [up_s]; simp [mvN]
          · rw [up_n _ _ e4]
            by_cases e5 : k = dFrom x
            · subst e5; rw [up_s]; simp [mvN, e4]
            · rw [up_n _ _ e5, (hr.1 _ h3 _ hk').1]; simp [mvN, e4, e5]
        · rw [(e3 (h + 1 + 1 + f) (by omega)).1, (hr.1 f hf k hk').1]; simp [mvN, ef]
      · rw [(e3 (h + 13) (by omega)).1]
        exact hr.2 f hf
    · cases e
  · rename_i hk0
    split at e
    · rename_i hk
      split at e
      · rename_i hle
        cases e
        obtain ⟨a1, a2, a3, a4, a5⟩ := h4 (by omega)
        have s1 := hH.vo h3 a1
        have s2 := hH.vo h3 a2
        obtain ⟨σ1, e1, e2, e3⟩ := move_ok (r := h + 7 + 1 + dFirm x) (σ := σ) a1 a2 a3 (show dAmt x < 1000 by omega) (by omega) (by omega) (hr.1 _ h3 _ a1).2 (hr.1 _ h3 _ a2).2 hle
        refine ⟨σ1, ?_, ⟨fun f hf k hk' => ?_, fun f hf => ?_⟩, e3.mono (fun j hj => by unfold inH; omega)⟩
        · rw [if_pos (show dKind x < 2 by omega)] at b4
          simp (disch := omega) only [li0, li1, li2, li3, li4, li5, li6, li7, li8, li9, li10, li15, li31, li32, li40, li41, li49, li50, li99, li100, li999, c_le, c_lt, c_eq, c_tn, c_inb, c_add, hd, b2, b3, b4, b5, b6, hk, h3, e1, Option.bind_some, Nat.succ_ne_zero, Nat.one_ne_zero, if_true, if_false, ite_true, ite_false, ↓reduceIte, Nat.le_refl, Nat.lt_irrefl, Nat.reduceAdd, Nat.reduceLeDiff, Nat.reduceLT, Nat.reduceEqDiff, Bool.false_eq_true]
        · have w2 := (e3 (h + 1 + 1 + f) (by omega)).1
          rw [w2]
          refine ⟨(hr.1 f hf k hk').1, ?_⟩
          by_cases ef : f = dFirm x
          · subst ef
            rw [e2]
            by_cases e4 : k = dTo x
            · subst e4; rw [up_s]; simp [mvN]
            · rw [up_n _ _ e4]
              by_cases e5 : k = dFrom x
              · subst e5; rw [up_s]; simp [mvN, e4]
              · rw [up_n _ _ e5, (hr.1 _ h3 _ hk').2]; simp [mvN, e4, e5]
          · rw [(e3 (h + 7 + 1 + f) (by omega)).1, (hr.1 f hf k hk').2]; simp [mvN, ef]
        · rw [(e3 (h + 13) (by omega)).1]
          exact hr.2 f hf
      · cases e
    · rename_i hk1
      cases e
      obtain ⟨a1, a2, a3⟩ := h5 (by omega)
      obtain ⟨mk, m1, m2, m3⟩ := hr.2 _ h3
      by_cases hk2 : dKind x = 2
      · refine ⟨_, (by simp (disch := omega) only [li0, li1, li2, li3, li4, li5, li6, li7, li8, li9, li10, li15, li31, li32, li40, li41, li49, li50, li99, li100, li999, c_le, c_lt, c_eq, c_tn, c_inb, c_add, hd, b2, b3, b5, hk2, h3, jn, m2, show ¬ 2 = 0 by decide, show ¬ 2 = 1 by decide, if_true, if_false, ite_true, ite_false, ↓reduceIte, Nat.le_refl, Nat.lt_irrefl, Nat.reduceAdd, Nat.reduceLeDiff, Nat.reduceLT, Nat.reduceEqDiff, Bool.false_eq_true]; rfl), ⟨fun f hf k hk' => ?_, fun f hf => ?_⟩, fr.setR (by unfold inH; omega)⟩
        · simp (disch := omega) only [sR_s, sR_n, sL_s, sL_n, sR_2, sL_1, up_s, up_n]
          exact hr.1 f hf k hk'
        · rw [sR_s]
          by_cases ef : f = dFirm x
          · subst ef
            refine ⟨_, or_lt _ m1 _ a2, (up_s _ _ _).trans (or_ok _ m1 _ a2), fun k hk' => ?_⟩
            rw [tb_or, m3 k hk']
            by_cases e4 : k = dTo x <;> simp [veN, e4, hk2]
          · rw [up_n _ _ ef]
            obtain ⟨mk2, n1, n2, n3⟩ := hr.2 f hf
            exact ⟨mk2, n1, n2, fun k hk' => by rw [n3 k hk']; simp [veN, ef]⟩
      · refine ⟨_, (by simp (disch := omega) only [li0, li1, li2, li3, li4, li5, li6, li7, li8, li9, li10, li15, li31, li32, li40, li41, li49, li50, li99, li100, li999, c_le, c_lt, c_eq, c_tn, c_inb, c_add, hd, b2, b3, b5, hk2, hk0, hk1, h3, jn, m2, if_true, if_false, ite_true, ite_false, ↓reduceIte, Nat.le_refl, Nat.lt_irrefl, Nat.reduceAdd, Nat.reduceLeDiff, Nat.reduceLT, Nat.reduceEqDiff, Bool.false_eq_true]; rfl), ⟨fun f hf k hk' => ?_, fun f hf => ?_⟩, fr.setR (by unfold inH; omega)⟩
        · simp (disch := omega) only [sR_s, sR_n, sL_s, sL_n, sR_2, sL_1, up_s, up_n]
          exact hr.1 f hf k hk'
        · rw [sR_s]
          by_cases ef : f = dFirm x
          · subst ef
            refine ⟨_, andn_lt _ _ m1, (up_s _ _ _).trans (andn_ok _ m1 _ a2), fun k hk' => ?_⟩
            rw [tb_andn _ _ _ hk', m3 k hk']
            by_cases e4 : k = dTo x <;> simp [veN, e4, hk2]
          · rw [up_n _ _ ef]
            obtain ⟨mk2, n1, n2, n3⟩ := hr.2 f hf
            exact ⟨mk2, n1, n2, fun k hk' => by rw [n3 k hk']; simp [veN, ef]⟩
theorem carry_none {b h d : Nat} {σ : Sg} {x : Dl} {H : Hd} (hd : d < 41) (hb : repD b σ d x) (hx : okD x) (hr : repC h σ H) (hH : okH H) (e : doD x H = none) : f_X2_carryOut h b (nI d) σ = some (0, σ) := by
  obtain ⟨b1, b2, b3, b4, b5, b6⟩ := hb
  obtain ⟨h1, h2, h3, h4, h5⟩ := hx
  unfold doD at e
  unfold f_X2_carryOut
  split at e
  · rename_i hk
    split at e
    · cases e
    · rename_i hle
      obtain ⟨a1, a2, a3, a4, a5⟩ := h4 (by omega)
      have s1 := hH.sh h3 a1
      have e1 := move_no (b := dTo x) (σ := σ) a1 (show dAmt x < 1000 by omega) (by omega) (hr.1 _ h3 _ a1).1 hle
      rw [if_pos (show dKind x < 2 by omega)] at b4
      simp (disch := omega) only [li0, li1, li2, li3, li4, li5, li6, li7, li8, li9, li10, li15, li31, li32, li40, li41, li49, li50, li99, li100, li999, c_le, c_lt, c_eq, c_tn, c_inb, c_add, hd, b2, b3, b4, b5, b6, hk, h3, e1, Option.bind_some, if_true, if_false, ite_true, ite_false, ↓reduceIte, Nat.le_refl, Nat.lt_irrefl, Nat.reduceAdd, Nat.reduceLeDiff, Nat.reduceLT, Nat.reduceEqDiff, Bool.false_eq_true]
  · split at e
    · rename_i hk0 hk
      split at e
      · cases e
      · rename_i hle
        obtain ⟨a1, a2, a3, a4, a5⟩ := h4 (by omega)
        have s1 := hH.vo h3 a1
        have e1 := move_no (b := dTo x) (σ := σ) a1 (show dAmt x < 1000 by omega) (by omega) (hr.1 _ h3 _ a1).2 hle
        rw [if_pos (show dKind x < 2 by omega)] at b4
        simp (disch := omega) only [li0, li1, li2, li3, li4, li5, li6, li7, li8, li9, li10, li15, li31, li32, li40, li41, li49, li50, li99, li100, li999, c_le, c_lt, c_eq, c_tn, c_inb, c_add, hd, b2, b3, b4, b5, b6, hk, h3, e1, Option.bind_some, Nat.one_ne_zero, if_true, if_false, ite_true, ite_false, ↓reduceIte, Nat.le_refl, Nat.lt_irrefl, Nat.reduceAdd, Nat.reduceLeDiff, Nat.reduceLT, Nat.reduceEqDiff, Bool.false_eq_true]
    · cases e
