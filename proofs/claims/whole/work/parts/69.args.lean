/-! ARGUMENTS, AND WHAT A QUESTION LEAVES AS IT WAS -/
theorem asN {x : Int32} (h : 0 ≤ x.toInt) : x = nI x.toInt.toNat := by
  have hb := Int32.toInt_lt x
  apply Int32.toInt_inj.mp
  rw [c_ti (by omega)]
  omega
theorem in_0 {x : Int32} {k : Nat} (hk : k < 2000) : (f_X7_in x 0 (nI k) = 0) ∨ (f_X7_in x 0 (nI k) = 1 ∧ ∃ m, m ≤ k ∧ x = nI m) := by
  unfold f_X7_in
  by_cases c1 : x < 0
  · left; rw [if_pos c1]
  · by_cases c2 : nI k < x
    · left; rw [if_neg c1, if_pos c2]
    · right
      refine ⟨by rw [if_neg c1, if_neg c2], x.toInt.toNat, ?_, ?_⟩
      · rw [Int32.lt_iff_toInt_lt, c_ti (by omega)] at c2
        omega
      · refine asN ?_
        rw [Int32.lt_iff_toInt_lt] at c1
        have : (0 : Int32).toInt = 0 := rfl
        omega
theorem lt_li (x : Int32) {k : Nat} (hk : k < 2000) : (nI (k + 1) ≤ x) = (nI k < x) := by
  rw [Int32.le_iff_toInt_le, Int32.lt_iff_toInt_lt, c_ti (by omega), c_ti (by omega)]
  exact propext ⟨fun h => by omega, fun h => by omega⟩
theorem is_in {x : Int32} {k : Nat} (hk : k < 2000) : (if x < 0 then (0 : Int32) else if nI (k + 1) ≤ x then 0 else 1) = f_X7_in x 0 (nI k) := by
  unfold f_X7_in
  simp only [lt_li x hk]
theorem isFirm_in (x : Int32) : f_X6_isFirm x = f_X7_in x 0 (nI 4) := is_in (k := 4) (by omega)
theorem isHolder_in (x : Int32) : f_X6_isHolder x = f_X7_in x 0 (nI 9) := is_in (k := 9) (by omega)
theorem isCtl_in (x : Int32) : f_X6_isController x = f_X7_in x 0 (nI 8) := is_in (k := 8) (by omega)
theorem isPers_in (x : Int32) : f_X6_isPerson x = f_X7_in x 0 (nI 3) := is_in (k := 3) (by omega)
theorem isDay_in (x : Int32) : f_X6_isDay x = f_X7_in x 0 (nI 999) := rfl
theorem in_z {x : Int32} {k : Nat} (hk : k < 2000) {m : Nat} (hm : m ≤ k) (h : x = nI m) : f_X7_in x 0 (nI k) = 1 := by
  subst h
  unfold f_X7_in
  rw [if_neg, if_neg]
  · rw [c_lt (by omega) (by omega)]; omega
  · rw [li0, c_lt (by omega) (by omega)]; omega
theorem isYN_in (x : Int32) : f_X6_isYesOrNo x = f_X7_in x 0 (nI 1) := by
  rcases in_0 (x := x) (k := 1) (by omega) with h | ⟨h, m, hm, rfl⟩
  · rw [h]
    unfold f_X6_isYesOrNo
    rw [if_neg, if_neg]
    · intro q
      rw [in_z (k := 1) (by omega) (m := 1) (by omega) q] at h
      exact absurd h (by decide)
    · intro q
      rw [in_z (k := 1) (by omega) (m := 0) (by omega) q] at h
      exact absurd h (by decide)
  · rw [h]
    rcases (show m = 0 ∨ m = 1 by omega) with rfl | rfl <;> rfl
def repMB (σ : Sg) (B : Bk) : Prop := repMd σ (bN B) (bD B) ∧ σ.1 132 7 = nI (bL B) ∧ σ.1 139 0 = nI (bH B) ∧ σ.1 139 1 = nI (bM B) ∧ σ.1 139 2 = nI (bW B)
def inKC (j : Nat) : Prop := j = 0 ∨ (25 < j ∧ j ≤ 87)
def inKM (j : Nat) : Prop := j = 132 ∨ (139 < j ∧ j < 149)
def kpC (σ σ' : Sg) : Prop := fr inKC σ σ' ∧ ∀ y, y ≠ 8 → σ'.1 0 y = σ.1 0 y
def kpM (σ σ' : Sg) : Prop := fr inKM σ σ' ∧ ∀ y, y < 14 → σ'.1 132 y = σ.1 132 y
theorem kpC.rf {σ : Sg} : kpC σ σ := ⟨fr.rf, fun _ _ => rfl⟩
theorem kpM.rf {σ : Sg} : kpM σ σ := ⟨fr.rf, fun _ _ => rfl⟩
theorem kpC.tr {a b c : Sg} (h1 : kpC a b) (h2 : kpC b c) : kpC a c := ⟨h1.1.tr h2.1, fun y hy => (h2.2 y hy).trans (h1.2 y hy)⟩
theorem kpM.tr {a b c : Sg} (h1 : kpM a b) (h2 : kpM b c) : kpM a c := ⟨h1.1.tr h2.1, fun y hy => (h2.2 y hy).trans (h1.2 y hy)⟩
theorem repMd.kp {σ σ' : Sg} {n : Nat} {ds : Nat → Dl} (h : repMd σ n ds) (k : ∀ j, 133 ≤ j → j ≤ 138 → σ'.1 j = σ.1 j) (k6 : σ'.1 132 6 = σ.1 132 6) : repMd σ' n ds := by
  refine ⟨by rw [k6]; exact h.1, fun d hd => ?_⟩
  unfold repDM
  rw [k 133 (by omega) (by omega), k 134 (by omega) (by omega), k 135 (by omega) (by omega), k 136 (by omega) (by omega), k 137 (by omega) (by omega), k 138 (by omega) (by omega)]
  exact h.2 d hd
theorem repMB.kp {σ σ' : Sg} {B : Bk} (h : repMB σ B) (k : kpM σ σ') : repMB σ' B := by
  obtain ⟨h1, h2, h3, h4, h5⟩ := h
  have w : ∀ j, 133 ≤ j → j ≤ 139 → σ'.1 j = σ.1 j := fun j a b => (k.1 j (by unfold inKM; omega)).1
  refine ⟨h1.kp (fun j a b => w j a (by omega)) (k.2 6 (by omega)), by rw [k.2 7 (by omega)]; exact h2, ?_, ?_, ?_⟩ <;> rw [w 139 (by omega) (by omega)]
  · exact h3
  · exact h4
  · exact h5
theorem repMB.kc {σ σ' : Sg} {B : Bk} (h : repMB σ B) (k : kpC σ σ') : repMB σ' B := by
  have w : ∀ j, 132 ≤ j → σ'.1 j = σ.1 j := fun j a => (k.1 j (by unfold inKC; omega)).1
  obtain ⟨h1, h2, h3, h4, h5⟩ := h
  refine ⟨h1.kept (fun j a _ => w j a), by rw [w 132 (by omega)]; exact h2, ?_, ?_, ?_⟩ <;> rw [w 139 (by omega)]
  · exact h3
  · exact h4
  · exact h5
theorem upOK.kp {σ σ' : Sg} {B : Bk} {H : Hd} (h : upOK σ B H) (k : ∀ j, 25 < j → j ≤ 87 → ¬ (38 < j ∧ j < 54) → ¬ (65 < j ∧ j < 79) → σ'.1 j = σ.1 j ∧ σ'.2 j = σ.2 j) : upOK σ' B H := by
  obtain ⟨h1, h2, h3, h4⟩ := h
  refine ⟨h1.kept (fun j a b => (k j (by omega) (by omega) (by omega) (by omega)).1), fun x hx => ?_, ⟨?_, fun f hf c hc => ?_⟩, fun g hg => ?_⟩
  · have := h2 x hx
    unfold rowOK at this ⊢
    rw [(k (53 + 1) (by omega) (by omega) (by omega) (by omega)).1, (k (53 + 12) (by omega) (by omega) (by omega) (by omega)).1, (k (53 + 2 + 1 + x) (by omega) (by omega) (by omega) (by omega)).1]
    exact this
  · rw [(k 79 (by omega) (by omega) (by omega) (by omega)).1]; exact h3.1
  · rw [(k (80 + 1 + f) (by omega) (by omega) (by omega) (by omega)).2]; exact h3.2 f hf c hc
  · rw [(k 87 (by omega) (by omega) (by omega) (by omega)).1]; exact h4 g hg
theorem cacheOK.kp {σ σ' : Sg} {B : Bk} (h : cacheOK σ B) (k : kpM σ σ') : cacheOK σ' B := by
  have w : ∀ j, j ≤ 131 → σ'.1 j = σ.1 j ∧ σ'.2 j = σ.2 j := fun j a => k.1 j (by unfold inKM; omega)
  unfold cacheOK
  rw [(w 0 (by omega)).1]
  rcases h with h | ⟨h, H, g1, g2⟩
  · exact Or.inl h
  · exact Or.inr ⟨h, H, g1, g2.kp (fun j _ _ _ _ => w j (by omega))⟩
theorem bringQ {B : Bk} {σ : Sg} (hB : okB B) (hr : repB 1 σ B) (hc : cacheOK σ B) : ∃ σ' H, f_X6_bringUpToDate σ = some σ' ∧ holdB B (bL B) H ∧ upOK σ' B H ∧ kpC σ σ' ∧ cacheOK σ' B ∧ repB 1 σ' B := by
  obtain ⟨σ', H, e1, e2, e3, e4, e5, e6⟩ := bring_ok hB hr hc
  exact ⟨σ', H, e1, e2, e3, ⟨e6.mono (fun j hj => by unfold inUp at hj; unfold inKC; omega), e5⟩, Or.inr ⟨e4, H, e2, e3⟩, hr.kept (fun j a b => (e6 j (by unfold inUp; omega)).1)⟩
theorem layQ {B : Bk} {σ : Sg} {L : Nat} {H : Hd} (hB : okB B) (hL : L < 2000) (hr : repMB σ B) (hH : holdB B L H) : ∃ σ', f_X7_lay (nI L) (-6) σ = some (1, σ') ∧ repR σ' H (bH B) (bM B) ∧ repMB σ' B ∧ kpM σ σ' := by
  obtain ⟨σ', e1, e2, e3⟩ := layL_ok hB hL hr.1 hH
  have k : kpM σ σ' := ⟨e3.mono (fun j hj => by unfold inO at hj; unfold inKM; omega), fun y _ => by rw [(e3 132 (by unfold inO; omega)).1]⟩
  have r := hr.kp k
  exact ⟨σ', e1, ⟨e2, r.2.2.1, r.2.2.2.1⟩, r, k⟩
theorem kpM.off {σ σ' : Sg} (h : offR σ σ') : kpM σ σ' := ⟨h.1.mono (fun j hj => by unfold inKM; omega), fun y hy => h.2 y (by omega)⟩
theorem kpM.of {σ σ' : Sg} {S : Nat → Prop} (h : fr S σ σ') (hs : ∀ j, S j → 139 < j ∧ j < 149) : kpM σ σ' := ⟨h.mono (fun j hj => Or.inr (hs j hj)), fun y _ => by rw [(h 132 (fun q => absurd (hs 132 q) (by omega))).1]⟩
