/-! LOWEST TERMS, NOBODY, RANKS -/
theorem lgz (x y : Int64) : (lg_cmp x y = nI 0) = (x = y) := by
  unfold lg_cmp
  by_cases h : x > y
  · rw [if_pos h]
    refine propext ⟨fun q => absurd q (by decide), fun q => ?_⟩
    subst q
    exact absurd (Int64.lt_iff_toInt_lt.mp h) (by omega)
  · rw [if_neg h]
    by_cases e : x = y
    · simp [e]; rfl
    · rw [if_neg e]
      exact propext ⟨fun q => absurd q (by decide), fun q => absurd q e⟩
theorem lgl (x y : Int64) : (lg_cmp x y ≤ nI 0) = (x ≤ y) := by
  unfold lg_cmp
  by_cases h : x > y
  · rw [if_pos h]
    have := Int64.lt_iff_toInt_lt.mp h
    refine propext ⟨fun q => absurd q (by decide), fun q => ?_⟩
    have := Int64.le_iff_toInt_le.mp q
    omega
  · rw [if_neg h]
    have h' : ¬ y.toInt < x.toInt := fun q => h (Int64.lt_iff_toInt_lt.mpr q)
    have hl : x ≤ y := Int64.le_iff_toInt_le.mpr (by omega)
    by_cases e : x = y
    · rw [if_pos e]
      exact propext ⟨fun _ => hl, fun _ => by decide⟩
    · rw [if_neg e]
      exact propext ⟨fun _ => hl, fun _ => by decide⟩
theorem lgg (x y : Int64) : (nI 0 < lg_cmp x y) = (y < x) := by
  unfold lg_cmp
  by_cases h : x > y
  · rw [if_pos h]
    exact propext ⟨fun _ => h, fun _ => by decide⟩
  · rw [if_neg h]
    by_cases e : x = y
    · rw [if_pos e]
      exact propext ⟨fun q => absurd q (by decide), fun q => absurd q h⟩
    · rw [if_neg e]
      exact propext ⟨fun q => absurd q (by decide), fun q => absurd q h⟩
theorem part9 (a b : Int64) (x : Int32) : ∀ m p q r, L_X7_part_9 a b x m p q r = L_X6_commonDivisor_9 m p q r
  | 0, _, _, _ => rfl
  | m + 1, p, q, r => by
    rw [L_X7_part_9, L_X6_commonDivisor_9, part9 a b x m]
theorem gcd_go : ∀ (j m : Nat) (p q : Int64) (k : Nat), k + j = 100 → j < m → ¬ p = 0 → ∃ g q' r', L_X6_commonDivisor_9 m p q (nI k) = some (g, q', r') ∧ ¬ g = 0
  | 0, m, p, q, k, hk, hm, hp => by
    obtain ⟨m', rfl⟩ : ∃ m', m = m' + 1 := ⟨m - 1, by omega⟩
    refine ⟨p, q, nI k, ?_, hp⟩
    rw [L_X6_commonDivisor_9]
    simp (disch := omega) only [li0, li1, li2, li3, li4, li5, li6, li7, li8, li9, li10, li15, li31, li32, li40, li41, li49, li50, li99, li100, li999, c_le, c_lt, c_eq, c_tn, c_inb, c_add, show 100 ≤ k by omega, if_true, if_false, ite_true, ite_false, ↓reduceIte, Nat.le_refl, Nat.lt_irrefl, Nat.reduceAdd, Nat.reduceLeDiff, Nat.reduceLT, Nat.reduceEqDiff, Bool.false_eq_true]
  | j + 1, m, p, q, k, hk, hm, hp => by
    obtain ⟨m', rfl⟩ : ∃ m', m = m' + 1 := ⟨m - 1, by omega⟩
    by_cases e : q = 0
    · refine ⟨p, q, nI k, ?_, hp⟩
      rw [L_X6_commonDivisor_9]
      simp (disch := omega) only [li0, li1, li2, li3, li4, li5, li6, li7, li8, li9, li10, li15, li31, li32, li40, li41, li49, li50, li99, li100, li999, c_le, c_lt, c_eq, c_tn, c_inb, c_add, show ¬ 100 ≤ k by omega, lgz, e, if_true, if_false, ite_true, ite_false, ↓reduceIte, Nat.le_refl, Nat.lt_irrefl, Nat.reduceAdd, Nat.reduceLeDiff, Nat.reduceLT, Nat.reduceEqDiff, Bool.false_eq_true]
    · obtain ⟨g, q', r', e1, e2⟩ := gcd_go j m' q (p - p / q * q) (k + 1) (by omega) (by omega) e
      refine ⟨g, q', r', ?_, e2⟩
      rw [L_X6_commonDivisor_9]
      simp (disch := omega) only [li0, li1, li2, li3, li4, li5, li6, li7, li8, li9, li10, li15, li31, li32, li40, li41, li49, li50, li99, li100, li999, c_le, c_lt, c_eq, c_tn, c_inb, c_add, show ¬ 100 ≤ k by omega, lgz, e, not_false_eq_true, e1, if_true, if_false, ite_true, ite_false, ↓reduceIte, Nat.le_refl, Nat.lt_irrefl, Nat.reduceAdd, Nat.reduceLeDiff, Nat.reduceLT, Nat.reduceEqDiff, Bool.false_eq_true]
theorem gcd_ok (p q : Int64) (hq : ¬ q = 0) : ∃ g q' r', L_X6_commonDivisor_9 FU p q 0 = some (g, q', r') ∧ ¬ g = 0 := by
  obtain ⟨g, q', r', e1, e2⟩ := gcd_go 99 3999 q (p - p / q * q) 1 (by omega) (by omega) hq
  refine ⟨g, q', r', ?_, e2⟩
  rw [show FU = 3999 + 1 from rfl, L_X6_commonDivisor_9]
  simp (disch := omega) only [li0, li1, li2, li3, li4, li5, li6, li7, li8, li9, li10, li15, li31, li32, li40, li41, li49, li50, li99, li100, li999, c_le, c_lt, c_eq, c_tn, c_inb, c_add, lgz, hq, not_false_eq_true, e1, if_true, if_false, ite_true, ite_false, ↓reduceIte, Nat.le_refl, Nat.lt_irrefl, Nat.reduceAdd, Nat.reduceLeDiff, Nat.reduceLT, Nat.reduceEqDiff, Bool.false_eq_true]
theorem frac_ok (p q : Int64) (hq : ¬ q = 0) (x : Int32) : ∃ v, (∀ σ, f_X6_inLowestTerms p q x σ = some v) ∧ ∀ σ, f_X7_part p q x σ = some v := by
  obtain ⟨g, q', r', e1, e2⟩ := gcd_ok p q hq
  refine ⟨(if x = 0 then p else q) / g, fun σ => ?_, fun σ => ?_⟩
  · unfold f_X6_inLowestTerms f_X6_commonDivisor
    rw [e1, Option.bind_some, Option.bind_some]
    have : ¬ lg_cmp g 0 = 0 := fun w => e2 ((lgz g 0).mp w)
    rw [if_neg this]
    show (if ¬ g = 0 then _ else _) = _
    rw [if_pos e2]
  · unfold f_X7_part
    rw [part9, e1, Option.bind_some]
    by_cases c : x = 0
    · rw [if_pos c, if_pos c, if_pos (show ¬ (g, q', r').1 = 0 from e2)]
    · rw [if_neg c, if_neg c, if_pos (show ¬ (g, q', r').1 = 0 from e2)]
theorem LO_ne {H : Hd} (hH : okH H) : ¬ Int64.ofInt (LO H) = 0 := by
  have := LO_pos hH
  exact ofI_ne0 this.1 (by omega)
def NBk (H : Hd) (f : Nat) (k : Nat) : Int := LO H - sumI (fun s => UP H s f) k
theorem nobC_ok {σ : Sg} {H : Hd} (h : stakOK σ H) {f : Nat} (hf : f < 5) : f_X4_upperOfNobody (nI f) σ = some (Int64.ofInt (NBk H f 5)) := by
  unfold f_X4_upperOfNobody
  rw [lower_ok h hf, Option.bind_some]
  have := run_FU (fun m k => L_X4_upperOfNobody_9 (nI f) σ m (Int64.ofInt (NBk H f k)) (nI k)) 5 (some (Int64.ofInt (NBk H f 5), nI 5)) (by decide) (fun k hk m => ?_) (fun m => ?_)
  · rw [show NBk H f 0 = LO H by simp only [NBk, sumI]; omega] at this
    rw [show L_X4_upperOfNobody_9 (nI f) σ FU (Int64.ofInt (LO H)) 0 = _ from this]
    rfl
  · show L_X4_upperOfNobody_9 _ _ _ _ _ = L_X4_upperOfNobody_9 _ _ _ _ _
    rw [L_X4_upperOfNobody_9, upper_ok h hf hk]
    simp (disch := omega) only [li0, li1, li2, li3, li4, li5, li6, li7, li8, li9, li10, li15, li31, li32, li40, li41, li49, li50, li99, li100, li999, c_le, c_lt, c_eq, c_tn, c_inb, c_add, show ¬ 5 ≤ k by omega, Option.bind_some, if_true, if_false, ite_true, ite_false, ↓reduceIte, Nat.le_refl, Nat.lt_irrefl, Nat.reduceAdd, Nat.reduceLeDiff, Nat.reduceLT, Nat.reduceEqDiff, Bool.false_eq_true]
    rw [← Int64.ofInt_sub, show NBk H f k - UP H k f = NBk H f (k + 1) by simp only [NBk, sumI]; omega]
  · show L_X4_upperOfNobody_9 _ _ _ _ _ = _
    rw [L_X4_upperOfNobody_9]
    simp (disch := omega) only [li0, li1, li2, li3, li4, li5, li6, li7, li8, li9, li10, li15, li31, li32, li40, li41, li49, li50, li99, li100, li999, c_le, c_lt, c_eq, c_tn, c_inb, c_add, if_true, if_false, ite_true, ite_false, ↓reduceIte, Nat.le_refl, Nat.lt_irrefl, Nat.reduceAdd, Nat.reduceLeDiff, Nat.reduceLT, Nat.reduceEqDiff, Bool.false_eq_true]
theorem nobM_ok {σ : Sg} {H : Hd} {f : Nat} (hf : f < 5) (x : Int32) (hM : repM σ H) (hH : okH H) : ∃ σ', L_X7_nobody_51 (nI f) x FU (Int64.ofInt (LO H) - Int64.ofInt (UP H 4 f)) 0 σ = some (Int64.ofInt (NBk H f 5), nI 4, σ') ∧ σ'.1 = σ.1 ∧ fr (fun j => j = 146) σ σ' := by
  have z0 : Int64.ofInt (LO H) - Int64.ofInt (UP H 4 f) = Int64.ofInt (NBk H f 0 - UP H 4 f) := by
    rw [← Int64.ofInt_sub, show NBk H f 0 = LO H by simp only [NBk, sumI]; omega]
  rw [z0]
  refine ex_use (loop_inv (fun m k (a : Int64 × Sg) => L_X7_nobody_51 (nI f) x m a.1 (nI k) a.2) (fun k a => a.1 = Int64.ofInt (NBk H f k - UP H 4 f) ∧ a.2.1 = σ.1 ∧ fr (fun j => j = 146) σ a.2) 4 (fun a => (a.1, nI 4, a.2)) (by decide) (fun k hk m a ha => ?_) (fun m a ha => ?_) (Int64.ofInt (NBk H f 0 - UP H 4 f), σ) ⟨rfl, rfl, fr.rf⟩) (fun a h1 h2 => ?_)
  · obtain ⟨v, a⟩ := a
    obtain ⟨i1, i2, i3⟩ := ha
    simp only at i1 i2 i3 ⊢
    subst i1
    obtain ⟨σ1, e1, e2, e3⟩ := upperM_ok (σ := a) hf (show k < 5 by omega) (H := H) (by unfold repM; rw [i2]; exact hM) hH
    rw [show hN k = k by unfold hN; rw [if_neg (by omega)]] at e1
    refine ⟨(Int64.ofInt (NBk H f (k + 1) - UP H 4 f), σ1), ?_, rfl, e2.trans i2, i3.tr e3⟩
    rw [L_X7_nobody_51, e1]
    simp (disch := omega) only [li0, li1, li2, li3, li4, li5, li6, li7, li8, li9, li10, li15, li31, li32, li40, li41, li49, li50, li99, li100, li999, c_le, c_lt, c_eq, c_tn, c_inb, c_add, show ¬ 4 ≤ k by omega, Option.bind_some, if_true, if_false, ite_true, ite_false, ↓reduceIte, Nat.le_refl, Nat.lt_irrefl, Nat.reduceAdd, Nat.reduceLeDiff, Nat.reduceLT, Nat.reduceEqDiff, Bool.false_eq_true]
    rw [← Int64.ofInt_sub, show NBk H f k - UP H 4 f - UP H k f = NBk H f (k + 1) - UP H 4 f by simp only [NBk, sumI]; omega]
  · rw [L_X7_nobody_51]
    simp (disch := omega) only [li0, li1, li2, li3, li4, li5, li6, li7, li8, li9, li10, li15, li31, li32, li40, li41, li49, li50, li99, li100, li999, c_le, c_lt, c_eq, c_tn, c_inb, c_add, if_true, if_false, ite_true, ite_false, ↓reduceIte, Nat.le_refl, Nat.lt_irrefl, Nat.reduceAdd, Nat.reduceLeDiff, Nat.reduceLT, Nat.reduceEqDiff, Bool.false_eq_true]
  · refine ⟨a.2, ?_, h1.2.1, h1.2.2⟩
    rw [show L_X7_nobody_51 (nI f) x FU (Int64.ofInt (NBk H f 0 - UP H 4 f)) 0 σ = _ from h2, h1.1, show NBk H f 4 - UP H 4 f = NBk H f 5 by simp only [NBk, sumI]; omega]
theorem uppM_ok {σ : Sg} {H : Hd} {f : Nat} (hf : f < 5) (hM : repM σ H) (hH : okH H) : ∃ σ', L_X7_layUppers_13 (nI f) FU 0 σ = some (nI 4, σ') ∧ (∀ s, s < 4 → σ'.2 147 s = Int64.ofInt (UP H s f)) ∧ σ'.1 = σ.1 ∧ fr (fun j => j = 146 ∨ j = 147) σ σ' := by
  refine ex_use (loop_inv (fun m k (a : Sg) => L_X7_layUppers_13 (nI f) m (nI k) a) (fun k a => (∀ s, s < k → a.2 147 s = Int64.ofInt (UP H s f)) ∧ a.1 = σ.1 ∧ fr (fun j => j = 146 ∨ j = 147) σ a) 4 (fun a => (nI 4, a)) (by decide) (fun k hk m a ha => ?_) (fun m a ha => ?_) σ ⟨fun s hs => absurd hs (by omega), rfl, fr.rf⟩) (fun a h1 h2 => ⟨a, h2, h1⟩)
  · obtain ⟨i1, i2, i3⟩ := ha
    obtain ⟨σ1, e1, e2, e3⟩ := upperM_ok (σ := a) hf (show k < 5 by omega) (H := H) (by unfold repM; rw [i2]; exact hM) hH
    rw [show hN k = k by unfold hN; rw [if_neg (by omega)]] at e1
    refine ⟨setL σ1 147 (vp_updL (σ1.2 147) k (Int64.ofInt (UP H k f))), ?_, fun s hs => ?_, e2.trans i2, fr.tr i3 (fr.tr (e3.mono (fun j hj => Or.inl hj)) (fr.setL (Or.inr rfl)))⟩
    · rw [L_X7_layUppers_13, e1]
      simp (disch := omega) only [li0, li1, li2, li3, li4, li5, li6, li7, li8, li9, li10, li15, li31, li32, li40, li41, li49, li50, li99, li100, li999, c_le, c_lt, c_eq, c_tn, c_inb, c_add, show ¬ 4 ≤ k by omega, hk, jn, Option.bind_some, if_true, if_false, ite_true, ite_false, ↓reduceIte, Nat.le_refl, Nat.lt_irrefl, Nat.reduceAdd, Nat.reduceLeDiff, Nat.reduceLT, Nat.reduceEqDiff, Bool.false_eq_true]
    · by_cases e : s = k
      · subst e; rw [sL_s, uL_s]
      · rw [sL_s, uL_n _ _ e, (e3 147 (by decide)).2]
        exact i1 s (by omega)
  · rw [L_X7_layUppers_13]
    simp (disch := omega) only [li0, li1, li2, li3, li4, li5, li6, li7, li8, li9, li10, li15, li31, li32, li40, li41, li49, li50, li99, li100, li999, c_le, c_lt, c_eq, c_tn, c_inb, c_add, if_true, if_false, ite_true, ite_false, ↓reduceIte, Nat.le_refl, Nat.lt_irrefl, Nat.reduceAdd, Nat.reduceLeDiff, Nat.reduceLT, Nat.reduceEqDiff, Bool.false_eq_true]
/-- the ranks -/
def dyU (u : Nat → Int64) (s : Nat) : Nat := (9223372036854775807 - (u s).toInt).toNat
theorem dyU_lt (u : Nat → Int64) (a b : Nat) : (dyU u a < dyU u b) = (u b < u a) := by
  unfold dyU
  have h1 := Int64.toInt_lt (u a)
  have h2 := Int64.toInt_lt (u b)
  rw [Int64.lt_iff_toInt_lt]
  exact propext ⟨fun h => by omega, fun h => by omega⟩
theorem dyU_eq (u : Nat → Int64) (a b : Nat) : (dyU u a = dyU u b) = (u a = u b) := by
  unfold dyU
  have h1 := Int64.toInt_lt (u a)
  have h2 := Int64.toInt_lt (u b)
  rw [← Int64.toInt_inj]
  exact propext ⟨fun h => by omega, fun h => by omega⟩
abbrev rkU (u : Nat → Int64) (s : Nat) : Nat := rk (dyU u) 4 s
def rkv (u : Nat → Int64) (s y : Nat) : Int32 := if u s < u y then 1 else if u y = u s then (if y < s then 1 else 0) else 0
theorem rk_add (u : Nat → Int64) (s k : Nat) : nI (cnt (fun e => lx (dyU u) e s) k) + rkv u s k = nI (cnt (fun e => lx (dyU u) e s) (k + 1)) := by
  have : rkv u s k = nI (if lx (dyU u) k s then 1 else 0) := by
    unfold rkv lx
    simp only [dyU_lt, dyU_eq]
    by_cases a : u s < u k
    · simp [a]; rfl
    · by_cases b : u k = u s
      · by_cases c : k < s
        · simp [b, c]; rfl
        · simp [b, c]; rfl
      · simp [a, b]; rfl
  rw [this, c_add]
  rfl
theorem rankM_ok {σ : Sg} {u : Nat → Int64} (hu : ∀ s, s < 4 → σ.2 147 s = u s) (x y : Int32) {s : Nat} (hs : s < 4) : L_X7_ranked_32 x y (nI s) σ FU 0 0 = some (nI (rkU u s), nI 4) := by
  refine run_FU (fun m k => L_X7_ranked_32 x y (nI s) σ m (nI (cnt (fun e => lx (dyU u) e s) k)) (nI k)) 4 _ (by decide) (fun k hk m => ?_) (fun m => ?_)
  · show L_X7_ranked_32 _ _ _ _ _ _ _ = L_X7_ranked_32 _ _ _ _ _ _ _
    rw [← rk_add, L_X7_ranked_32]
    unfold rkv
    by_cases a : u s < u k
    · simp (disch := omega) only [li0, li1, li2, li3, li4, li5, li6, li7, li8, li9, li10, li15, li31, li32, li40, li41, li49, li50, li99, li100, li999, c_le, c_lt, c_eq, c_tn, c_inb, c_add, show ¬ 4 ≤ k by omega, hk, hs, hu, lgg, lgz, a, Option.bind_some, if_true, if_false, ite_true, ite_false, ↓reduceIte, Nat.le_refl, Nat.lt_irrefl, Nat.reduceAdd, Nat.reduceLeDiff, Nat.reduceLT, Nat.reduceEqDiff, Bool.false_eq_true]
    · by_cases b : u k = u s
      · by_cases c : k < s
        · simp (disch := omega) only [li0, li1, li2, li3, li4, li5, li6, li7, li8, li9, li10, li15, li31, li32, li40, li41, li49, li50, li99, li100, li999, c_le, c_lt, c_eq, c_tn, c_inb, c_add, show ¬ 4 ≤ k by omega, hk, hs, hu, lgg, lgz, b, c, show ¬ s ≤ k by omega, Option.bind_some, Int64.lt_irrefl, if_true, if_false, ite_true, ite_false, ↓reduceIte, Nat.le_refl, Nat.lt_irrefl, Nat.reduceAdd, Nat.reduceLeDiff, Nat.reduceLT, Nat.reduceEqDiff, Bool.false_eq_true]
        · simp (disch := omega) only [li0, li1, li2, li3, li4, li5, li6, li7, li8, li9, li10, li15, li31, li32, li40, li41, li49, li50, li99, li100, li999, c_le, c_lt, c_eq, c_tn, c_inb, c_add, show ¬ 4 ≤ k by omega, hk, hs, hu, lgg, lgz, b, c, show s ≤ k by omega, Option.bind_some, Int64.lt_irrefl, if_true, if_false, ite_true, ite_false, ↓reduceIte, Nat.le_refl, Nat.lt_irrefl, Nat.reduceAdd, Nat.reduceLeDiff, Nat.reduceLT, Nat.reduceEqDiff, Bool.false_eq_true]
      · simp (disch := omega) only [li0, li1, li2, li3, li4, li5, li6, li7, li8, li9, li10, li15, li31, li32, li40, li41, li49, li50, li99, li100, li999, c_le, c_lt, c_eq, c_tn, c_inb, c_add, show ¬ 4 ≤ k by omega, hk, hs, hu, lgg, lgz, a, b, Option.bind_some, if_true, if_false, ite_true, ite_false, ↓reduceIte, Nat.le_refl, Nat.lt_irrefl, Nat.reduceAdd, Nat.reduceLeDiff, Nat.reduceLT, Nat.reduceEqDiff, Bool.false_eq_true]
  · show L_X7_ranked_32 _ _ _ _ _ _ _ = _
    rw [L_X7_ranked_32]
    simp (disch := omega) only [li0, li1, li2, li3, li4, li5, li6, li7, li8, li9, li10, li15, li31, li32, li40, li41, li49, li50, li99, li100, li999, c_le, c_lt, c_eq, c_tn, c_inb, c_add, if_true, if_false, ite_true, ite_false, ↓reduceIte, Nat.le_refl, Nat.lt_irrefl, Nat.reduceAdd, Nat.reduceLeDiff, Nat.reduceLT, Nat.reduceEqDiff, Bool.false_eq_true]
    rfl
theorem rank_ok {σ : Sg} {u : Nat → Int64} {f : Nat} (hu : ∀ s, s < 4 → f_X4_upper (nI f) (nI s) σ = some (u s)) {s : Nat} (hs : s < 4) : f_X4_rankOf (nI f) (nI s) σ = some (nI (rkU u s)) := by
  have := run_FU (fun m k => L_X4_rankOf_5 (nI f) (nI s) σ m (nI (cnt (fun e => lx (dyU u) e s) k)) (nI k)) 4 (some (nI (rkU u s), nI 4)) (by decide) (fun k hk m => ?_) (fun m => ?_)
  · unfold f_X4_rankOf
    rw [show L_X4_rankOf_5 (nI f) (nI s) σ FU 0 0 = _ from this]
    rfl
  · show L_X4_rankOf_5 _ _ _ _ _ _ = L_X4_rankOf_5 _ _ _ _ _ _
    rw [← rk_add, L_X4_rankOf_5]
    unfold rkv
    have a0 : f_X6_asNumber (nI 0) = nI 0 := rfl
    have a1 : f_X6_asNumber (nI 1) = nI 1 := rfl
    by_cases b : u k = u s
    · by_cases c : k < s
      · simp (disch := omega) only [li0, li1, li2, li3, li4, li5, li6, li7, li8, li9, li10, li15, li31, li32, li40, li41, li49, li50, li99, li100, li999, c_le, c_lt, c_eq, c_tn, c_inb, c_add, show ¬ 4 ≤ k by omega, hk, hs, hu, lgg, lgz, lgl, b, c, show ¬ s ≤ k by omega, Option.bind_some, Int64.lt_irrefl, jn, a1, Nat.one_ne_zero, if_true, if_false, ite_true, ite_false, ↓reduceIte, Nat.le_refl, Nat.lt_irrefl, Nat.reduceAdd, Nat.reduceLeDiff, Nat.reduceLT, Nat.reduceEqDiff, Bool.false_eq_true]
      · simp (disch := omega) only [li0, li1, li2, li3, li4, li5, li6, li7, li8, li9, li10, li15, li31, li32, li40, li41, li49, li50, li99, li100, li999, c_le, c_lt, c_eq, c_tn, c_inb, c_add, show ¬ 4 ≤ k by omega, hk, hs, hu, lgg, lgz, lgl, b, c, show s ≤ k by omega, Option.bind_some, Int64.lt_irrefl, jn, a0, Int64.le_refl, if_true, if_false, ite_true, ite_false, ↓reduceIte, Nat.le_refl, Nat.lt_irrefl, Nat.reduceAdd, Nat.reduceLeDiff, Nat.reduceLT, Nat.reduceEqDiff, Bool.false_eq_true]
    · by_cases a : u s < u k
      · have a' : ¬ u k ≤ u s := fun q => by
          have := Int64.lt_iff_toInt_lt.mp a
          have := Int64.le_iff_toInt_le.mp q
          omega
        simp (disch := omega) only [li0, li1, li2, li3, li4, li5, li6, li7, li8, li9, li10, li15, li31, li32, li40, li41, li49, li50, li99, li100, li999, c_le, c_lt, c_eq, c_tn, c_inb, c_add, show ¬ 4 ≤ k by omega, hk, hs, hu, lgg, lgz, lgl, a, a', b, Option.bind_some, jn, a1, if_true, if_false, ite_true, ite_false, ↓reduceIte, Nat.le_refl, Nat.lt_irrefl, Nat.reduceAdd, Nat.reduceLeDiff, Nat.reduceLT, Nat.reduceEqDiff, Bool.false_eq_true]
      · have a' : u k ≤ u s := by
          have h2 : ¬ (u s).toInt < (u k).toInt := fun q => a (Int64.lt_iff_toInt_lt.mpr q)
          exact Int64.le_iff_toInt_le.mpr (by omega)
        simp (disch := omega) only [li0, li1, li2, li3, li4, li5, li6, li7, li8, li9, li10, li15, li31, li32, li40, li41, li49, li50, li99, li100, li999, c_le, c_lt, c_eq, c_tn, c_inb, c_add, show ¬ 4 ≤ k by omega, hk, hs, hu, lgg, lgz, lgl, a, a', b, Option.bind_some, jn, a0, if_true, if_false, ite_true, ite_false, ↓reduceIte, Nat.le_refl, Nat.lt_irrefl, Nat.reduceAdd, Nat.reduceLeDiff, Nat.reduceLT, Nat.reduceEqDiff, Bool.false_eq_true]
  · show L_X4_rankOf_5 _ _ _ _ _ _ = _
    rw [L_X4_rankOf_5]
    simp (disch := omega) only [li0, li1, li2, li3, li4, li5, li6, li7, li8, li9, li10, li15, li31, li32, li40, li41, li49, li50, li99, li100, li999, c_le, c_lt, c_eq, c_tn, c_inb, c_add, if_true, if_false, ite_true, ite_false, ↓reduceIte, Nat.le_refl, Nat.lt_irrefl, Nat.reduceAdd, Nat.reduceLeDiff, Nat.reduceLT, Nat.reduceEqDiff, Bool.false_eq_true]
    rfl
def rkP (u : Nat → Int64) (x : Int32) (s : Nat) : Bool := decide (0 < u s) && decide (nI (rkU u s) = x)
theorem rkP_uniq {u : Nat → Int64} {x : Int32} {a b : Nat} (ha : a < 4) (hb : b < 4) (h1 : rkP u x a = true) (h2 : rkP u x b = true) : a = b := by
  simp only [rkP, Bool.and_eq_true, decide_eq_true_eq] at h1 h2
  have e := h1.2.trans h2.2.symm
  have b1 : rkU u a < 4 := rk_bd ha
  have b2 : rkU u b < 4 := rk_bd hb
  rw [c_eq (by omega) (by omega)] at e
  exact rk_inj ha hb e
def lastR (u : Nat → Int64) (x : Int32) : Nat → Int32
  | 0 => -6
  | k + 1 => if rkP u x k then nI k else lastR u x k
theorem lastR_none {u : Nat → Int64} {x : Int32} : ∀ k, k ≤ 4 → (∀ s, s < k → rkP u x s = false) → lastR u x k = -6
  | 0, _, _ => rfl
  | k + 1, hk, h => by
    rw [lastR, h k (by omega), if_neg (by decide)]
    exact lastR_none k (by omega) (fun s hs => h s (by omega))
theorem lastR_some {u : Nat → Int64} {x : Int32} {s : Nat} (h : rkP u x s = true) : ∀ k, k ≤ 4 → s < k → lastR u x k = nI s
  | 0, _, hs => absurd hs (by omega)
  | k + 1, hk, hs => by
    rw [lastR]
    by_cases e : s = k
    · subst e; rw [h, if_pos rfl]
    · have : rkP u x k = false := by
        cases q : rkP u x k with
        | false => rfl
        | true => exact absurd (rkP_uniq (show s < 4 by omega) (show k < 4 by omega) h q) e
      rw [this, if_neg (by decide)]
      exact lastR_some h k (by omega) (by omega)
theorem le_0_not (v : Int64) : (v ≤ 0) = ¬ (0 < v) := by
  rw [Int64.le_iff_toInt_le, Int64.lt_iff_toInt_lt]
  exact propext ⟨fun h => by omega, fun h => by omega⟩
theorem rankedM_ok {σ : Sg} {u : Nat → Int64} (hu : ∀ s, s < 4 → σ.2 147 s = u s) (x : Int32) : L_X7_ranked_20 x σ FU (-6) 0 = some (lastR u x 4, nI 4) := by
  refine run_FU (fun m k => L_X7_ranked_20 x σ m (lastR u x k) (nI k)) 4 _ (by decide) (fun k hk m => ?_) (fun m => ?_)
  · show L_X7_ranked_20 _ _ _ _ _ = L_X7_ranked_20 _ _ _ _ _
    rw [L_X7_ranked_20, rankM_ok hu x _ hk]
    have e : lastR u x (k + 1) = if rkP u x k then nI k else lastR u x k := rfl
    rw [e]
    unfold rkP
    by_cases a : nI (rkU u k) = x
    · by_cases b : 0 < u k
      · simp (disch := omega) only [li0, li1, li2, li3, li4, li5, li6, li7, li8, li9, li10, li15, li31, li32, li40, li41, li49, li50, li99, li100, li999, c_le, c_lt, c_eq, c_tn, c_inb, c_add, show ¬ 4 ≤ k by omega, hk, hu, lgl, le_0_not, a, b, Option.bind_some, decide_true, Bool.and_self, not_true_eq_false, if_true, if_false, ite_true, ite_false, ↓reduceIte, Nat.le_refl, Nat.lt_irrefl, Nat.reduceAdd, Nat.reduceLeDiff, Nat.reduceLT, Nat.reduceEqDiff, Bool.false_eq_true]
      · simp (disch := omega) only [li0, li1, li2, li3, li4, li5, li6, li7, li8, li9, li10, li15, li31, li32, li40, li41, li49, li50, li99, li100, li999, c_le, c_lt, c_eq, c_tn, c_inb, c_add, show ¬ 4 ≤ k by omega, hk, hu, lgl, le_0_not, a, b, Option.bind_some, decide_true, decide_false, Bool.false_and, not_false_eq_true, if_true, if_false, ite_true, ite_false, ↓reduceIte, Nat.le_refl, Nat.lt_irrefl, Nat.reduceAdd, Nat.reduceLeDiff, Nat.reduceLT, Nat.reduceEqDiff, Bool.false_eq_true]
    · simp (disch := omega) only [li0, li1, li2, li3, li4, li5, li6, li7, li8, li9, li10, li15, li31, li32, li40, li41, li49, li50, li99, li100, li999, c_le, c_lt, c_eq, c_tn, c_inb, c_add, show ¬ 4 ≤ k by omega, hk, a, Option.bind_some, decide_false, Bool.and_false, if_true, if_false, ite_true, ite_false, ↓reduceIte, Nat.le_refl, Nat.lt_irrefl, Nat.reduceAdd, Nat.reduceLeDiff, Nat.reduceLT, Nat.reduceEqDiff, Bool.false_eq_true]
  · show L_X7_ranked_20 _ _ _ _ _ = _
    rw [L_X7_ranked_20]
    simp (disch := omega) only [li0, li1, li2, li3, li4, li5, li6, li7, li8, li9, li10, li15, li31, li32, li40, li41, li49, li50, li99, li100, li999, c_le, c_lt, c_eq, c_tn, c_inb, c_add, if_true, if_false, ite_true, ite_false, ↓reduceIte, Nat.le_refl, Nat.lt_irrefl, Nat.reduceAdd, Nat.reduceLeDiff, Nat.reduceLT, Nat.reduceEqDiff, Bool.false_eq_true]
theorem rankedC_step {σ : Sg} {u : Nat → Int64} {f : Nat} (hu : ∀ s, s < 4 → f_X4_upper (nI f) (nI s) σ = some (u s)) (x : Int32) {k : Nat} (hk : k < 4) (m : Nat) : L_X6_ranked_15 (nI f) x σ (m + 1) (nI k) = if rkP u x k then some (.inl (nI k, σ)) else L_X6_ranked_15 (nI f) x σ m (nI (k + 1)) := by
  rw [L_X6_ranked_15]
  unfold rkP
  by_cases b : 0 < u k
  · by_cases a : nI (rkU u k) = x
    · simp (disch := omega) only [li0, li1, li2, li3, li4, li5, li6, li7, li8, li9, li10, li15, li31, li32, li40, li41, li49, li50, li99, li100, li999, c_le, c_lt, c_eq, c_tn, c_inb, c_add, show ¬ 4 ≤ k by omega, hk, hu, lgl, le_0_not, a, b, rank_ok hu hk, Option.bind_some, decide_true, Bool.and_self, not_true_eq_false, if_true, if_false, ite_true, ite_false, ↓reduceIte, Nat.le_refl, Nat.lt_irrefl, Nat.reduceAdd, Nat.reduceLeDiff, Nat.reduceLT, Nat.reduceEqDiff, Bool.false_eq_true]
    · simp (disch := omega) only [li0, li1, li2, li3, li4, li5, li6, li7, li8, li9, li10, li15, li31, li32, li40, li41, li49, li50, li99, li100, li999, c_le, c_lt, c_eq, c_tn, c_inb, c_add, show ¬ 4 ≤ k by omega, hk, hu, lgl, le_0_not, a, b, rank_ok hu hk, Option.bind_some, decide_true, decide_false, Bool.and_false, not_true_eq_false, if_true, if_false, ite_true, ite_false, ↓reduceIte, Nat.le_refl, Nat.lt_irrefl, Nat.reduceAdd, Nat.reduceLeDiff, Nat.reduceLT, Nat.reduceEqDiff, Bool.false_eq_true]
  · simp (disch := omega) only [li0, li1, li2, li3, li4, li5, li6, li7, li8, li9, li10, li15, li31, li32, li40, li41, li49, li50, li99, li100, li999, c_le, c_lt, c_eq, c_tn, c_inb, c_add, show ¬ 4 ≤ k by omega, hk, hu, lgl, le_0_not, b, Option.bind_some, decide_false, Bool.false_and, not_false_eq_true, if_true, if_false, ite_true, ite_false, ↓reduceIte, Nat.le_refl, Nat.lt_irrefl, Nat.reduceAdd, Nat.reduceLeDiff, Nat.reduceLT, Nat.reduceEqDiff, Bool.false_eq_true]
theorem rankedC_ok {σ : Sg} {u : Nat → Int64} {f : Nat} (hu : ∀ s, s < 4 → f_X4_upper (nI f) (nI s) σ = some (u s)) (x : Int32) : (L_X6_ranked_15 (nI f) x σ FU 0 = some (.inl (lastR u x 4, σ))) ∨ (L_X6_ranked_15 (nI f) x σ FU 0 = some (.inr (nI 4)) ∧ lastR u x 4 = -6) := by
  by_cases h : ∃ s, s < 4 ∧ rkP u x s = true
  · obtain ⟨s, hs, h1⟩ := h
    left
    rw [lastR_some h1 4 (by omega) hs]
    refine run_invFU (fun m k (_ : Unit) => L_X6_ranked_15 (nI f) x σ m (nI k)) (fun k _ => k ≤ s) 4 (fun o => o = some (.inl (nI s, σ))) (by decide) (fun k hk m a ha => ?_) (fun m a ha => absurd ha (by omega)) () (by omega)
    rw [rankedC_step hu x hk m]
    by_cases e : k = s
    · subst e
      right
      rw [h1, if_pos rfl]
    · left
      have : rkP u x k = false := by
        cases q : rkP u x k with
        | false => rfl
        | true => exact absurd (rkP_uniq hk hs q h1) e
      refine ⟨(), by omega, ?_⟩
      rw [this, if_neg (by decide)]
  · right
    have hn : ∀ s, s < 4 → rkP u x s = false := fun s hs => by
      cases q : rkP u x s with
      | false => rfl
      | true => exact absurd ⟨s, hs, q⟩ h
    refine ⟨run_FU (fun m k => L_X6_ranked_15 (nI f) x σ m (nI k)) 4 _ (by decide) (fun k hk m => ?_) (fun m => ?_), lastR_none 4 (by omega) hn⟩
    · rw [rankedC_step hu x hk m, hn k hk, if_neg (by decide)]
    · rw [L_X6_ranked_15]
      simp (disch := omega) only [li0, li1, li2, li3, li4, li5, li6, li7, li8, li9, li10, li15, li31, li32, li40, li41, li49, li50, li99, li100, li999, c_le, c_lt, c_eq, c_tn, c_inb, c_add, if_true, if_false, ite_true, ite_false, ↓reduceIte, Nat.le_refl, Nat.lt_irrefl, Nat.reduceAdd, Nat.reduceLeDiff, Nat.reduceLT, Nat.reduceEqDiff, Bool.false_eq_true]
