/-! UNLIKE DAYS: the places at which a day begins -/
def dp (ds : Nat → Dl) (o : Nat → Nat) (k : Nat) : Nat := dDay (ds (o k))
def enD (ds : Nat → Dl) (n : Nat) (o : Nat → Nat) (c : Nat) : Nat := if c < n then dnN ds n (dp ds o c) else c
def bs (ds : Nat → Dl) (n : Nat) (o : Nat → Nat) : Nat → Nat
  | 0 => 0
  | t + 1 => enD ds n o (bs ds n o t)
def nx (ds : Nat → Dl) (n : Nat) (o : Nat → Nat) (c : Nat) : Int32 := if c < n then nI (dp ds o c) else -6
section
variable {ds : Nat → Dl} {n : Nat} {o : Nat → Nat}
theorem dp_mono (ho : ordOK (days ds) n o) {i j : Nat} (hij : i ≤ j) (hj : j < n) : dp ds o i ≤ dp ds o j := by
  by_cases e : i = j
  · subst e; exact Nat.le_refl _
  · have := ord_mono ho (show i < j by omega) hj
    rw [lx_iff] at this
    show dDay (ds (o i)) ≤ dDay (ds (o j))
    rcases this with h | h
    · exact Nat.le_of_lt h
    · exact Nat.le_of_eq h.1
theorem en_eq {c : Nat} (hc : c < n) : enD ds n o c = dnN ds n (dp ds o c) := if_pos hc
theorem en_gt (ho : ordOK (days ds) n o) {c : Nat} (hc : c < n) : c < enD ds n o c := by
  rw [en_eq hc]
  exact (dn_iff ho hc).mpr (Nat.le_refl _)
theorem en_le {c : Nat} (hc : c ≤ n) : enD ds n o c ≤ n := by
  unfold enD
  split
  · exact cnt_le
  · exact hc
theorem en_dp (ho : ordOK (days ds) n o) {c p : Nat} (hcn : c < n) (hc : c ≤ p) (hp : p < enD ds n o c) : p < n ∧ dp ds o p = dp ds o c := by
  have h1 := en_le (ds := ds) (o := o) (Nat.le_of_lt hcn)
  have hpn : p < n := by omega
  refine ⟨hpn, ?_⟩
  rw [en_eq hcn] at hp
  have a := (dn_iff ho hpn).mp hp
  have b := dp_mono ho hc hpn
  exact Nat.le_antisymm a b
theorem en_out (ho : ordOK (days ds) n o) {c p : Nat} (hcn : c < n) (hp : p < n) (h : ¬ p < enD ds n o c) : dp ds o c < dp ds o p := by
  rw [en_eq hcn] at h
  apply Nat.lt_of_not_le
  intro q
  exact h ((dn_iff ho hp).mpr q)
theorem bs_le : ∀ t, bs ds n o t ≤ n
  | 0 => Nat.zero_le _
  | t + 1 => en_le (bs_le t)
theorem bs_stop {t : Nat} (h : bs ds n o t = n) : ∀ j, bs ds n o (t + j) = n
  | 0 => h
  | j + 1 => by
    show enD ds n o (bs ds n o (t + j)) = n
    rw [bs_stop h j]
    unfold enD
    rw [if_neg (Nat.lt_irrefl n)]
theorem bs_stop2 {t i : Nat} (h : bs ds n o t = n) (hi : t ≤ i) : bs ds n o i = n := by
  have := bs_stop h (i - t)
  rw [show t + (i - t) = i by omega] at this
  exact this
theorem bs_gt (ho : ordOK (days ds) n o) : ∀ t, t ≤ bs ds n o t ∨ bs ds n o t = n
  | 0 => Or.inl (Nat.le_refl _)
  | t + 1 => by
    by_cases c : bs ds n o t < n
    · rcases bs_gt ho t with h | h
      · left
        have := en_gt ho c
        show t + 1 ≤ enD ds n o (bs ds n o t)
        omega
      · omega
    · right
      have := bs_le (ds := ds) (n := n) (o := o) t
      exact bs_stop (show bs ds n o t = n by omega) 1
theorem bs_lt (ho : ordOK (days ds) n o) {t : Nat} (h : bs ds n o t < n) : t < n := by
  rcases bs_gt ho t with g | g <;> omega
theorem last_ok {b p c : Nat} {σ : Sg} (hn : n ≤ 40) (hr : repBd b σ n ds o) (hd : ∀ d, d < n → okD (ds d)) (ho : ordOK (days ds) n o) (hcn : c < n) (hc : c ≤ p) (hp : p < enD ds n o c) : f_X0_isLastOfItsDay b (nI p) σ = some (if p + 1 = enD ds n o c then nI 1 else nI 0) := by
  obtain ⟨hpn, hpd⟩ := en_dp ho hcn hc hp
  have hle := en_le (ds := ds) (o := o) (Nat.le_of_lt hcn)
  unfold f_X0_isLastOfItsDay
  by_cases c1 : n ≤ p + 1
  · rw [if_pos (show p + 1 = enD ds n o c by omega)]
    simp (disch := omega) only [li0, li1, li2, li3, li4, li5, li6, li7, li8, li9, li10, li15, li31, li32, li40, li41, li49, li50, li99, li100, li999, c_le, c_lt, c_eq, c_tn, c_inb, c_add, hr.1, c1, if_true, if_false, ite_true, ite_false, ↓reduceIte, Nat.le_refl, Nat.lt_irrefl, Nat.reduceAdd, Nat.reduceLeDiff, Nat.reduceLT, Nat.reduceEqDiff, Bool.false_eq_true]
  · have h1 := ho p hpn
    have h2 := ho (p + 1) (by omega)
    have d1 : σ.1 (b + 1) (o p) = nI (dp ds o p) := (hr.2.1 _ h1.1).1
    have d2 : σ.1 (b + 1) (o (p + 1)) = nI (dp ds o (p + 1)) := (hr.2.1 _ h2.1).1
    have k1 : dp ds o p ≤ 999 := (hd _ h1.1).1
    have k2 : dp ds o (p + 1) ≤ 999 := (hd _ h2.1).1
    by_cases c2 : p + 1 = enD ds n o c
    · have := en_out ho hcn (show p + 1 < n by omega) (by omega)
      rw [if_pos c2]
      simp (disch := omega) only [li0, li1, li2, li3, li4, li5, li6, li7, li8, li9, li10, li15, li31, li32, li40, li41, li49, li50, li99, li100, li999, c_le, c_lt, c_eq, c_tn, c_inb, c_add, hr.1, c1, hr.2.2 p hpn, hr.2.2 (p + 1) (by omega), show p < 41 by omega, show p + 1 < 41 by omega, show o p < 41 by omega, show o (p + 1) < 41 by omega, d1, d2, show ¬ dp ds o (p + 1) = dp ds o p by omega, if_true, if_false, ite_true, ite_false, ↓reduceIte, Nat.le_refl, Nat.lt_irrefl, Nat.reduceAdd, Nat.reduceLeDiff, Nat.reduceLT, Nat.reduceEqDiff, Bool.false_eq_true]
    · have := en_dp ho hcn (show c ≤ p + 1 by omega) (by omega)
      rw [if_neg c2]
      simp (disch := omega) only [li0, li1, li2, li3, li4, li5, li6, li7, li8, li9, li10, li15, li31, li32, li40, li41, li49, li50, li99, li100, li999, c_le, c_lt, c_eq, c_tn, c_inb, c_add, hr.1, c1, hr.2.2 p hpn, hr.2.2 (p + 1) (by omega), show p < 41 by omega, show p + 1 < 41 by omega, show o p < 41 by omega, show o (p + 1) < 41 by omega, d1, d2, show dp ds o (p + 1) = dp ds o p by omega, if_true, if_false, ite_true, ite_false, ↓reduceIte, Nat.le_refl, Nat.lt_irrefl, Nat.reduceAdd, Nat.reduceLeDiff, Nat.reduceLT, Nat.reduceEqDiff, Bool.false_eq_true]
theorem unlikeC_ok {b i : Nat} {σ : Sg} (hn : n ≤ 40) (hr : repBd b σ n ds o) (hd : ∀ d, d < n → okD (ds d)) (ho : ordOK (days ds) n o) (hi : i < 40) : f_X0_unlikeDay b (nI i) σ = some (nx ds n o (bs ds n o i)) := by
  have key := run_invFU (fun m p (t : Nat) => L_X0_unlikeDay_4 b (nI i) σ m (nI t) (nI p)) (fun p t => t ≤ i ∧ bs ds n o t ≤ p ∧ (p < n → p < bs ds n o (t + 1)) ∧ (p = n → bs ds n o t = n)) n (fun q => (bs ds n o i < n ∧ q = some (.inl (nI (dp ds o (bs ds n o i))))) ∨ (¬ bs ds n o i < n ∧ ∃ z, q = some (.inr z))) (by omega) (fun p hp m t ha => ?_) (fun m t ha => ?_) 0 ⟨Nat.zero_le _, Nat.le_refl _, fun h => en_gt ho h, fun h => h⟩
  · unfold f_X0_unlikeDay
    rcases key with ⟨k1, k2⟩ | ⟨k1, z, k2⟩
    · rw [show L_X0_unlikeDay_4 b (nI i) σ FU 0 0 = _ from k2, Option.bind_some]
      unfold nx
      rw [if_pos k1]
      rfl
    · rw [show L_X0_unlikeDay_4 b (nI i) σ FU 0 0 = _ from k2, Option.bind_some]
      unfold nx
      rw [if_neg k1]
      rfl
  · obtain ⟨i0, i1, i2, i3⟩ := ha
    have i2' := i2 hp
    have hcn : bs ds n o t < n := by omega
    have hl := last_ok hn hr hd ho hcn i1 i2'
    have ht := bs_lt ho hcn
    have h1 := ho p hp
    have d1 : σ.1 (b + 1) (o p) = nI (dp ds o p) := (hr.2.1 _ h1.1).1
    have hpd := (en_dp ho hcn i1 i2').2
    by_cases c : p + 1 = enD ds n o (bs ds n o t)
    · rw [if_pos c] at hl
      by_cases e : t = i
      · right
        left
        subst e
        refine ⟨hcn, ?_⟩
        rw [L_X0_unlikeDay_4, hl]
        simp (disch := omega) only [li0, li1, li2, li3, li4, li5, li6, li7, li8, li9, li10, li15, li31, li32, li40, li41, li49, li50, li99, li100, li999, c_le, c_lt, c_eq, c_tn, c_inb, c_add, hr.1, show ¬ n ≤ p by omega, Option.bind_some, Nat.one_ne_zero, hr.2.2 p hp, show p < 41 by omega, show o p < 41 by omega, d1, hpd, if_true, if_false, ite_true, ite_false, ↓reduceIte, Nat.le_refl, Nat.lt_irrefl, Nat.reduceAdd, Nat.reduceLeDiff, Nat.reduceLT, Nat.reduceEqDiff, Bool.false_eq_true]
      · left
        refine ⟨t + 1, ⟨by omega, Nat.le_of_eq c.symm, fun h => ?_, fun h => ?_⟩, ?_⟩
        · show p + 1 < enD ds n o (bs ds n o (t + 1))
          rw [show bs ds n o (t + 1) = p + 1 from c.symm]
          exact en_gt ho h
        · exact c.symm.trans h
        · rw [L_X0_unlikeDay_4, hl]
          simp (disch := omega) only [li0, li1, li2, li3, li4, li5, li6, li7, li8, li9, li10, li15, li31, li32, li40, li41, li49, li50, li99, li100, li999, c_le, c_lt, c_eq, c_tn, c_inb, c_add, hr.1, show ¬ n ≤ p by omega, Option.bind_some, Nat.one_ne_zero, e, if_true, if_false, ite_true, ite_false, ↓reduceIte, Nat.le_refl, Nat.lt_irrefl, Nat.reduceAdd, Nat.reduceLeDiff, Nat.reduceLT, Nat.reduceEqDiff, Bool.false_eq_true]
    · rw [if_neg c] at hl
      left
      have i2'' : p < enD ds n o (bs ds n o t) := i2'
      refine ⟨t, ⟨i0, by omega, fun h => show p + 1 < enD ds n o (bs ds n o t) by omega, fun h => ?_⟩, ?_⟩
      · have := en_le (ds := ds) (o := o) (Nat.le_of_lt hcn)
        omega
      · rw [L_X0_unlikeDay_4, hl]
        simp (disch := omega) only [li0, li1, li2, li3, li4, li5, li6, li7, li8, li9, li10, li15, li31, li32, li40, li41, li49, li50, li99, li100, li999, c_le, c_lt, c_eq, c_tn, c_inb, c_add, hr.1, show ¬ n ≤ p by omega, Option.bind_some, if_true, if_false, ite_true, ite_false, ↓reduceIte, Nat.le_refl, Nat.lt_irrefl, Nat.reduceAdd, Nat.reduceLeDiff, Nat.reduceLT, Nat.reduceEqDiff, Bool.false_eq_true]
  · obtain ⟨i0, i1, i2, i3⟩ := ha
    right
    have := bs_stop2 (i3 rfl) i0
    refine ⟨by omega, (nI t, nI n), ?_⟩
    rw [L_X0_unlikeDay_4]
    simp (disch := omega) only [li0, li1, li2, li3, li4, li5, li6, li7, li8, li9, li10, li15, li31, li32, li40, li41, li49, li50, li99, li100, li999, c_le, c_lt, c_eq, c_tn, c_inb, c_add, hr.1, if_true, if_false, ite_true, ite_false, ↓reduceIte, Nat.le_refl, Nat.lt_irrefl, Nat.reduceAdd, Nat.reduceLeDiff, Nat.reduceLT, Nat.reduceEqDiff, Bool.false_eq_true]
/-! ### the reference goes from day to day -/
theorem behind_ok {σ : Sg} {x1 : Int32} {W c : Nat} (hn : n ≤ 40) (hr : repMd σ n ds) (hd : ∀ d, d < n → okD (ds d)) (ho : ordOK (days ds) n o) (hx : ∀ v, v ≤ 999 → (nI v ≤ x1) = (v < W)) (hc : ∀ k, k < n → (k < c ↔ dp ds o k < W)) : f_X7_dayBehind x1 σ = some (nx ds n o c) := by
  have key := run_invFU (fun m k (v : Int32) => L_X7_dayBehind_5 x1 σ m v (nI k)) (fun k v => (v = -6 ∧ ∀ e, e < k → dDay (ds e) < W) ∨ (∃ m, v = nI m ∧ m ≤ 999 ∧ W ≤ m ∧ (∃ e, e < k ∧ dDay (ds e) = m) ∧ ∀ e, e < k → W ≤ dDay (ds e) → m ≤ dDay (ds e))) n (fun q => ∃ z, q = some (nx ds n o c, z)) (by omega) (fun k hk m v ha => ?_) (fun m v ha => ?_) (-6) (Or.inl ⟨rfl, fun e he => absurd he (by omega)⟩)
  · obtain ⟨z, k1⟩ := key
    unfold f_X7_dayBehind
    rw [show L_X7_dayBehind_5 x1 σ FU (-6) 0 = _ from k1]
    rfl
  · left
    have hday := (hr.2 k hk).1
    have hb := (hd k hk).1
    have hxk := hx (dDay (ds k)) hb
    by_cases c1 : dDay (ds k) < W
    · refine ⟨v, ?_, ?_⟩
      · rcases ha with ⟨a1, a2⟩ | ⟨m, a1, a2, a3, ⟨e, a4, a5⟩, a6⟩
        · refine Or.inl ⟨a1, fun e he => ?_⟩
          by_cases q : e = k
          · subst q; exact c1
          · exact a2 e (by omega)
        · refine Or.inr ⟨m, a1, a2, a3, ⟨e, by omega, a5⟩, fun e he h => ?_⟩
          by_cases q : e = k
          · subst q; omega
          · exact a6 e (by omega) h
      · rw [L_X7_dayBehind_5]
        simp (disch := omega) only [li0, li1, li2, li3, li4, li5, li6, li7, li8, li9, li10, li15, li31, li32, li40, li41, li49, li50, li99, li100, li999, c_le, c_lt, c_eq, c_tn, c_inb, c_add, hr.1, show ¬ n ≤ k by omega, show k < 41 by omega, hday, hxk, c1, Option.bind_some, if_true, if_false, ite_true, ite_false, ↓reduceIte, Nat.le_refl, Nat.lt_irrefl, Nat.reduceAdd, Nat.reduceLeDiff, Nat.reduceLT, Nat.reduceEqDiff, Bool.false_eq_true]
    · rcases ha with ⟨a1, a2⟩ | ⟨m, a1, a2, a3, ⟨e, a4, a5⟩, a6⟩
      · refine ⟨nI (dDay (ds k)), Or.inr ⟨_, rfl, hb, by omega, ⟨k, by omega, rfl⟩, fun e he h => ?_⟩, ?_⟩
        · by_cases q : e = k
          · subst q; exact Nat.le_refl _
          · have := a2 e (by omega); omega
        · rw [L_X7_dayBehind_5, a1]
          have m6 : (-nI 6 < nI 0) = True := by decide
          simp (disch := omega) only [li0, li1, li2, li3, li4, li5, li6, li7, li8, li9, li10, li15, li31, li32, li40, li41, li49, li50, li99, li100, li999, c_le, c_lt, c_eq, c_tn, c_inb, c_add, hr.1, show ¬ n ≤ k by omega, show k < 41 by omega, hday, hxk, c1, m6, Option.bind_some, if_true, if_false, ite_true, ite_false, ↓reduceIte, Nat.le_refl, Nat.lt_irrefl, Nat.reduceAdd, Nat.reduceLeDiff, Nat.reduceLT, Nat.reduceEqDiff, Bool.false_eq_true]
      · by_cases c2 : m ≤ dDay (ds k)
        · refine ⟨v, Or.inr ⟨m, a1, a2, a3, ⟨e, by omega, a5⟩, fun e he h => ?_⟩, ?_⟩
          · by_cases q : e = k
            · subst q; exact c2
            · exact a6 e (by omega) h
          · rw [L_X7_dayBehind_5, a1]
            simp (disch := omega) only [li0, li1, li2, li3, li4, li5, li6, li7, li8, li9, li10, li15, li31, li32, li40, li41, li49, li50, li99, li100, li999, c_le, c_lt, c_eq, c_tn, c_inb, c_add, hr.1, show ¬ n ≤ k by omega, show k < 41 by omega, hday, hxk, c1, Nat.not_lt_zero, c2, Option.bind_some, if_true, if_false, ite_true, ite_false, ↓reduceIte, Nat.le_refl, Nat.lt_irrefl, Nat.reduceAdd, Nat.reduceLeDiff, Nat.reduceLT, Nat.reduceEqDiff, Bool.false_eq_true]
        · refine ⟨nI (dDay (ds k)), Or.inr ⟨_, rfl, hb, by omega, ⟨k, by omega, rfl⟩, fun e he h => ?_⟩, ?_⟩
          · by_cases q : e = k
            · subst q; exact Nat.le_refl _
            · have := a6 e (by omega) h; omega
          · rw [L_X7_dayBehind_5, a1]
            simp (disch := omega) only [li0, li1, li2, li3, li4, li5, li6, li7, li8, li9, li10, li15, li31, li32, li40, li41, li49, li50, li99, li100, li999, c_le, c_lt, c_eq, c_tn, c_inb, c_add, hr.1, show ¬ n ≤ k by omega, show k < 41 by omega, hday, hxk, c1, Nat.not_lt_zero, c2, Option.bind_some, if_true, if_false, ite_true, ite_false, ↓reduceIte, Nat.le_refl, Nat.lt_irrefl, Nat.reduceAdd, Nat.reduceLeDiff, Nat.reduceLT, Nat.reduceEqDiff, Bool.false_eq_true]
  · refine ⟨nI n, ?_⟩
    have hv : v = nx ds n o c := by
      unfold nx
      rcases ha with ⟨a1, a2⟩ | ⟨m, a1, a2, a3, ⟨e, a4, a5⟩, a6⟩
      · rw [a1, if_neg]
        intro h
        have g := a2 (o c) (ho c h).1
        exact absurd ((hc c h).mpr g) (Nat.lt_irrefl c)
      · have hk := rk_bd (dy := days ds) a4
        have ho2 := ord_at ho a4
        have q : ¬ rk (days ds) n e < c := fun h => by
          have := (hc _ hk).mp h
          unfold dp at this
          rw [ho2] at this
          omega
        have hcn : c < n := by omega
        rw [if_pos hcn, a1]
        have g1 : W ≤ dp ds o c := by
          apply Nat.le_of_not_lt
          intro h
          exact absurd ((hc c hcn).mpr h) (Nat.lt_irrefl c)
        have g2 := a6 (o c) (ho c hcn).1 g1
        have g3 := dp_mono ho (show c ≤ rk (days ds) n e by omega) hk
        have g4 : dp ds o (rk (days ds) n e) = m := by
          unfold dp
          rw [ho2]; exact a5
        have : m = dp ds o c := by
          have g5 : m ≤ dp ds o c := g2
          omega
        rw [this]
    rw [L_X7_dayBehind_5, hv]
    simp (disch := omega) only [li0, li1, li2, li3, li4, li5, li6, li7, li8, li9, li10, li15, li31, li32, li40, li41, li49, li50, li99, li100, li999, c_le, c_lt, c_eq, c_tn, c_inb, c_add, hr.1, if_true, if_false, ite_true, ite_false, ↓reduceIte, Nat.le_refl, Nat.lt_irrefl, Nat.reduceAdd, Nat.reduceLeDiff, Nat.reduceLT, Nat.reduceEqDiff, Bool.false_eq_true]
theorem behind_0 {σ : Sg} (hn : n ≤ 40) (hr : repMd σ n ds) (hd : ∀ d, d < n → okD (ds d)) (ho : ordOK (days ds) n o) : f_X7_dayBehind (-1) σ = some (nx ds n o 0) :=
  behind_ok (W := 0) (c := 0) hn hr hd ho (fun v hv => propext ⟨fun h => by
    rw [Int32.le_iff_toInt_le, c_ti (by omega), show (-1 : Int32).toInt = -1 from rfl] at h
    omega, fun h => absurd h (Nat.not_lt_zero _)⟩) (fun k hk => ⟨fun h => absurd h (Nat.not_lt_zero _), fun h => absurd h (Nat.not_lt_zero _)⟩)
theorem behind_L {σ : Sg} {L : Nat} (hn : n ≤ 40) (hL : L < 2000) (hr : repMd σ n ds) (hd : ∀ d, d < n → okD (ds d)) (ho : ordOK (days ds) n o) : f_X7_dayBehind (nI L) σ = some (nx ds n o (dnN ds n L)) :=
  behind_ok (W := L + 1) hn hr hd ho (fun v hv => by rw [c_le (by omega) (by omega)]; exact propext ⟨fun h => by omega, fun h => by omega⟩) (fun k hk => by
    rw [dn_iff ho hk]
    unfold dp
    omega)
theorem nx_neg (ho : ordOK (days ds) n o) (hd : ∀ d, d < n → okD (ds d)) (c : Nat) : (nx ds n o c < 0) = (¬ c < n) := by
  unfold nx
  by_cases h : c < n
  · rw [if_pos h]
    have : dDay (ds (o c)) ≤ 999 := (hd _ (ho c h).1).1
    rw [li0, c_lt (by unfold dp; omega) (by omega)]
    exact propext ⟨fun q => absurd q (Nat.not_lt_zero _), fun q => absurd h q⟩
  · rw [if_neg h]
    exact propext ⟨fun _ => h, fun _ => by decide⟩
/-- the day behind the one that begins at a place -/
theorem behind_n {σ : Sg} {c : Nat} (hn : n ≤ 40) (hr : repMd σ n ds) (hd : ∀ d, d < n → okD (ds d)) (ho : ordOK (days ds) n o) (hc : c < n) : f_X7_dayBehind (nx ds n o c) σ = some (nx ds n o (enD ds n o c)) := by
  have k : dp ds o c ≤ 999 := (hd _ (ho c hc).1).1
  have e : nx ds n o c = nI (dp ds o c) := if_pos hc
  rw [e, behind_L hn (by omega) hr hd ho, en_eq hc]
theorem unlikeM_ok {i : Nat} {σ : Sg} (hn : n ≤ 40) (hr : repMd σ n ds) (hd : ∀ d, d < n → okD (ds d)) (ho : ordOK (days ds) n o) (hi : i < 40) : f_X7_unlikeDay (nI i) σ = some (nx ds n o (bs ds n o i)) := by
  have key := run_invFU (fun m k (_ : Unit) => L_X7_unlikeDay_8 (nI i) σ m (nx ds n o (bs ds n o k)) (nI k)) (fun k _ => True) i (fun q => ∃ z, q = some (nx ds n o (bs ds n o i), z)) (by omega) (fun k hk m a ha => ?_) (fun m a ha => ?_) () trivial
  · obtain ⟨z, k1⟩ := key
    unfold f_X7_unlikeDay
    rw [behind_0 hn hr hd ho, Option.bind_some, show L_X7_unlikeDay_8 (nI i) σ FU (nx ds n o 0) 0 = _ from k1]
    rfl
  · rw [L_X7_unlikeDay_8]
    rw [if_neg (show ¬ nI i ≤ nI k by rw [c_le (by omega) (by omega)]; omega)]
    by_cases c : bs ds n o k < n
    · left
      refine ⟨(), trivial, ?_⟩
      rw [if_neg (show ¬ nx ds n o (bs ds n o k) < 0 by rw [nx_neg ho hd]; exact not_not_intro c), behind_n hn hr hd ho c, Option.bind_some, li1, c_add]
      rfl
    · right
      have hb := bs_le (ds := ds) (n := n) (o := o) k
      rw [if_pos (show nx ds n o (bs ds n o k) < 0 by rw [nx_neg ho hd]; exact c)]
      have e1 : bs ds n o k = n := by omega
      rw [e1, bs_stop2 e1 (by omega)]
      exact ⟨_, rfl⟩
  · refine ⟨nI i, ?_⟩
    rw [L_X7_unlikeDay_8, if_pos (show nI i ≤ nI i by rw [c_le (by omega) (by omega)]; exact Nat.le_refl _)]
end
