/-! ALL DAYS: who controls what at the end of each, by the component -/
def Hp (B : Bk) (c : Nat) : Hd := (runS (bD B) (bO B) (fun _ => true) c).getD H0
def CT (B : Bk) (c x : Nat) : Nat := ctl (Hp B c) (bH B) (bM B) x 5
abbrev bsB (B : Bk) (t : Nat) : Nat := bs (bD B) (bN B) (bO B) t
def ev (B : Bk) (q : Nat) : Bool := (CT B (bsB B (q / 45 + 1)) (q / 5 % 9)).testBit (q % 5) != (CT B (bsB B (q / 45)) (q / 5 % 9)).testBit (q % 5)
def isE (B : Bk) (q : Nat) : Bool := (CT B (bsB B (q / 45 + 1)) (q / 5 % 9)).testBit (q % 5)
def nT (B : Bk) (T : Nat) : Prop := bsB B T = bN B ∧ (∀ t, t < T → bsB B t < bN B) ∧ T ≤ 40
def TR (σ : Sg) (B : Bk) (t : Nat) : Prop := σ.1 88 2 = nI t ∧ (∀ u, u < t → σ.1 89 u = nI (dp (bD B) (bO B) (bsB B u))) ∧ ∀ u, u < t → ∀ x, x < 9 → σ.1 (90 + 1 + u) x = nI (CT B (bsB B (u + 1)) x)
def TE (σ : Sg) (B : Bk) (Q : Nat) : Prop := σ.1 88 4 = nI (cnt (ev B) Q) ∧ ∀ q, q < Q → ev B q = true → σ.1 131 (cnt (ev B) q) = nI (2 * q + (isE B q).toNat)
def TL (σ : Sg) (B : Bk) : Prop := ∃ T, nT B T ∧ TR σ B T ∧ TE σ B (45 * T)
theorem nT_ex {B : Bk} (hB : okB B) : ∃ T, nT B T := by
  have ho := hB.2.2.1
  have h1 := hB.1
  have hm : ∀ m, bsB B m = bN B → ∃ T, T ≤ m ∧ bsB B T = bN B ∧ ∀ t, t < T → bsB B t < bN B := by
    intro m
    induction m with
    | zero => intro h; exact ⟨0, Nat.le_refl _, h, fun t ht => absurd ht (Nat.not_lt_zero _)⟩
    | succ m ih =>
      intro h
      by_cases c : bsB B m = bN B
      · obtain ⟨T, a, b⟩ := ih c
        exact ⟨T, by omega, b⟩
      · refine ⟨m + 1, Nat.le_refl _, h, fun t ht => ?_⟩
        have hle : bsB B t ≤ bN B := bs_le t
        apply Nat.lt_of_not_le
        intro q
        exact c (bs_stop2 (t := t) (Nat.le_antisymm hle q) (by omega))
  have hn : bsB B (bN B) = bN B := by
    have a := bs_le (ds := bD B) (n := bN B) (o := bO B) (bN B)
    rcases bs_gt ho (bN B) with g | g
    · show bs (bD B) (bN B) (bO B) (bN B) = bN B
      omega
    · exact g
  obtain ⟨T, a, b, c⟩ := hm (bN B) hn
  exact ⟨T, b, c, by omega⟩
theorem nT_un {B : Bk} {T T' : Nat} (h : nT B T) (h' : nT B T') : T = T' := by
  rcases Nat.lt_trichotomy T T' with q | q | q
  · have := h'.2.1 T q; have := h.1; omega
  · exact q
  · have := h.2.1 T' q; have := h'.1; omega
theorem Hp_some {B : Bk} {c : Nat} {H : Hd} (h : runS (bD B) (bO B) (fun _ => true) c = some H) : Hp B c = H := by
  unfold Hp
  rw [h]
  rfl
theorem Hp_0 (B : Bk) : Hp B 0 = H0 := rfl
theorem blk_0 (f x s : Nat) : ∀ m, m ≤ 9 → blk H0 f x s m = 0
  | 0, _ => rfl
  | m + 1, h => by
    simp only [blk]
    rw [blk_0 f x s m (by omega)]
    have : H0.2.1 f m = 0 := by
      show (if m = 9 then 100 else 0) = 0
      rw [if_neg (by omega)]
    rw [this]
    simp
theorem isw_out : ∀ x, x < 9 → ∀ s, s < 32 → ∃ h, h < 9 ∧ isw h x s = false := by
  intro x hx s hs
  by_cases c : x = 0
  · subst c
    exact ⟨1, by omega, by simp [isw]⟩
  · exact ⟨0, by omega, by simp [isw]; omega⟩
theorem falls_0 {hf dm f x s : Nat} (hx : x < 9) (hs : s < 32) : fallsN H0 hf dm f x s = false := by
  unfold fallsN
  rw [blk_0 f x s 9 (by omega)]
  obtain ⟨h, h1, h2⟩ := isw_out x hx s hs
  have : allN (fun h => isw h x s || decide (H0.2.1 f h < 0)) 9 = false := allN_false h1 (by simp [h2])
  rw [this]
  simp
theorem nw_0 {hf dm x s : Nat} (hx : x < 9) (hs : s < 32) : nw H0 hf dm x s = 0 := by
  unfold nw
  refine Nat.eq_of_testBit_eq (fun j => ?_)
  rw [newN_bit]
  simp only [falls_0 hx hs, Bool.and_false, Nat.zero_testBit]
theorem ctl_0 {hf dm x : Nat} (hx : x < 9) : ∀ r, ctl H0 hf dm x r = 0
  | 0 => rfl
  | r + 1 => by
    show ctl H0 hf dm x r ||| nw H0 hf dm x (ctl H0 hf dm x r) = 0
    rw [ctl_0 hx r, nw_0 hx (by omega)]
    rfl
theorem CT_0 {B : Bk} {x : Nat} (hx : x < 9) : CT B 0 x = 0 := ctl_0 hx 5
theorem CT_lt (B : Bk) (c x : Nat) : CT B c x < 32 := ctl_lt _ _ _ _ _
def inTW (t j : Nat) : Prop := (66 < j ∧ j ≤ 78) ∨ j = 90 + 1 + t
theorem tl59 {B : Bk} {H : Hd} {σ : Sg} {t : Nat} {x4 x5 : Int32} (hB : okB B) (ht : t < 40) (hr : repB 1 σ B) (hc : repC 39 σ H) (hH : okH H) (hs : σ.1 88 2 = nI t) : ∃ σ', L_X5_workOut_59 1 39 66 x4 x5 FU 0 σ = some (nI 9, σ') ∧ (∀ x, x < 9 → σ'.1 (90 + 1 + t) x = nI (ctl H (bH B) (bM B) x 5)) ∧ fr (inTW t) σ σ' := by
  obtain ⟨b1, b2, b3, b4, b5, b6, b7, b8⟩ := id hB
  refine ex_use (loop_inv (fun m x (a : Sg) => L_X5_workOut_59 1 39 66 x4 x5 m (nI x) a) (fun x a => (∀ y, y < x → a.1 (90 + 1 + t) y = nI (ctl H (bH B) (bM B) y 5)) ∧ fr (inTW t) σ a) 9 (fun a => (nI 9, a)) (by omega) (fun x hx m a ha => ?_) (fun m a ha => ?_) σ ⟨fun y hy => absurd hy (by omega), fr.rf⟩) (fun σ' h1 h2 => ⟨σ', h2, h1⟩)
  · obtain ⟨i1, i2⟩ := ha
    have w : ∀ j, ¬ inTW t j → a.1 j = σ.1 j := fun j hj => (i2 j hj).1
    have r1 : repB 1 a B := hr.kept (fun j h1 h2 => w j (by unfold inTW; omega))
    have c1 : repC 39 a H := hc.kept (fun j h1 h2 => w j (by unfold inTW; omega))
    obtain ⟨s1, e1, e2, e3⟩ := wo_ok (c := 66) (h := 39) (b := 1) (x := x) (by unfold apC; omega) c1 hH r1.2.2.1 r1.2.2.2.1 (by omega) (by omega) hx
    have w1 : ∀ j, ¬ (66 < j ∧ j ≤ 78) → s1.1 j = a.1 j := fun j hj => (e3.1 j (by unfold inC; omega)).1
    have hs1 : s1.1 88 2 = nI t := by rw [w1 88 (by omega), w 88 (by unfold inTW; omega)]; exact hs
    have h67 : s1.1 67 x = nI (ctl H (bH B) (bM B) x 5) := e2.1
    refine ⟨setR s1 (90 + 1 + t) (upd (s1.1 (90 + 1 + t)) x (nI (ctl H (bH B) (bM B) x 5))), ?_, fun y hy => ?_, ?_⟩
    · rw [L_X5_workOut_59]
      rw [if_neg (show ¬ (9 : Int32) ≤ nI x by rw [li9, c_le (by omega) (by omega)]; omega), e1, Option.bind_some]
      have e4 : (nI t).toNatClampNeg = t := c_tn (by omega)
      simp (disch := omega) only [li0, li1, li2, li3, li4, li5, li6, li7, li8, li9, li10, li15, li31, li32, li40, li41, li49, li50, li99, li100, li999, c_le, c_lt, c_eq, c_tn, c_inb, c_add, hs1, ht, hx, jn, h67, if_true, if_false, ite_true, ite_false, ↓reduceIte, Nat.le_refl, Nat.lt_irrefl, Nat.reduceAdd, Nat.reduceLeDiff, Nat.reduceLT, Nat.reduceEqDiff, Bool.false_eq_true]
    · rw [sR_s]
      by_cases q : y = x
      · subst q; rw [up_s]
      · rw [up_n _ _ q, w1 _ (by omega)]; exact i1 y (by omega)
    · exact (i2.tr (e3.1.mono (fun j hj => by unfold inC at hj; unfold inTW; omega))).tr (fr.setR (by unfold inTW; omega))
  · rw [L_X5_workOut_59]
    simp (disch := omega) only [li0, li1, li2, li3, li4, li5, li6, li7, li8, li9, li10, li15, li31, li32, li40, li41, li49, li50, li99, li100, li999, c_le, c_lt, c_eq, c_tn, c_inb, c_add, if_true, if_false, ite_true, ite_false, ↓reduceIte, Nat.le_refl, Nat.lt_irrefl, Nat.reduceAdd, Nat.reduceLeDiff, Nat.reduceLT, Nat.reduceEqDiff, Bool.false_eq_true]
def inTL (j : Nat) : Prop := inH 39 j ∨ (66 < j ∧ j ≤ 78) ∨ (88 ≤ j ∧ j ≤ 130)
def TI (B : Bk) (σ : Sg) (p : Nat) (a : Sg) : Prop := ∃ t H, bsB B t ≤ p ∧ (p < bN B → p < bsB B (t + 1)) ∧ (p = bN B → bsB B t = bN B) ∧ runS (bD B) (bO B) (fun _ => true) p = some H ∧ repC 39 a H ∧ TR a B t ∧ (∀ u, u < t → bsB B u < bN B) ∧ fr inTL σ a
theorem tl12 {B : Bk} {σ : Sg} (hB : okB B) (hr : repB 1 σ B) (hc : repC 39 σ H0) (hs : σ.1 88 2 = nI 0) : ∃ σ', L_X5_workOut_12 1 39 66 FU 0 σ = some (nI (bN B), σ') ∧ TI B σ (bN B) σ' := by
  obtain ⟨b1, b2, b3, b4, b5, b6, b7, HH, b8⟩ := id hB
  refine ex_use (loop_inv (fun m p (a : Sg) => L_X5_workOut_12 1 39 66 m (nI p) a) (fun p a => TI B σ p a) (bN B) (fun a => (nI (bN B), a)) (by omega) (fun p hp m a ha => ?_) (fun m a ha => ?_) σ ⟨0, H0, Nat.le_refl _, fun h => en_gt b3 h, fun h => h, rfl, hc, ⟨hs, fun u hu => absurd hu (by omega), fun u hu => absurd hu (by omega)⟩, fun u hu => absurd hu (by omega), fr.rf⟩) (fun σ' h1 h2 => ⟨σ', h2, h1⟩)
  · obtain ⟨t, H, i1, i2, i3, i4, i5, ⟨i6, i7, i8⟩, i9, i10⟩ := ha
    have i2' := i2 hp
    have hcn : bsB B t < bN B := by omega
    have ht := bs_lt b3 hcn
    have w : ∀ j, ¬ inTL j → a.1 j = σ.1 j := fun j hj => (i10 j hj).1
    have r1 : repB 1 a B := hr.kept (fun j h1 h2 => w j (by unfold inTL inH; omega))
    have iH := runS_ok (n := bN B) (fun k hk => b2 _ (b3 k hk).1) (show p ≤ bN B by omega) i4
    have ok1 := (b3 p hp).1
    have w1 : a.1 8 p = nI (bO B p) := r1.1.2.2 p hp
    have hs1 : a.1 1 7 = nI (bN B) := r1.1.1
    obtain ⟨H', e⟩ := runS_pre b8 (show p + 1 ≤ bN B by omega)
    have e' : doD (bD B (bO B p)) H = some H' := by
      have : runS (bD B) (bO B) (fun _ => true) (p + 1) = (runS (bD B) (bO B) (fun _ => true) p).bind (fun H => if (true : Bool) = true then doD (bD B (bO B p)) H else some H) := rfl
      rw [this, i4, Option.bind_some, if_pos rfl] at e
      exact e
    have iH' := runS_ok (n := bN B) (fun k hk => b2 _ (b3 k hk).1) (show p + 1 ≤ bN B by omega) e
    obtain ⟨s1, g1, g2, g3⟩ := carry_some (b := 1) (h := 39) (σ := a) (show bO B p < 41 by omega) (r1.1.2.1 _ ok1) (b2 _ ok1) i5 iH e'
    have r2 : repB 1 s1 B := r1.kept (fun j h1 h2 => (g3 j (by unfold inH; omega)).1)
    have hl := last_ok b1 r2.1 b2 b3 hcn i1 i2'
    have f1 : fr inTL σ s1 := i10.tr (g3.mono (fun j hj => Or.inl hj))
    have v1 : ∀ j, 53 ≤ j → s1.1 j = a.1 j := fun j hj => (g3 j (by unfold inH; omega)).1
    have i2'' : p < enD (bD B) (bN B) (bO B) (bsB B t) := i2'
    by_cases c : p + 1 = enD (bD B) (bN B) (bO B) (bsB B t)
    · rw [if_pos c] at hl
      obtain ⟨s2, k1, k2, k3⟩ := tl59 (t := t) (x4 := nI p) (x5 := nI (bO B p)) hB (by omega) r2 g2 iH' (by rw [v1 88 (by omega)]; exact i6)
      have v2 : ∀ j, ¬ inTW t j → s2.1 j = s1.1 j := fun j hj => (k3 j hj).1
      have k1' : L_X5_workOut_59 1 39 66 (nI p) (nI (bO B p)) FU (nI 0) s1 = some (nI 9, s2) := k1
      have hs2 : s2.1 88 2 = nI t := by rw [v2 88 (by unfold inTW; omega), v1 88 (by omega)]; exact i6
      have hday : s2.1 2 (bO B p) = nI (dp (bD B) (bO B) p) := by
        rw [v2 2 (by unfold inTW; omega)]
        exact (r2.1.2.1 _ ok1).1
      obtain ⟨s3, hs3⟩ : ∃ s3, s3 = setR (setR s2 89 (upd (s2.1 89) t (nI (dp (bD B) (bO B) p)))) 88 (upd (s2.1 88) 2 (nI (t + 1))) := ⟨_, rfl⟩
      have z88 : s3.1 88 = upd (s2.1 88) 2 (nI (t + 1)) := by rw [hs3, sR_s]
      have z89 : s3.1 89 = upd (s2.1 89) t (nI (dp (bD B) (bO B) p)) := by rw [hs3, sR_n _ _ (by omega), sR_s]
      have zz : ∀ j, j ≠ 88 → j ≠ 89 → s3.1 j = s2.1 j := fun j h1 h2 => by rw [hs3, sR_n _ _ h1, sR_n _ _ h2]
      have hbs : bsB B (t + 1) = p + 1 := c.symm
      have hpd := (en_dp b3 hcn i1 i2'').2
      refine ⟨s3, ?_, t + 1, H', Nat.le_of_eq hbs, fun h => ?_, fun h => ?_, e, ?_, ⟨by rw [z88, up_s], fun u hu => ?_, fun u hu x hx => ?_⟩, fun u hu => ?_, ?_⟩
      · rw [L_X5_workOut_12]
        simp (disch := omega) only [li0, li1, li2, li3, li4, li5, li6, li7, li8, li9, li10, li15, li31, li32, li40, li41, li49, li50, li99, li100, li999, c_le, c_lt, c_eq, c_tn, c_inb, c_add, hs1, i6, show ¬ bN B ≤ p by omega, show ¬ 40 ≤ t by omega, show p < 41 by omega, w1, g1, hl, k1', Option.bind_some, Nat.one_ne_zero, show bO B p < 41 by omega, hs2, show t < 40 by omega, hday, jn, sR_n, if_true, if_false, ite_true, ite_false, ↓reduceIte, Nat.le_refl, Nat.lt_irrefl, Nat.reduceAdd, Nat.reduceLeDiff, Nat.reduceLT, Nat.reduceEqDiff, Bool.false_eq_true]
        rw [← hs3]
      · show p + 1 < enD (bD B) (bN B) (bO B) (bsB B (t + 1))
        rw [hbs]
        exact en_gt b3 h
      · rw [hbs]; exact h
      · exact g2.kept (fun j h1 h2 => by rw [zz j (by omega) (by omega), v2 j (by unfold inTW; omega)])
      · rw [z89]
        by_cases q : u = t
        · subst q; rw [up_s, hpd]
        · rw [up_n _ _ q, v2 89 (by unfold inTW; omega), v1 89 (by omega)]
          exact i7 u (by omega)
      · rw [zz _ (by omega) (by omega)]
        by_cases q : u = t
        · subst q
          rw [k2 x hx, hbs]
          unfold CT
          rw [Hp_some e]
        · rw [v2 _ (by unfold inTW; omega), v1 _ (by omega)]
          exact i8 u (by omega) x hx
      · by_cases q : u = t
        · subst q; exact hcn
        · exact i9 u (by omega)
      · refine f1.tr ((k3.mono (fun j hj => by unfold inTW at hj; unfold inTL; omega)).tr ?_)
        rw [hs3]
        exact fr.tr (fr.setR (by unfold inTL; omega)) (fr.setR (by unfold inTL; omega))
    · rw [if_neg c] at hl
      refine ⟨s1, ?_, t, H', by omega, fun h => show p + 1 < enD (bD B) (bN B) (bO B) (bsB B t) by omega, fun h => ?_, e, g2, ⟨by rw [v1 88 (by omega)]; exact i6, fun u hu => by rw [v1 89 (by omega)]; exact i7 u hu, fun u hu x hx => by rw [v1 _ (by omega)]; exact i8 u hu x hx⟩, i9, f1⟩
      · rw [L_X5_workOut_12]
        simp (disch := omega) only [li0, li1, li2, li3, li4, li5, li6, li7, li8, li9, li10, li15, li31, li32, li40, li41, li49, li50, li99, li100, li999, c_le, c_lt, c_eq, c_tn, c_inb, c_add, hs1, i6, show ¬ bN B ≤ p by omega, show ¬ 40 ≤ t by omega, show p < 41 by omega, w1, g1, hl, Option.bind_some, if_true, if_false, ite_true, ite_false, ↓reduceIte, Nat.le_refl, Nat.lt_irrefl, Nat.reduceAdd, Nat.reduceLeDiff, Nat.reduceLT, Nat.reduceEqDiff, Bool.false_eq_true]
      · have := en_le (ds := bD B) (n := bN B) (o := bO B) (Nat.le_of_lt hcn)
        omega
  · obtain ⟨t, H, i1, i2, i3, i4, i5, ⟨i6, i7, i8⟩, i9, i10⟩ := ha
    have r1 : repB 1 a B := hr.kept (fun j h1 h2 => (i10 j (by unfold inTL inH; omega)).1)
    have hs1 : a.1 1 7 = nI (bN B) := r1.1.1
    rw [L_X5_workOut_12]
    simp (disch := omega) only [li0, li1, li2, li3, li4, li5, li6, li7, li8, li9, li10, li15, li31, li32, li40, li41, li49, li50, li99, li100, li999, c_le, c_lt, c_eq, c_tn, c_inb, c_add, hs1, if_true, if_false, ite_true, ite_false, ↓reduceIte, Nat.le_refl, Nat.lt_irrefl, Nat.reduceAdd, Nat.reduceLeDiff, Nat.reduceLT, Nat.reduceEqDiff, Bool.false_eq_true]
