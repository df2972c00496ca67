/-! EVENTS ASKED FOR; WHAT ALWAYS HOLDS -/
theorem q_event {B : Bk} {σ : Sg} (hB : okB B) (hr : repB 1 σ B) (hM : repMB σ B) (ht : traceOK σ B) (x1 x2 : Int32) : TQ B σ (f_X6_event x1 x2 σ) (f_X7_event x1 x2) := by
  rcases in_c x2 3 (by omega) rfl rfl with ⟨v2, _, n2⟩ | ⟨v2, _, w, hw, rfl⟩
  · refine ⟨-2, σ, σ, ?_, ?_, kpT.rf, ht, kpM.rf⟩
    · unfold f_X6_event
      by_cases c : x2 < 0
      · rw [if_pos c]
      · rw [if_neg c]
        obtain ⟨k, hk, rfl⟩ := c_lt0 x2 c
        rw [if_neg]
        intro q
        rw [li3, c_le hk (by omega)] at q
        exact n2 k q rfl
    · unfold f_X7_event; rw [if_pos (show f_X7_in x2 0 3 = 0 from v2)]
  obtain ⟨s1, e1, ⟨T, l1, l2, l3⟩, e3, e4⟩ := traceQ hB hr ht
  have hM1 := hM.kt e4
  have c0 : ¬ nI w < 0 := by rw [li0, c_lt (by omega) (by omega)]; omega
  have c3 : nI w ≤ 3 := by rw [li3, c_le (by omega) (by omega)]; omega
  have hC : ∀ r, f_X5_ofEvent x1 (nI w) s1 = some r → f_X6_event x1 (nI w) σ = some (r, s1) := fun r h => by
    unfold f_X6_event
    rw [if_neg c0, if_pos c3, e1, Option.bind_some, h]
    rfl
  have hct : cnt (ev B) (45 * T) ≤ 45 * T := cnt_le
  have hT2 := l1.2.2
  have htr : traceOK s1 B := Or.inr ⟨e3, T, l1, l2, l3⟩
  have v2' : ¬ f_X7_in (nI w) 0 3 = 0 := v2
  rcases ofE_ok l1 l2 l3 x1 (show w < 4 by omega) with ⟨k1, k2⟩ | ⟨k, k0, k1, k2, k3⟩ | ⟨q, k1, k2, k3, k4⟩
  · refine ⟨-6, s1, s1, hC _ k2, ?_, e4, htr, kpM.rf⟩
    unfold f_X7_event
    rw [if_neg v2', if_pos k1]
  · obtain ⟨s2, g1, g2, g3⟩ := eventsM_ok (x1 := x1) hB l1 hM1
    refine ⟨-6, s1, s2, hC _ k3, ?_, e4, htr, g3⟩
    unfold f_X7_event
    subst k0
    rw [if_neg v2', if_neg (show ¬ nI k < 0 by rw [li0, c_lt k1 (by omega)]; omega), g1, Option.bind_some]
    show (if nI k < nI (cnt (ev B) (45 * T)) then _ else some ((-6 : Int32), s2)) = _
    rw [if_neg (by rw [c_lt k1 (by omega)]; omega)]
  · obtain ⟨s2, g1, g2, g3⟩ := eventsM_ok (x1 := x1) hB l1 hM1
    refine ⟨evA B q w, s1, s2, hC _ k4, ?_, e4, htr, g3⟩
    have hlt := cnt_step (p := ev B) k1 k2
    have hrec := g2 q k1 k2 k3.symm w (by omega)
    unfold f_X7_event
    subst k3
    rw [if_neg v2', if_neg (show ¬ nI (cnt (ev B) q) < 0 by rw [li0, c_lt (by omega) (by omega)]; omega), g1, Option.bind_some]
    show (if nI (cnt (ev B) q) < nI (cnt (ev B) (45 * T)) then (if nI w = 0 then some (s2.1 132 16, s2) else if nI w = 1 then some (s2.1 132 17, s2) else if nI w = 2 then some (s2.1 132 18, s2) else some (s2.1 132 19, s2)) else some ((-6 : Int32), s2)) = _
    rw [if_pos (by rw [c_lt (by omega) (by omega)]; exact hlt), ← hrec]
    rcases (show w = 0 ∨ w = 1 ∨ w = 2 ∨ w = 3 by omega) with rfl | rfl | rfl | rfl <;> rfl
/-- what holds between calls -/
def INV (σ : Sg) : Prop := ∃ B k0 k1 I0 I1, okB B ∧ repB 1 σ B ∧ repMB σ B ∧ cacheOK σ B ∧ traceOK σ B ∧ keptOK σ k0 k1 ∧ imgOK σ k0 0 I0 ∧ imgOK σ k1 1 I1
def STP {α : Type} (σ : Sg) (F M : Sg → Option (α × Sg)) : Prop := ∃ r σ1 σ2, F σ = some (r, σ1) ∧ M σ1 = some (r, σ2) ∧ INV σ2
theorem TL.kp {σ σ' : Sg} {B B' : Bk} (h : TL σ B) (hf : ∀ j, 88 ≤ j → j ≤ 131 → σ'.1 j = σ.1 j) (hb : trS B B') : TL σ' B' := by
  obtain ⟨e1, e2, e3, e4, e5⟩ := hb
  obtain ⟨T, ⟨h1, h2, h3⟩, ⟨r1, r2, r3⟩, t1, t2⟩ := h
  have ebs : ∀ t, bsB B' t = bsB B t := fun t => by
    show bs (bD B') (bN B') (bO B') t = bs (bD B) (bN B) (bO B) t
    rw [e1, e2, e3]
  have eCT : ∀ c x, CT B' c x = CT B c x := fun c x => by
    unfold CT Hp
    rw [e2, e3, e4, e5]
  have eev : ev B' = ev B := by
    funext q
    unfold ev
    rw [ebs, ebs, eCT, eCT]
  have eis : ∀ q, isE B' q = isE B q := fun q => by
    unfold isE
    rw [ebs, eCT]
  refine ⟨T, ⟨by rw [ebs, e1]; exact h1, fun t ht => by rw [ebs, e1]; exact h2 t ht, h3⟩, ⟨by rw [hf 88 (by omega) (by omega)]; exact r1, fun u hu => ?_, fun u hu x hx => ?_⟩, ?_, fun q hq he => ?_⟩
  · rw [hf 89 (by omega) (by omega), ebs, e2, e3]; exact r2 u hu
  · rw [hf _ (by omega) (by omega), ebs, eCT]; exact r3 u hu x hx
  · rw [hf 88 (by omega) (by omega), eev]; exact t1
  · rw [eev] at he ⊢
    rw [hf 131 (by omega) (by omega), eis]; exact t2 q hq he
theorem keptOK.kp {σ σ' : Sg} {k0 k1 : Bool} (h : keptOK σ k0 k1) (h3 : σ'.1 0 3 = σ.1 0 3) (h150 : σ'.1 150 = σ.1 150) : keptOK σ' k0 k1 := by
  unfold keptOK
  rw [h3, h150]
  exact h
theorem imgOK.kp {σ σ' : Sg} {b : Bool} {k : Nat} {I : Bk} (hk : k < 2) (h : imgOK σ b k I) (h1 : ∀ j, 9 ≤ j → j ≤ 24 → σ'.1 j = σ.1 j) (h149 : σ'.1 149 = σ.1 149) : imgOK σ' b k I := fun hb => by
  obtain ⟨a1, a2, a3⟩ := h hb
  refine ⟨a1, a2.kept (fun j g1 g2 => h1 j (by omega) (by omega)), ?_⟩
  unfold imgM imgD
  rw [h149]
  exact a3
theorem traceOK.kp {σ σ' : Sg} {B B' : Bk} (h : traceOK σ B) (hf : ∀ j, 88 ≤ j → j ≤ 131 → σ'.1 j = σ.1 j) (hb : (trS B B' ∧ σ'.1 0 10 = σ.1 0 10) ∨ σ'.1 0 10 = nI 0) : traceOK σ' B' := by
  rcases hb with ⟨hb, h10⟩ | h10
  · unfold traceOK
    rw [h10]
    rcases h with h | ⟨h, hl⟩
    · exact Or.inl h
    · exact Or.inr ⟨h, hl.kp hf hb⟩
  · exact Or.inl h10
theorem STP.q {α : Type} {σ : Sg} {F M : Sg → Option (α × Sg)} (hI : INV σ) (h : ∀ B, okB B → repB 1 σ B → repMB σ B → cacheOK σ B → QQ B σ (F σ) M) : STP σ F M := by
  obtain ⟨B, k0, k1, I0, I1, hB, hr, hM, hc, ht, hk, h0, h1⟩ := hI
  obtain ⟨r, s1, s2, e1, e2, e3, e4, e5⟩ := h B hB hr hM hc
  have w : ∀ j, ¬ inKC j → ¬ inKM j → s2.1 j = σ.1 j := fun j a b => by rw [(e5.1 j b).1, (e3.1 j a).1]
  have z : ∀ y, y ≠ 8 → s2.1 0 y = σ.1 0 y := fun y hy => by rw [(e5.1 0 (by unfold inKM; omega)).1]; exact e3.2 y hy
  refine ⟨r, s1, s2, e1, e2, B, k0, k1, I0, I1, hB, hr.kept (fun j a b => w j (by unfold inKC; omega) (by unfold inKM; omega)), (hM.kc e3).kp e5, e4.kp e5, ht.kp (fun j a b => w j (by unfold inKC; omega) (by unfold inKM; omega)) (Or.inl ⟨⟨rfl, rfl, rfl, rfl, rfl⟩, z 10 (by omega)⟩), hk.kp (z 3 (by omega)) (w 150 (by unfold inKC; omega) (by unfold inKM; omega)), h0.kp (by omega) (fun j a b => w j (by unfold inKC; omega) (by unfold inKM; omega)) (w 149 (by unfold inKC; omega) (by unfold inKM; omega)), h1.kp (by omega) (fun j a b => w j (by unfold inKC; omega) (by unfold inKM; omega)) (w 149 (by unfold inKC; omega) (by unfold inKM; omega))⟩
theorem STP.op {σ : Sg} {F M : Sg → Option (Int32 × Sg)} (hI : INV σ) (h : ∀ B k0 k1 I0 I1, okB B → repB 1 σ B → repMB σ B → cacheOK σ B → keptOK σ k0 k1 → imgOK σ k0 0 I0 → imgOK σ k1 1 I1 → OP B σ (F σ) M) : STP σ F M := by
  obtain ⟨B, k0, k1, I0, I1, hB, hr, hM, hc, ht, hk, h0, h1⟩ := hI
  obtain ⟨r, s1, s2, B', e1, e2, e3, e4, e5, e6, e7, e8, e9⟩ := h B k0 k1 I0 I1 hB hr hM hc hk h0 h1
  have w : ∀ j, ¬ inOP j → s2.1 j = σ.1 j := fun j a => (e7 j a).1
  exact ⟨r, s1, s2, e1, e2, B', k0, k1, I0, I1, e3, e4, e5, e6, ht.kp (fun j a b => w j (by unfold inOP inB; omega)) e9, hk.kp (e8 3 (by omega) (by omega)) (w 150 (by unfold inOP inB; omega)), h0.kp (by omega) (fun j a b => w j (by unfold inOP inB; omega)) (w 149 (by unfold inOP inB; omega)), h1.kp (by omega) (fun j a b => w j (by unfold inOP inB; omega)) (w 149 (by unfold inOP inB; omega))⟩
theorem STP.t {σ : Sg} {F M : Sg → Option (Int32 × Sg)} (hI : INV σ) (h : ∀ B, okB B → repB 1 σ B → repMB σ B → traceOK σ B → TQ B σ (F σ) M) : STP σ F M := by
  obtain ⟨B, k0, k1, I0, I1, hB, hr, hM, hc, ht, hk, h0, h1⟩ := hI
  obtain ⟨r, s1, s2, e1, e2, e3, e4, e5⟩ := h B hB hr hM ht
  have w : ∀ j, ¬ inTr j → ¬ inKM j → s2.1 j = σ.1 j ∧ s2.2 j = σ.2 j := fun j a b => ⟨by rw [(e5.1 j b).1, (e3.1 j a).1], by rw [(e5.1 j b).2, (e3.1 j a).2]⟩
  have z : ∀ y, y ≠ 10 → s2.1 0 y = σ.1 0 y := fun y hy => by rw [(e5.1 0 (by unfold inKM; omega)).1]; exact e3.2 y hy
  have hc2 : cacheOK s2 B := by
    unfold cacheOK
    rw [z 8 (by omega)]
    rcases hc with g | ⟨g, H, g1, g2⟩
    · exact Or.inl g
    · exact Or.inr ⟨g, H, g1, g2.kp (fun j a b c d => w j (by unfold inTr inH; omega) (by unfold inKM; omega))⟩
  refine ⟨r, s1, s2, e1, e2, B, k0, k1, I0, I1, hB, hr.kept (fun j a b => (w j (by unfold inTr inH; omega) (by unfold inKM; omega)).1), (hM.kt e3).kp e5, hc2, e4.kp (fun j a b => (e5.1 j (by unfold inKM; omega)).1) (Or.inl ⟨⟨rfl, rfl, rfl, rfl, rfl⟩, by rw [(e5.1 0 (by unfold inKM; omega)).1]⟩), hk.kp (z 3 (by omega)) (w 150 (by unfold inTr inH; omega) (by unfold inKM; omega)).1, h0.kp (by omega) (fun j a b => (w j (by unfold inTr inH; omega) (by unfold inKM; omega)).1) (w 149 (by unfold inTr inH; omega) (by unfold inKM; omega)).1, h1.kp (by omega) (fun j a b => (w j (by unfold inTr inH; omega) (by unfold inKM; omega)).1) (w 149 (by unfold inTr inH; omega) (by unfold inKM; omega)).1⟩
/-! ### image -/
theorem s_image {σ : Sg} (hI : INV σ) (x1 : Int32) : STP σ (f_X6_image x1) (f_X7_image x1) := by
  rcases yn_c x1 with ⟨u1, v1, _⟩ | ⟨u1, v1, k, hk2, rfl⟩
  · refine ⟨-2, σ, σ, ?_, ?_, hI⟩
    · unfold f_X6_image; rw [if_pos u1]
    · unfold f_X7_image; rw [if_pos v1]
  obtain ⟨B, k0, k1, I0, I1, hB, hr, hM, hc, ht, hk, h0, h1⟩ := hI
  obtain ⟨s1, e1, e2, e3⟩ := copy_ok (b := 9 + 8 * k) (b' := 1) (σ := σ) (Or.inr (by omega)) (by have := hB.1; omega) hr
  obtain ⟨s2, hs2⟩ : ∃ s2, s2 = setR s1 0 (upd (s1.1 0) 3 (nI ((k0 || decide (k = 0)).toNat + 2 * (k1 || decide (k = 1)).toNat))) := ⟨_, rfl⟩
  have z0 : s1.1 0 = σ.1 0 := (e3 0 (by unfold inB; omega)).1
  have w1 : ∀ j, j ≠ 0 → ¬ inB (9 + 8 * k) j → s2.1 j = σ.1 j ∧ s2.2 j = σ.2 j := fun j a b => by
    rw [hs2]
    exact ⟨by rw [sR_n _ _ a]; exact (e3 j b).1, by rw [sR_2]; exact (e3 j b).2⟩
  have hM2 : repMB s2 B := ⟨hM.1.kept (fun j a _ => (w1 j (by omega) (by unfold inB; omega)).1), by rw [(w1 132 (by omega) (by unfold inB; omega)).1]; exact hM.2.1, by rw [(w1 139 (by omega) (by unfold inB; omega)).1]; exact hM.2.2⟩
  obtain ⟨s3, g1, g2, g3, g4, g5⟩ := imageM_ok hk2 hB hM2
  have v : ∀ j, j < 149 → s3.1 j = s2.1 j ∧ s3.2 j = s2.2 j := fun j a => g5 j (by omega)
  have w : ∀ j, j ≠ 0 → ¬ inB (9 + 8 * k) j → j < 149 → s3.1 j = σ.1 j ∧ s3.2 j = σ.2 j := fun j a b c => ⟨(v j c).1.trans (w1 j a b).1, (v j c).2.trans (w1 j a b).2⟩
  have y0 : ∀ y, y ≠ 3 → s3.1 0 y = σ.1 0 y := fun y hy => by rw [(v 0 (by omega)).1, hs2, sR_s, up_n _ _ hy, z0]
  have k150 : s2.1 150 = σ.1 150 := (w1 150 (by omega) (by unfold inB; omega)).1
  have new : repB (9 + 8 * k) s3 B := e2.kept (fun j a b => by rw [(v j (by omega)).1, hs2, sR_n _ _ (by omega)])
  have old : ∀ (b : Bool) (i : Nat) (I : Bk), i < 2 → i ≠ k → imgOK σ b i I → imgOK s3 b i I := fun b i I hi hne h hb => by
    obtain ⟨a1, a2, a3⟩ := h hb
    refine ⟨a1, a2.kept (fun j c1 c2 => (w j (by omega) (by unfold inB; omega) (by omega)).1), ?_⟩
    have q : ∀ y, 245 * i ≤ y → y < 245 * i + 245 → s3.1 149 y = σ.1 149 y := fun y c1 c2 => by
      rw [g3 y (by omega), (w1 149 (by omega) (by unfold inB; omega)).1]
    obtain ⟨m1, m2, m3, m4, m5, m6⟩ := a3
    refine ⟨fun d hd => ?_, by rw [q _ (by omega) (by omega)]; exact m2, by rw [q _ (by omega) (by omega)]; exact m3, by rw [q _ (by omega) (by omega)]; exact m4, by rw [q _ (by omega) (by omega)]; exact m5, by rw [q _ (by omega) (by omega)]; exact m6⟩
    have hn := a1.1
    have := m1 d hd
    unfold imgD at this ⊢
    rw [q _ (by omega) (by omega), q _ (by omega) (by omega), q _ (by omega) (by omega), q _ (by omega) (by omega), q _ (by omega) (by omega), q _ (by omega) (by omega)]
    exact this
  have hkk : keptOK s3 (k0 || decide (k = 0)) (k1 || decide (k = 1)) := by
    obtain ⟨c1, c2, c3⟩ := hk
    refine ⟨by rw [(v 0 (by omega)).1, hs2, sR_s, up_s], ?_, ?_⟩
    · rw [g4, k150]
      by_cases q : k = 0
      · subst q; rw [up_s]; simp [b2i]; rfl
      · rw [up_n _ _ (by omega), c2]; simp [q]
    · rw [g4, k150]
      by_cases q : k = 1
      · subst q; rw [up_s]; simp [b2i]; rfl
      · rw [up_n _ _ (by omega), c3]; simp [q]
  have hc3 : cacheOK s3 B := by
    unfold cacheOK
    rw [y0 8 (by omega)]
    rcases hc with g | ⟨g, H, q1, q2⟩
    · exact Or.inl g
    · exact Or.inr ⟨g, H, q1, q2.kp (fun j a b c d => w j (by omega) (by unfold inB; omega) (by omega))⟩
  refine ⟨1, s2, s3, ?_, g1, B, k0 || decide (k = 0), k1 || decide (k = 1), if k = 0 then B else I0, if k = 1 then B else I1, hB, hr.kept (fun j a b => (w j (by omega) (by unfold inB; omega) (by omega)).1), ?_, hc3, ht.kp (fun j a b => (w j (by omega) (by unfold inB; omega) (by omega)).1) (Or.inl ⟨⟨rfl, rfl, rfl, rfl, rfl⟩, y0 10 (by omega)⟩), hkk, ?_, ?_⟩
  · unfold f_X6_image
    rw [if_neg u1, imAt k hk2, e1, Option.bind_some]
    simp only [jn]
    rw [show s1.1 0 3 = nI (k0.toNat + 2 * k1.toNat) by rw [z0]; exact hk.1, kept_or k0 k1 k hk2, ← hs2]
  · refine ⟨hM2.1.kept (fun j a b => (v j (by omega)).1), by rw [(v 132 (by omega)).1]; exact hM2.2.1, by rw [(v 139 (by omega)).1]; exact hM2.2.2⟩
  · rcases (show k = 0 ∨ k = 1 by omega) with rfl | rfl
    · exact fun _ => ⟨hB, new, g2⟩
    · have := old k0 0 I0 (by omega) (by omega) h0
      simpa using this
  · rcases (show k = 0 ∨ k = 1 by omega) with rfl | rfl
    · have := old k1 1 I1 (by omega) (by omega) h1
      simpa using this
    · exact fun _ => ⟨hB, new, g2⟩
