/-! NUMBERS: small naturals as ints, guards, loops that count up -/
theorem c_le {a b : Nat} (ha : a < 2147483648) (hb : b < 2147483648) : (nI a ≤ nI b) = (a ≤ b) := propext (nI_leI ha hb)
theorem c_lt {a b : Nat} (ha : a < 2147483648) (hb : b < 2147483648) : (nI a < nI b) = (a < b) := propext (nI_ltI ha hb)
theorem c_eq {a b : Nat} (ha : a < 2147483648) (hb : b < 2147483648) : (nI a = nI b) = (a = b) := propext (nI_eq ha hb)
theorem c_tn {a : Nat} (ha : a < 2147483648) : (nI a).toNatClampNeg = a := nI_clamp ha
theorem c_ti {a : Nat} (ha : a < 2147483648) : (nI a).toInt = (a : Int) := nI_toInt ha
theorem c_inb {a n : Nat} (ha : a < 2147483648) : inb (nI a) n = (a < n) := by
  unfold inb
  rw [c_ti ha]
  exact propext ⟨fun h => by omega, fun h => by omega⟩
theorem c_add (a b : Nat) : nI a + nI b = nI (a + b) := nI_add a b
theorem c_sub {a b : Nat} (h : b ≤ a) : nI a - nI b = nI (a - b) := pk_sub h
theorem c_mul (a b : Nat) : nI a * nI b = nI (a * b) := pk_mul a b
theorem li0 : (0 : Int32) = nI 0 := rfl
theorem li1 : (1 : Int32) = nI 1 := rfl
theorem li2 : (2 : Int32) = nI 2 := rfl
theorem li3 : (3 : Int32) = nI 3 := rfl
theorem li4 : (4 : Int32) = nI 4 := rfl
theorem li5 : (5 : Int32) = nI 5 := rfl
theorem li6 : (6 : Int32) = nI 6 := rfl
theorem li7 : (7 : Int32) = nI 7 := rfl
theorem li8 : (8 : Int32) = nI 8 := rfl
theorem li9 : (9 : Int32) = nI 9 := rfl
theorem li10 : (10 : Int32) = nI 10 := rfl
theorem li15 : (15 : Int32) = nI 15 := rfl
theorem li31 : (31 : Int32) = nI 31 := rfl
theorem li32 : (32 : Int32) = nI 32 := rfl
theorem li40 : (40 : Int32) = nI 40 := rfl
theorem li41 : (41 : Int32) = nI 41 := rfl
theorem li49 : (49 : Int32) = nI 49 := rfl
theorem li50 : (50 : Int32) = nI 50 := rfl
theorem li99 : (99 : Int32) = nI 99 := rfl
theorem li100 : (100 : Int32) = nI 100 := rfl
theorem li999 : (999 : Int32) = nI 999 := rfl
theorem run_for {β : Type} (P : Nat → Nat → Option β) (N : Nat) (R : Option β) (hs : ∀ k, k < N → ∀ m, P (m + 1) k = P m (k + 1)) (he : ∀ m, P (m + 1) N = R) : ∀ (j k m : Nat), k + j = N → j < m → P m k = R := by
  intro j
  induction j with
  | zero =>
    intro k m hk hm
    obtain ⟨m', rfl⟩ : ∃ m', m = m' + 1 := ⟨m - 1, by omega⟩
    have : k = N := by omega
    subst this
    exact he m'
  | succ j ih =>
    intro k m hk hm
    obtain ⟨m', rfl⟩ : ∃ m', m = m' + 1 := ⟨m - 1, by omega⟩
    rw [hs k (by omega) m']
    exact ih (k + 1) m' (by omega) (by omega)
/-- a loop from 0 up with the fuel of a whole loop -/
theorem run_FU {β : Type} (P : Nat → Nat → Option β) (N : Nat) (R : Option β) (hN : N < 4000) (hs : ∀ k, k < N → ∀ m, P (m + 1) k = P m (k + 1)) (he : ∀ m, P (m + 1) N = R) : P FU 0 = R :=
  run_for P N R hs he N 0 FU (by omega) (by unfold FU; exact hN)
/-- a loop with a state that an invariant describes -/
theorem run_inv {α β : Type} (P : Nat → Nat → α → Option β) (I : Nat → α → Prop) (N : Nat) (Post : Option β → Prop) (hs : ∀ k, k < N → ∀ m a, I k a → (∃ a', I (k + 1) a' ∧ P (m + 1) k a = P m (k + 1) a') ∨ Post (P (m + 1) k a)) (he : ∀ m a, I N a → Post (P (m + 1) N a)) : ∀ (j k m : Nat) (a : α), k + j = N → j < m → I k a → Post (P m k a) := by
  intro j
  induction j with
  | zero =>
    intro k m a hk hm ha
    obtain ⟨m', rfl⟩ : ∃ m', m = m' + 1 := ⟨m - 1, by omega⟩
    have : k = N := by omega
    subst this
    exact he m' a ha
  | succ j ih =>
    intro k m a hk hm ha
    obtain ⟨m', rfl⟩ : ∃ m', m = m' + 1 := ⟨m - 1, by omega⟩
    rcases hs k (by omega) m' a ha with ⟨a', h1, h2⟩ | h
    · rw [h2]
      exact ih (k + 1) m' a' (by omega) (by omega) h1
    · exact h
theorem run_invFU {α β : Type} (P : Nat → Nat → α → Option β) (I : Nat → α → Prop) (N : Nat) (Post : Option β → Prop) (hN : N < 4000) (hs : ∀ k, k < N → ∀ m a, I k a → (∃ a', I (k + 1) a' ∧ P (m + 1) k a = P m (k + 1) a') ∨ Post (P (m + 1) k a)) (he : ∀ m a, I N a → Post (P (m + 1) N a)) (a : α) (ha : I 0 a) : Post (P FU 0 a) :=
  run_inv P I N Post hs he N 0 FU a (by omega) (by unfold FU; exact hN) ha
theorem loop_inv {α γ : Type} (P : Nat → Nat → α → Option γ) (I : Nat → α → Prop) (N : Nat) (out : α → γ) (hN : N < 4000) (hs : ∀ k, k < N → ∀ m a, I k a → ∃ a', P (m + 1) k a = P m (k + 1) a' ∧ I (k + 1) a') (he : ∀ m a, I N a → P (m + 1) N a = some (out a)) (a : α) (ha : I 0 a) : ∃ a', I N a' ∧ P FU 0 a = some (out a') :=
  run_invFU P I N (fun o => ∃ a', I N a' ∧ o = some (out a')) hN (fun k hk m a ha => Or.inl ((hs k hk m a ha).elim (fun a' h => ⟨a', h.2, h.1⟩))) (fun m a ha => ⟨a, ha, he m a ha⟩) a ha
theorem ex_use {α : Type} {p q : α → Prop} {Goal : Prop} (h : ∃ a, p a ∧ q a) (k : ∀ a, p a → q a → Goal) : Goal := h.elim (fun a ha => k a ha.1 ha.2)
/-! ### sets -/
def isw (h x s : Nat) : Bool := h == x || (decide (4 ≤ h) && s.testBit (h - 4))
def b2i (b : Bool) : Int32 := if b then 1 else 0
theorem has_ok : ∀ s, s < 32 → ∀ f, f < 5 → f_X6_has (nI s) (nI f) = b2i (s.testBit f) := by decide +kernel
theorem hasM_ok : ∀ s, s < 32 → ∀ f, f < 5 → f_X7_has (nI s) (nI f) = b2i (s.testBit f) := by decide +kernel
theorem isw_ok : ∀ h, h < 9 → ∀ x, x < 9 → ∀ s, s < 32 → f_X7_isWith (nI h) (nI x) (nI s) = b2i (isw h x s) := by decide +kernel
def alN (x s : Nat) : Nat := (1 <<< x) ||| (s <<< 4)
theorem al_ok : ∀ x, x < 9 → ∀ s, s < 32 → f_X2_allies (nI x) (nI s) = nI (alN x s) := by decide +kernel
theorem al_lt : ∀ x, x < 9 → ∀ s, s < 32 → alN x s < 512 := by decide +kernel
theorem al_bit : ∀ x, x < 9 → ∀ s, s < 32 → ∀ h, h < 9 → (alN x s).testBit h = isw h x s := by decide +kernel
theorem bit_ok : ∀ a, a < 512 → ∀ h, h < 9 → ((nI a &&& (1 <<< (nI h &&& 31)) = 0) = ((a.testBit h) = false)) := by
  intro a ha h hh
  have := (by decide +kernel : ∀ a, a < 512 → ∀ h, h < 9 → decide (nI a &&& (1 <<< (nI h &&& 31)) = 0) = !(a.testBit h)) a ha h hh
  rw [eq_iff_iff, ← decide_eq_true_iff (p := nI a &&& _ = 0), this]
  simp
theorem or_ok : ∀ s, s < 512 → ∀ f, f < 9 → nI s ||| (1 <<< (nI f &&& 31)) = nI (s ||| (1 <<< f)) := by decide +kernel
theorem andn_ok : ∀ s, s < 512 → ∀ f, f < 9 → nI s &&& (((1 : Int32) <<< (nI f &&& 31)) ^^^ (-1 : Int32)) = nI (s &&& (511 ^^^ (1 <<< f))) := by decide +kernel
theorem oror_ok : ∀ s, s < 32 → ∀ t, t < 32 → nI s ||| nI t = nI (s ||| t) := by decide +kernel
