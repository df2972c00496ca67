def L_X6_isSoundWithout_9 (x1 : Int32) : Nat → Int32 → Sg → Option ((Int32 × Sg) ⊕ (Int32 × Sg))
  | 0, _, _ => none
  | n + 1, x2, σ =>
    if (σ.1 1 7) ≤ x2 then
    (some (.inr (x2, σ)))
    else
    (if inb x2 41 then
    (if (σ.1 8 x2.toNatClampNeg) = x1 then
    (L_X6_isSoundWithout_9 x1 n (x2 + 1) σ)
    else
    (Option.bind (f_X2_carryOut 39 1 (σ.1 8 x2.toNatClampNeg) σ) (fun q4 =>
    if q4.1 = 0 then
    (some (.inl (0, q4.2)))
    else
    (L_X6_isSoundWithout_9 x1 n (x2 + 1) q4.2))))
    else none)
set_option maxRecDepth 20000 in
set_option maxHeartbeats 4000000 in
theorem l_X6_isSoundWithout_9 {X : Ctx} (K : Cok X cX6_isSoundWithout 4 RX6) (hR : 2 ≤ X.R.frames ∧ 47 ≤ X.R.locals) {res : Int32 × Sg} (hr : RZ X cX6_isSoundWithout 4 res) {x1 : Int32}  :
    ∀ (n : Nat) (x2 : Int32) (σ : Sg) (o : ((Int32 × Sg) ⊕ (Int32 × Sg))), L_X6_isSoundWithout_9 x1 n x2 σ = some o → (∀ q, o = .inl q → q = res) → (∀ q, o = .inr q → G X 4 58 [(0, .ref (X.ad 0)), (1, .int x1), (2, .int q.1)] [] q.2) → G X 4 9 [(0, .ref (X.ad 0)), (1, .int x1), (2, .int x2)] [] σ := by
  intro n
  induction n with
  | zero => intro x2 σ o h; exact absurd h (by unfold L_X6_isSoundWithout_9; intro h; cases h)
  | succ n ih =>
    intro x2 σ o h hret hexit
    unfold L_X6_isSoundWithout_9 at h
    refine g_iload_n K 2 dX6_isSoundWithout_9 rfl rfl ?_
    refine g_aload_n K 0 dX6_isSoundWithout_10 rfl rfl ?_
    refine g_get (v := .ref (X.ad 1)) K (e_ControlRegister kd_0) ltN_0 rfl 0 (by decide) rfl fw_X6_12 u_X6 dX6_isSoundWithout_11 ?_
    refine g_get (v := .int (σ.1 1 7)) K (e_Book kd_1) ltN_1 rfl 7 (by decide) rfl fw_X6_96 u_X0 dX6_isSoundWithout_14 ?_
    refine g_icmp_ge (tgt := 58) K dX6_isSoundWithout_17 (by decide) (fun c1 => ?_) (fun c1 => ?_)
    · replace h := bp c1 h
      refine g_sub [0, 1, 2] rfl ?_
      exact hexit _ (Option.some.inj h).symm
    · replace h := bn c1 h
      refine g_aload_n K 0 dX6_isSoundWithout_20 rfl rfl ?_
      refine g_get (v := .ref (X.ad 1)) K (e_ControlRegister kd_0) ltN_0 rfl 0 (by decide) rfl fw_X6_12 u_X6 dX6_isSoundWithout_21 ?_
      refine g_get (v := .ref (X.ad 8)) K (e_Book kd_1) ltN_1 rfl 6 (by decide) rfl fw_X6_271 u_X0 dX6_isSoundWithout_24 ?_
      refine g_iload_n K 2 dX6_isSoundWithout_27 rfl rfl ?_
      obtain ⟨g2, h⟩ := og h
      refine g_iald K kd_8 ltN_8 g2 dX6_isSoundWithout_28 ?_
      refine g_istore_n (lv' := [(3, .int (σ.1 8 x2.toNatClampNeg)), (0, .ref (X.ad 0)), (1, .int x1), (2, .int x2)]) K dX6_isSoundWithout_29 rfl (by decide) rfl ?_
      refine g_iload_n K 0 dX6_isSoundWithout_30 rfl rfl ?_
      refine g_iload_n K 2 dX6_isSoundWithout_31 rfl rfl ?_
      refine g_icmp_eq (tgt := 52) K dX6_isSoundWithout_32 (by decide) (fun c3 => ?_) (fun c3 => ?_)
      · replace h := bp c3 h
        refine g_iinc (lv' := [(2, .int (x2 + 1)), (3, .int (σ.1 8 x2.toNatClampNeg)), (0, .ref (X.ad 0)), (1, .int x1)]) K 3 dX6_isSoundWithout_52 rfl (by rw [ic_1]) (by decide) rfl ?_
        refine g_goto (tgt := 9) K dX6_isSoundWithout_55 (by decide) ?_
        refine g_sub [2, 3, 0] rfl ?_
        exact ih _ _ _ h hret hexit
      · replace h := bn c3 h
        refine g_aload_n K 1 dX6_isSoundWithout_35 rfl rfl ?_
        refine g_get (v := .ref (X.ad 39)) K (e_ControlRegister kd_0) ltN_0 rfl 11 (by decide) rfl fw_X6_57 u_X6 dX6_isSoundWithout_36 ?_
        refine g_aload_n K 1 dX6_isSoundWithout_39 rfl rfl ?_
        refine g_get (v := .ref (X.ad 1)) K (e_ControlRegister kd_0) ltN_0 rfl 0 (by decide) rfl fw_X6_12 u_X6 dX6_isSoundWithout_40 ?_
        refine g_iload_n K 0 dX6_isSoundWithout_43 rfl rfl ?_
        obtain ⟨q4, e5, h⟩ := ob h
        refine g_cvi (As := [.ref (X.ad 1), .int (σ.1 8 x2.toNatClampNeg)]) (rest := []) K (m_X2_carryOut is_39 is_1 e5) yv_X2_carryOut ml_X6_274 rfl rfl rfl (e_Holdings kd_39) ltN_39 rfl rfl ⟨Nat.le_trans (Nat.le_of_ble_eq_true rfl) hR.1, Nat.le_trans (Nat.le_of_ble_eq_true rfl) hR.2⟩ (Nat.le_of_ble_eq_true rfl) dX6_isSoundWithout_44 ?_
        refine g_if_ne (tgt := 52) K dX6_isSoundWithout_47 (by decide) (fun c6 => ?_) (fun c6 => ?_)
        · replace h := bn c6 h
          refine g_iinc (lv' := [(2, .int (x2 + 1)), (3, .int (σ.1 8 x2.toNatClampNeg)), (0, .ref (X.ad 0)), (1, .int x1)]) K 3 dX6_isSoundWithout_52 rfl (by rw [ic_1]) (by decide) rfl ?_
          refine g_goto (tgt := 9) K dX6_isSoundWithout_55 (by decide) ?_
          refine g_sub [2, 3, 0] rfl ?_
          exact ih _ _ _ h hret hexit
        · replace h := bp c6 h
          refine g_iconst (v := 0) K dX6_isSoundWithout_50 ic_0 ?_
          exact hr _ _ _ _ dX6_isSoundWithout_51 (hret _ (Option.some.inj h).symm) nb_0
def f_X6_isSoundWithout (x1 : Int32) (σ : Sg) : Option (Int32 × Sg) :=
  Option.bind (f_X2_beginAgain 39 σ) (fun q1 =>
  Option.bind (L_X6_isSoundWithout_9 x1 FU 0 q1) (fun o3 => Sum.elim (fun x => some x) (fun o3 =>
  some (1, o3.2)) o3))
set_option maxRecDepth 20000 in
set_option maxHeartbeats 4000000 in
theorem w_X6_isSoundWithout {X : Ctx} (K : Cok X cX6_isSoundWithout 4 RX6) (hR : 2 ≤ X.R.frames ∧ 47 ≤ X.R.locals) {x1 : Int32} {σ : Sg}  {r : Int32 × Sg} (h : f_X6_isSoundWithout x1 σ = some r) (hr : RZ X cX6_isSoundWithout 4 r) : G X 4 0 [(0, .ref (X.ad 0)), (1, .int x1)] [] σ := by
  unfold f_X6_isSoundWithout at h
  refine g_aload_n K 0 dX6_isSoundWithout_0 rfl rfl ?_
  refine g_get (v := .ref (X.ad 39)) K (e_ControlRegister kd_0) ltN_0 rfl 11 (by decide) rfl fw_X6_57 u_X6 dX6_isSoundWithout_1 ?_
  obtain ⟨q1, e2, h⟩ := ob h
  refine g_cvv (As := []) (rest := []) K (m_X2_beginAgain is_39 e2) yv_X2_beginAgain ml_X6_268 rfl rfl rfl (e_Holdings kd_39) ltN_39 rfl rfl ⟨Nat.le_trans (Nat.le_of_ble_eq_true rfl) hR.1, Nat.le_trans (Nat.le_of_ble_eq_true rfl) hR.2⟩ (Nat.le_of_ble_eq_true rfl) dX6_isSoundWithout_4 ?_
  refine g_iconst (v := 0) K dX6_isSoundWithout_7 ic_0 ?_
  refine g_istore_n (lv' := [(2, .int 0), (0, .ref (X.ad 0)), (1, .int x1)]) K dX6_isSoundWithout_8 rfl (by decide) rfl ?_
  obtain ⟨o3, e4, h⟩ := ob h
  refine g_sub [1, 2, 0] rfl ?_
  refine l_X6_isSoundWithout_9 K hR hr _ _ _ _ e4 (fun x hx => ?_) (fun o3 hx => ?_)
  · subst hx
    exact rt2 h
  · subst hx
    dsimp only [Sum.elim_inr] at h
    refine g_iconst (v := 1) K dX6_isSoundWithout_58 ic_1 ?_
    exact hr _ _ _ _ dX6_isSoundWithout_59 (rt2 h) nb_1
theorem m_X6_isSoundWithout {x1 : Int32} {σ : Sg}  {r : Int32 × Sg} (h : f_X6_isSoundWithout x1 σ = some r) : CI yX6_isSoundWithout cX6_isSoundWithout 4 (some .boolean) 2 47 (fun ad => [.ref (ad 0), .int x1]) σ r.1 r.2 :=
  CZ.of (by decide) (fun _ => Nat.le_of_ble_eq_true rfl) (fun X K hR hr => w_X6_isSoundWithout K hR h hr)
def f_X6_allIsChanged  (σ : Sg) : Option Sg :=
  jn (setR σ 0 (upd (σ.1 0) 8 0)) (fun σ1 =>
  jn (setR σ1 0 (upd (σ1.1 0) 10 0)) (fun σ3 =>
  some (σ3)))
set_option maxRecDepth 20000 in
set_option maxHeartbeats 4000000 in
theorem w_X6_allIsChanged {X : Ctx} (K : Cok X cX6_allIsChanged 1 RX6) (hR : 0 ≤ X.R.frames ∧ 0 ≤ X.R.locals)  {σ : Sg}  {r : Sg} (h : f_X6_allIsChanged σ = some r) (hr : RV X cX6_allIsChanged 1 r) : G X 1 0 [(0, .ref (X.ad 0))] [] σ := by
  unfold f_X6_allIsChanged at h
  refine g_aload_n K 0 dX6_allIsChanged_0 rfl rfl ?_
  refine g_iconst (v := 0) K dX6_allIsChanged_1 ic_0 ?_
  refine g_put (f' := (upd (σ.1 0) 8 0)) K (e_ControlRegister kd_0) ltN_0 rfl 8 (by decide) (e_ControlRegister kd_0) tyX6 tyX6_ok nmX6 rfl (ty := .boolean) (by decide +kernel) rfl rfl (Nat.le_of_ble_eq_true rfl) fw_X6_130 u_X6 dX6_allIsChanged_2 (fun σ1 s2 => ?_)
  replace h := jn_at s2 h
  refine g_aload_n K 0 dX6_allIsChanged_5 rfl rfl ?_
  refine g_iconst (v := 0) K dX6_allIsChanged_6 ic_0 ?_
  refine g_put (f' := (upd (σ1.1 0) 10 0)) K (e_ControlRegister kd_0) ltN_0 rfl 10 (by decide) (e_ControlRegister kd_0) tyX6 tyX6_ok nmX6 rfl (ty := .boolean) (by decide +kernel) rfl rfl (Nat.le_of_ble_eq_true rfl) fw_X6_278 u_X6 dX6_allIsChanged_7 (fun σ3 s4 => ?_)
  replace h := jn_at s4 h
  exact hr _ _ _ dX6_allIsChanged_10 (rt2 h)
theorem m_X6_allIsChanged  {σ : Sg}  {r : Sg} (h : f_X6_allIsChanged σ = some r) : CV yX6_allIsChanged cX6_allIsChanged 1 none 0 0 (fun ad => [.ref (ad 0)]) σ r :=
  CV.of (by decide) (fun _ => Nat.le_of_ble_eq_true rfl) (fun X K hR hr => w_X6_allIsChanged K hR h hr)
def f_X6_enter (x1 : Int32) (x2 : Int32) (x3 : Int32) (x4 : Int32) (x5 : Int32) (x6 : Int32) (σ : Sg) : Option (Int32 × Sg) :=
  Option.bind (f_X0_append 1 x1 x2 x3 x4 x5 x6 σ) (fun q1 =>
  Option.bind (f_X6_isSoundWithout (-1) q1) (fun q3 =>
  if q3.1 = 0 then
  (Option.bind (f_X0_strike 1 ((q3.2.1 1 7) - 1) q3.2) (fun q14 =>
  some ((-5), q14)))
  else
  (if (q3.2.1 1 7) ≤ 40 then
  (Option.bind (f_X6_allIsChanged q3.2) (fun q8 =>
  some ((q8.1 1 7), q8)))
  else
  (Option.bind (f_X0_strike 1 ((q3.2.1 1 7) - 1) q3.2) (fun q11 =>
  some ((-4), q11))))))
set_option maxRecDepth 20000 in
set_option maxHeartbeats 4000000 in
theorem w_X6_enter {X : Ctx} (K : Cok X cX6_enter 8 RX6) (hR : 3 ≤ X.R.frames ∧ 70 ≤ X.R.locals) {x1 : Int32} {x2 : Int32} {x3 : Int32} {x4 : Int32} {x5 : Int32} {x6 : Int32} {σ : Sg}  {r : Int32 × Sg} (h : f_X6_enter x1 x2 x3 x4 x5 x6 σ = some r) (hr : RI X cX6_enter 8 r) : G X 8 0 [(0, .ref (X.ad 0)), (1, .int x1), (2, .int x2), (3, .int x3), (4, .int x4), (5, .int x5), (6, .int x6)] [] σ := by
  unfold f_X6_enter at h
  refine g_aload_n K 0 dX6_enter_0 rfl rfl ?_
  refine g_get (v := .ref (X.ad 1)) K (e_ControlRegister kd_0) ltN_0 rfl 0 (by decide) rfl fw_X6_12 u_X6 dX6_enter_1 ?_
  refine g_iload_n K 1 dX6_enter_4 rfl rfl ?_
  refine g_iload_n K 2 dX6_enter_5 rfl rfl ?_
  refine g_iload_n K 3 dX6_enter_6 rfl rfl ?_
  refine g_iload K 4 dX6_enter_7 rfl ?_
  refine g_iload K 5 dX6_enter_9 rfl ?_
  refine g_iload K 6 dX6_enter_11 rfl ?_
  obtain ⟨q1, e2, h⟩ := ob h
  refine g_cvv (As := [.int x1, .int x2, .int x3, .int x4, .int x5, .int x6]) (rest := []) K (m_X0_append is_1 e2) yv_X0_append ml_X6_264 rfl rfl rfl (e_Book kd_1) ltN_1 rfl rfl ⟨Nat.le_trans (Nat.le_of_ble_eq_true rfl) hR.1, Nat.le_trans (Nat.le_of_ble_eq_true rfl) hR.2⟩ (Nat.le_of_ble_eq_true rfl) dX6_enter_13 ?_
  refine g_iconst (v := 0) K dX6_enter_16 ic_0 ?_
  refine g_istore (lv' := [(7, .int 0), (0, .ref (X.ad 0)), (1, .int x1), (2, .int x2), (3, .int x3), (4, .int x4), (5, .int x5), (6, .int x6)]) K dX6_enter_17 (by decide) rfl ?_
  refine g_aload_n K 1 dX6_enter_19 rfl rfl ?_
  refine g_iconst (v := (-1)) K dX6_enter_20 ic_m1 ?_
  obtain ⟨q3, e4, h⟩ := ob h
  refine g_cvi (As := [.int (-1)]) (rest := []) K (m_X6_isSoundWithout e4) yv_X6_isSoundWithout ml_X6_86 rfl rfl rfl (e_ControlRegister kd_0) ltN_0 rfl rfl ⟨Nat.le_trans (Nat.le_of_ble_eq_true rfl) hR.1, Nat.le_trans (Nat.le_of_ble_eq_true rfl) hR.2⟩ (Nat.le_of_ble_eq_true rfl) dX6_enter_21 ?_
  refine g_if_ne (tgt := 34) K dX6_enter_24 (by decide) (fun c5 => ?_) (fun c5 => ?_)
  · replace h := bn c5 h
    refine g_aload_n K 1 dX6_enter_34 rfl rfl ?_
    refine g_get (v := .ref (X.ad 1)) K (e_ControlRegister kd_0) ltN_0 rfl 0 (by decide) rfl fw_X6_12 u_X6 dX6_enter_35 ?_
    refine g_get (v := .int (q3.2.1 1 7)) K (e_Book kd_1) ltN_1 rfl 7 (by decide) rfl fw_X6_96 u_X0 dX6_enter_38 ?_
    refine g_bipush (v := 40) K dX6_enter_41 bp_40 ?_
    refine g_icmp_le (tgt := 50) K dX6_enter_43 (by decide) (fun c6 => ?_) (fun c6 => ?_)
    · replace h := bp c6 h
      refine g_iload K 0 dX6_enter_50 rfl ?_
      refine g_if_eq (tgt := 74) K dX6_enter_52 (by decide) (fun c7 => ?_) (fun c7 => ?_)
      · refine g_aload_n K 1 dX6_enter_74 rfl rfl ?_
        obtain ⟨q8, e9, h⟩ := ob h
        refine g_cvv (As := []) (rest := []) K (m_X6_allIsChanged e9) yv_X6_allIsChanged ml_X6_93 rfl rfl rfl (e_ControlRegister kd_0) ltN_0 rfl rfl ⟨Nat.le_trans (Nat.le_of_ble_eq_true rfl) hR.1, Nat.le_trans (Nat.le_of_ble_eq_true rfl) hR.2⟩ (Nat.le_of_ble_eq_true rfl) dX6_enter_75 ?_
        refine g_aload_n K 1 dX6_enter_78 rfl rfl ?_
        refine g_get (v := .ref (X.ad 1)) K (e_ControlRegister kd_0) ltN_0 rfl 0 (by decide) rfl fw_X6_12 u_X6 dX6_enter_79 ?_
        refine g_get (v := .int (q8.1 1 7)) K (e_Book kd_1) ltN_1 rfl 7 (by decide) rfl fw_X6_96 u_X0 dX6_enter_82 ?_
        exact hr _ _ _ _ dX6_enter_85 (rt2 h)
      · exact absurd c7 (by decide)
    · replace h := bn c6 h
      refine g_bipush (v := (-4)) K dX6_enter_46 bp_m4 ?_
      refine g_istore (lv' := [(7, .int (-4)), (0, .ref (X.ad 0)), (1, .int x1), (2, .int x2), (3, .int x3), (4, .int x4), (5, .int x5), (6, .int x6)]) K dX6_enter_48 (by decide) rfl ?_
      refine g_iload K 0 dX6_enter_50 rfl ?_
      refine g_if_eq (tgt := 74) K dX6_enter_52 (by decide) (fun c10 => ?_) (fun c10 => ?_)
      · exact absurd c10 (by decide)
      · refine g_aload_n K 1 dX6_enter_55 rfl rfl ?_
        refine g_get (v := .ref (X.ad 1)) K (e_ControlRegister kd_0) ltN_0 rfl 0 (by decide) rfl fw_X6_12 u_X6 dX6_enter_56 ?_
        refine g_aload_n K 1 dX6_enter_59 rfl rfl ?_
        refine g_get (v := .ref (X.ad 1)) K (e_ControlRegister kd_0) ltN_0 rfl 0 (by decide) rfl fw_X6_12 u_X6 dX6_enter_60 ?_
        refine g_get (v := .int (q3.2.1 1 7)) K (e_Book kd_1) ltN_1 rfl 7 (by decide) rfl fw_X6_96 u_X0 dX6_enter_63 ?_
        refine g_iconst (v := 1) K dX6_enter_66 ic_1 ?_
        refine g_isub K dX6_enter_67 ?_
        obtain ⟨q11, e12, h⟩ := ob h
        refine g_cvv (As := [.int ((q3.2.1 1 7) - 1)]) (rest := []) K (m_X0_strike is_1 e12) yv_X0_strike ml_X6_89 rfl rfl rfl (e_Book kd_1) ltN_1 rfl rfl ⟨Nat.le_trans (Nat.le_of_ble_eq_true rfl) hR.1, Nat.le_trans (Nat.le_of_ble_eq_true rfl) hR.2⟩ (Nat.le_of_ble_eq_true rfl) dX6_enter_68 ?_
        refine g_iload K 0 dX6_enter_71 rfl ?_
        exact hr _ _ _ _ dX6_enter_73 (rt2 h)
  · replace h := bp c5 h
    refine g_bipush (v := (-5)) K dX6_enter_27 bp_m5 ?_
    refine g_istore (lv' := [(7, .int (-5)), (0, .ref (X.ad 0)), (1, .int x1), (2, .int x2), (3, .int x3), (4, .int x4), (5, .int x5), (6, .int x6)]) K dX6_enter_29 (by decide) rfl ?_
    refine g_goto (tgt := 50) K dX6_enter_31 (by decide) ?_
    refine g_iload K 0 dX6_enter_50 rfl ?_
    refine g_if_eq (tgt := 74) K dX6_enter_52 (by decide) (fun c13 => ?_) (fun c13 => ?_)
    · exact absurd c13 (by decide)
    · refine g_aload_n K 1 dX6_enter_55 rfl rfl ?_
      refine g_get (v := .ref (X.ad 1)) K (e_ControlRegister kd_0) ltN_0 rfl 0 (by decide) rfl fw_X6_12 u_X6 dX6_enter_56 ?_
      refine g_aload_n K 1 dX6_enter_59 rfl rfl ?_
      refine g_get (v := .ref (X.ad 1)) K (e_ControlRegister kd_0) ltN_0 rfl 0 (by decide) rfl fw_X6_12 u_X6 dX6_enter_60 ?_
      refine g_get (v := .int (q3.2.1 1 7)) K (e_Book kd_1) ltN_1 rfl 7 (by decide) rfl fw_X6_96 u_X0 dX6_enter_63 ?_
      refine g_iconst (v := 1) K dX6_enter_66 ic_1 ?_
      refine g_isub K dX6_enter_67 ?_
      obtain ⟨q14, e15, h⟩ := ob h
      refine g_cvv (As := [.int ((q3.2.1 1 7) - 1)]) (rest := []) K (m_X0_strike is_1 e15) yv_X0_strike ml_X6_89 rfl rfl rfl (e_Book kd_1) ltN_1 rfl rfl ⟨Nat.le_trans (Nat.le_of_ble_eq_true rfl) hR.1, Nat.le_trans (Nat.le_of_ble_eq_true rfl) hR.2⟩ (Nat.le_of_ble_eq_true rfl) dX6_enter_68 ?_
      refine g_iload K 0 dX6_enter_71 rfl ?_
      exact hr _ _ _ _ dX6_enter_73 (rt2 h)
theorem m_X6_enter {x1 : Int32} {x2 : Int32} {x3 : Int32} {x4 : Int32} {x5 : Int32} {x6 : Int32} {σ : Sg}  {r : Int32 × Sg} (h : f_X6_enter x1 x2 x3 x4 x5 x6 σ = some r) : CI yX6_enter cX6_enter 8 (some .int) 3 70 (fun ad => [.ref (ad 0), .int x1, .int x2, .int x3, .int x4, .int x5, .int x6]) σ r.1 r.2 :=
  CI.of (by decide) (fun _ => Nat.le_of_ble_eq_true rfl) (fun X K hR hr => w_X6_enter K hR h hr)
def f_X6_sell (x1 : Int32) (x2 : Int32) (x3 : Int32) (x4 : Int32) (x5 : Int32) (x6 : Int32) (σ : Sg) : Option (Int32 × Sg) :=
  if (f_X6_isHolder x3) = 0 then
  (some ((-1), σ))
  else
  (if (f_X6_isHolder x4) = 0 then
  (some ((-1), σ))
  else
  (if (f_X6_isFirm x5) = 0 then
  (some ((-1), σ))
  else
  (if (f_X6_isDay x2) = 0 then
  (some ((-2), σ))
  else
  (if x6 < 1 then
  (some ((-2), σ))
  else
  (if x6 ≤ 100 then
  (if x3 = x4 then
  (some ((-2), σ))
  else
  (if x3 = (f_X6_holderOf x5) then
  (some ((-2), σ))
  else
  (if x4 = (f_X6_holderOf x5) then
  (some ((-2), σ))
  else
  (Option.bind (f_X6_enter x2 x1 x5 x3 x4 x6 σ) (fun q10 =>
  some (q10.1, q10.2))))))
  else
  (some ((-2), σ)))))))
set_option maxRecDepth 20000 in
set_option maxHeartbeats 4000000 in
theorem w_X6_sell {X : Ctx} (K : Cok X cX6_sell 7 RX6) (hR : 4 ≤ X.R.frames ∧ 97 ≤ X.R.locals) {x1 : Int32} {x2 : Int32} {x3 : Int32} {x4 : Int32} {x5 : Int32} {x6 : Int32} {σ : Sg}  {r : Int32 × Sg} (h : f_X6_sell x1 x2 x3 x4 x5 x6 σ = some r) (hr : RI X cX6_sell 7 r) : G X 7 0 [(0, .ref (X.ad 0)), (1, .int x1), (2, .int x2), (3, .int x3), (4, .int x4), (5, .int x5), (6, .int x6)] [] σ := by
  unfold f_X6_sell at h
  refine g_iload_n K 3 dX6_sell_0 rfl rfl ?_
  refine g_csi (As := [.int x3]) (rest := []) K (m_X6_isHolder x3 σ) yv_X6_isHolder ml_X6_143 rfl rfl rfl ⟨Nat.le_trans (Nat.le_of_ble_eq_true rfl) hR.1, Nat.le_trans (Nat.le_of_ble_eq_true rfl) hR.2⟩ (Nat.le_of_ble_eq_true rfl) dX6_sell_1 ?_
  refine g_if_eq (tgt := 23) K dX6_sell_4 (by decide) (fun c1 => ?_) (fun c1 => ?_)
  · replace h := bp c1 h
    refine g_iconst (v := (-1)) K dX6_sell_23 ic_m1 ?_
    exact hr _ _ _ _ dX6_sell_24 (rt2 h)
  · replace h := bn c1 h
    refine g_iload K 4 dX6_sell_7 rfl ?_
    refine g_csi (As := [.int x4]) (rest := []) K (m_X6_isHolder x4 σ) yv_X6_isHolder ml_X6_143 rfl rfl rfl ⟨Nat.le_trans (Nat.le_of_ble_eq_true rfl) hR.1, Nat.le_trans (Nat.le_of_ble_eq_true rfl) hR.2⟩ (Nat.le_of_ble_eq_true rfl) dX6_sell_9 ?_
    refine g_if_eq (tgt := 23) K dX6_sell_12 (by decide) (fun c2 => ?_) (fun c2 => ?_)
    · replace h := bp c2 h
      refine g_iconst (v := (-1)) K dX6_sell_23 ic_m1 ?_
      exact hr _ _ _ _ dX6_sell_24 (rt2 h)
    · replace h := bn c2 h
      refine g_iload K 5 dX6_sell_15 rfl ?_
      refine g_csi (As := [.int x5]) (rest := []) K (m_X6_isFirm x5 σ) yv_X6_isFirm ml_X6_71 rfl rfl rfl ⟨Nat.le_trans (Nat.le_of_ble_eq_true rfl) hR.1, Nat.le_trans (Nat.le_of_ble_eq_true rfl) hR.2⟩ (Nat.le_of_ble_eq_true rfl) dX6_sell_17 ?_
      refine g_if_ne (tgt := 25) K dX6_sell_20 (by decide) (fun c3 => ?_) (fun c3 => ?_)
      · replace h := bn c3 h
        refine g_iload_n K 2 dX6_sell_25 rfl rfl ?_
        refine g_csi (As := [.int x2]) (rest := []) K (m_X6_isDay x2 σ) yv_X6_isDay ml_X6_74 rfl rfl rfl ⟨Nat.le_trans (Nat.le_of_ble_eq_true rfl) hR.1, Nat.le_trans (Nat.le_of_ble_eq_true rfl) hR.2⟩ (Nat.le_of_ble_eq_true rfl) dX6_sell_26 ?_
        refine g_if_eq (tgt := 45) K dX6_sell_29 (by decide) (fun c4 => ?_) (fun c4 => ?_)
        · replace h := bp c4 h
          refine g_bipush (v := (-2)) K dX6_sell_45 bp_m2 ?_
          exact hr _ _ _ _ dX6_sell_47 (rt2 h)
        · replace h := bn c4 h
          refine g_iload K 6 dX6_sell_32 rfl ?_
          refine g_iconst (v := 1) K dX6_sell_34 ic_1 ?_
          refine g_icmp_lt (tgt := 45) K dX6_sell_35 (by decide) (fun c5 => ?_) (fun c5 => ?_)
          · replace h := bp c5 h
            refine g_bipush (v := (-2)) K dX6_sell_45 bp_m2 ?_
            exact hr _ _ _ _ dX6_sell_47 (rt2 h)
          · replace h := bn c5 h
            refine g_iload K 6 dX6_sell_38 rfl ?_
            refine g_bipush (v := 100) K dX6_sell_40 bp_100 ?_
            refine g_icmp_le (tgt := 48) K dX6_sell_42 (by decide) (fun c6 => ?_) (fun c6 => ?_)
            · replace h := bp c6 h
              refine g_iload_n K 3 dX6_sell_48 rfl rfl ?_
              refine g_iload K 4 dX6_sell_49 rfl ?_
              refine g_icmp_eq (tgt := 73) K dX6_sell_51 (by decide) (fun c7 => ?_) (fun c7 => ?_)
              · replace h := bp c7 h
                refine g_bipush (v := (-2)) K dX6_sell_73 bp_m2 ?_
                exact hr _ _ _ _ dX6_sell_75 (rt2 h)
              · replace h := bn c7 h
                refine g_iload_n K 3 dX6_sell_54 rfl rfl ?_
                refine g_iload K 5 dX6_sell_55 rfl ?_
                refine g_csi (As := [.int x5]) (rest := [.int x3]) K (m_X6_holderOf x5 σ) yv_X6_holderOf ml_X6_187 rfl rfl rfl ⟨Nat.le_trans (Nat.le_of_ble_eq_true rfl) hR.1, Nat.le_trans (Nat.le_of_ble_eq_true rfl) hR.2⟩ (Nat.le_of_ble_eq_true rfl) dX6_sell_57 ?_
                refine g_icmp_eq (tgt := 73) K dX6_sell_60 (by decide) (fun c8 => ?_) (fun c8 => ?_)
                · replace h := bp c8 h
                  refine g_bipush (v := (-2)) K dX6_sell_73 bp_m2 ?_
                  exact hr _ _ _ _ dX6_sell_75 (rt2 h)
                · replace h := bn c8 h
                  refine g_iload K 4 dX6_sell_63 rfl ?_
                  refine g_iload K 5 dX6_sell_65 rfl ?_
                  refine g_csi (As := [.int x5]) (rest := [.int x4]) K (m_X6_holderOf x5 σ) yv_X6_holderOf ml_X6_187 rfl rfl rfl ⟨Nat.le_trans (Nat.le_of_ble_eq_true rfl) hR.1, Nat.le_trans (Nat.le_of_ble_eq_true rfl) hR.2⟩ (Nat.le_of_ble_eq_true rfl) dX6_sell_67 ?_
                  refine g_icmp_ne (tgt := 76) K dX6_sell_70 (by decide) (fun c9 => ?_) (fun c9 => ?_)
                  · replace h := bn c9 h
                    refine g_aload_n K 0 dX6_sell_76 rfl rfl ?_
                    refine g_iload_n K 2 dX6_sell_77 rfl rfl ?_
                    refine g_iload_n K 1 dX6_sell_78 rfl rfl ?_
                    refine g_iload K 5 dX6_sell_79 rfl ?_
                    refine g_iload_n K 3 dX6_sell_81 rfl rfl ?_
                    refine g_iload K 4 dX6_sell_82 rfl ?_
                    refine g_iload K 6 dX6_sell_84 rfl ?_
                    obtain ⟨q10, e11, h⟩ := ob h
                    refine g_cvi (As := [.int x2, .int x1, .int x5, .int x3, .int x4, .int x6]) (rest := []) K (m_X6_enter e11) yv_X6_enter ml_X6_80 rfl rfl rfl (e_ControlRegister kd_0) ltN_0 rfl rfl ⟨Nat.le_trans (Nat.le_of_ble_eq_true rfl) hR.1, Nat.le_trans (Nat.le_of_ble_eq_true rfl) hR.2⟩ (Nat.le_of_ble_eq_true rfl) dX6_sell_86 ?_
                    exact hr _ _ _ _ dX6_sell_89 (rt2 h)
                  · replace h := bp c9 h
                    refine g_bipush (v := (-2)) K dX6_sell_73 bp_m2 ?_
                    exact hr _ _ _ _ dX6_sell_75 (rt2 h)
            · replace h := bn c6 h
              refine g_bipush (v := (-2)) K dX6_sell_45 bp_m2 ?_
              exact hr _ _ _ _ dX6_sell_47 (rt2 h)
      · replace h := bp c3 h
        refine g_iconst (v := (-1)) K dX6_sell_23 ic_m1 ?_
        exact hr _ _ _ _ dX6_sell_24 (rt2 h)
theorem m_X6_sell {x1 : Int32} {x2 : Int32} {x3 : Int32} {x4 : Int32} {x5 : Int32} {x6 : Int32} {σ : Sg}  {r : Int32 × Sg} (h : f_X6_sell x1 x2 x3 x4 x5 x6 σ = some r) : CI yX6_sell cX6_sell 7 (some .int) 4 97 (fun ad => [.ref (ad 0), .int x1, .int x2, .int x3, .int x4, .int x5, .int x6]) σ r.1 r.2 :=
  CI.of (by decide) (fun _ => Nat.le_of_ble_eq_true rfl) (fun X K hR hr => w_X6_sell K hR h hr)
def f_X6_sellShares (x1 : Int32) (x2 : Int32) (x3 : Int32) (x4 : Int32) (x5 : Int32) (σ : Sg) : Option (Int32 × Sg) :=
  Option.bind (f_X6_sell 0 x1 x2 x3 x4 x5 σ) (fun q1 =>
  some (q1.1, q1.2))
set_option maxRecDepth 20000 in
set_option maxHeartbeats 4000000 in
theorem w_X6_sellShares {X : Ctx} (K : Cok X cX6_sellShares 6 RX6) (hR : 5 ≤ X.R.frames ∧ 123 ≤ X.R.locals) {x1 : Int32} {x2 : Int32} {x3 : Int32} {x4 : Int32} {x5 : Int32} {σ : Sg}  {r : Int32 × Sg} (h : f_X6_sellShares x1 x2 x3 x4 x5 σ = some r) (hr : RI X cX6_sellShares 6 r) : G X 6 0 [(0, .ref (X.ad 0)), (1, .int x1), (2, .int x2), (3, .int x3), (4, .int x4), (5, .int x5)] [] σ := by
  unfold f_X6_sellShares at h
  refine g_aload_n K 0 dX6_sellShares_0 rfl rfl ?_
  refine g_iconst (v := 0) K dX6_sellShares_1 ic_0 ?_
  refine g_iload_n K 1 dX6_sellShares_2 rfl rfl ?_
  refine g_iload_n K 2 dX6_sellShares_3 rfl rfl ?_
  refine g_iload_n K 3 dX6_sellShares_4 rfl rfl ?_
  refine g_iload K 4 dX6_sellShares_5 rfl ?_
  refine g_iload K 5 dX6_sellShares_7 rfl ?_
  obtain ⟨q1, e2, h⟩ := ob h
  refine g_cvi (As := [.int 0, .int x1, .int x2, .int x3, .int x4, .int x5]) (rest := []) K (m_X6_sell e2) yv_X6_sell ml_X6_63 rfl rfl rfl (e_ControlRegister kd_0) ltN_0 rfl rfl ⟨Nat.le_trans (Nat.le_of_ble_eq_true rfl) hR.1, Nat.le_trans (Nat.le_of_ble_eq_true rfl) hR.2⟩ (Nat.le_of_ble_eq_true rfl) dX6_sellShares_9 ?_
  exact hr _ _ _ _ dX6_sellShares_12 (rt2 h)
theorem m_X6_sellShares {x1 : Int32} {x2 : Int32} {x3 : Int32} {x4 : Int32} {x5 : Int32} {σ : Sg}  {r : Int32 × Sg} (h : f_X6_sellShares x1 x2 x3 x4 x5 σ = some r) : CI yX6_sellShares cX6_sellShares 6 (some .int) 5 123 (fun ad => [.ref (ad 0), .int x1, .int x2, .int x3, .int x4, .int x5]) σ r.1 r.2 :=
  CI.of (by decide) (fun _ => Nat.le_of_ble_eq_true rfl) (fun X K hR hr => w_X6_sellShares K hR h hr)
def f_X6_sellVotes (x1 : Int32) (x2 : Int32) (x3 : Int32) (x4 : Int32) (x5 : Int32) (σ : Sg) : Option (Int32 × Sg) :=
  Option.bind (f_X6_sell 1 x1 x2 x3 x4 x5 σ) (fun q1 =>
  some (q1.1, q1.2))
set_option maxRecDepth 20000 in
set_option maxHeartbeats 4000000 in
theorem w_X6_sellVotes {X : Ctx} (K : Cok X cX6_sellVotes 6 RX6) (hR : 5 ≤ X.R.frames ∧ 123 ≤ X.R.locals) {x1 : Int32} {x2 : Int32} {x3 : Int32} {x4 : Int32} {x5 : Int32} {σ : Sg}  {r : Int32 × Sg} (h : f_X6_sellVotes x1 x2 x3 x4 x5 σ = some r) (hr : RI X cX6_sellVotes 6 r) : G X 6 0 [(0, .ref (X.ad 0)), (1, .int x1), (2, .int x2), (3, .int x3), (4, .int x4), (5, .int x5)] [] σ := by
  unfold f_X6_sellVotes at h
  refine g_aload_n K 0 dX6_sellVotes_0 rfl rfl ?_
  refine g_iconst (v := 1) K dX6_sellVotes_1 ic_1 ?_
  refine g_iload_n K 1 dX6_sellVotes_2 rfl rfl ?_
  refine g_iload_n K 2 dX6_sellVotes_3 rfl rfl ?_
  refine g_iload_n K 3 dX6_sellVotes_4 rfl rfl ?_
  refine g_iload K 4 dX6_sellVotes_5 rfl ?_
  refine g_iload K 5 dX6_sellVotes_7 rfl ?_
  obtain ⟨q1, e2, h⟩ := ob h
  refine g_cvi (As := [.int 1, .int x1, .int x2, .int x3, .int x4, .int x5]) (rest := []) K (m_X6_sell e2) yv_X6_sell ml_X6_63 rfl rfl rfl (e_ControlRegister kd_0) ltN_0 rfl rfl ⟨Nat.le_trans (Nat.le_of_ble_eq_true rfl) hR.1, Nat.le_trans (Nat.le_of_ble_eq_true rfl) hR.2⟩ (Nat.le_of_ble_eq_true rfl) dX6_sellVotes_9 ?_
  exact hr _ _ _ _ dX6_sellVotes_12 (rt2 h)
theorem m_X6_sellVotes {x1 : Int32} {x2 : Int32} {x3 : Int32} {x4 : Int32} {x5 : Int32} {σ : Sg}  {r : Int32 × Sg} (h : f_X6_sellVotes x1 x2 x3 x4 x5 σ = some r) : CI yX6_sellVotes cX6_sellVotes 6 (some .int) 5 123 (fun ad => [.ref (ad 0), .int x1, .int x2, .int x3, .int x4, .int x5]) σ r.1 r.2 :=
  CI.of (by decide) (fun _ => Nat.le_of_ble_eq_true rfl) (fun X K hR hr => w_X6_sellVotes K hR h hr)
def f_X6_veto (x1 : Int32) (x2 : Int32) (x3 : Int32) (x4 : Int32) (σ : Sg) : Option (Int32 × Sg) :=
  if (f_X6_isController x2) = 0 then
  (some ((-1), σ))
  else
  (if (f_X6_isFirm x3) = 0 then
  (some ((-1), σ))
  else
  (if (f_X6_isDay x1) = 0 then
  (some ((-2), σ))
  else
  (if (f_X6_isYesOrNo x4) = 0 then
  (some ((-2), σ))
  else
  (jn (if x4 = 1 then (2) else (3) : Int32) (fun v7 =>
  Option.bind (f_X6_enter x1 v7 x3 (-6) x2 0 σ) (fun q9 =>
  some (q9.1, q9.2)))))))
set_option maxRecDepth 20000 in
set_option maxHeartbeats 4000000 in
theorem w_X6_veto {X : Ctx} (K : Cok X cX6_veto 5 RX6) (hR : 4 ≤ X.R.frames ∧ 97 ≤ X.R.locals) {x1 : Int32} {x2 : Int32} {x3 : Int32} {x4 : Int32} {σ : Sg}  {r : Int32 × Sg} (h : f_X6_veto x1 x2 x3 x4 σ = some r) (hr : RI X cX6_veto 5 r) : G X 5 0 [(0, .ref (X.ad 0)), (1, .int x1), (2, .int x2), (3, .int x3), (4, .int x4)] [] σ := by
  unfold f_X6_veto at h
  refine g_iload_n K 2 dX6_veto_0 rfl rfl ?_
  refine g_csi (As := [.int x2]) (rest := []) K (m_X6_isController x2 σ) yv_X6_isController ml_X6_67 rfl rfl rfl ⟨Nat.le_trans (Nat.le_of_ble_eq_true rfl) hR.1, Nat.le_trans (Nat.le_of_ble_eq_true rfl) hR.2⟩ (Nat.le_of_ble_eq_true rfl) dX6_veto_1 ?_
  refine g_if_eq (tgt := 14) K dX6_veto_4 (by decide) (fun c1 => ?_) (fun c1 => ?_)
  · replace h := bp c1 h
    refine g_iconst (v := (-1)) K dX6_veto_14 ic_m1 ?_
    exact hr _ _ _ _ dX6_veto_15 (rt2 h)
  · replace h := bn c1 h
    refine g_iload_n K 3 dX6_veto_7 rfl rfl ?_
    refine g_csi (As := [.int x3]) (rest := []) K (m_X6_isFirm x3 σ) yv_X6_isFirm ml_X6_71 rfl rfl rfl ⟨Nat.le_trans (Nat.le_of_ble_eq_true rfl) hR.1, Nat.le_trans (Nat.le_of_ble_eq_true rfl) hR.2⟩ (Nat.le_of_ble_eq_true rfl) dX6_veto_8 ?_
    refine g_if_ne (tgt := 16) K dX6_veto_11 (by decide) (fun c2 => ?_) (fun c2 => ?_)
    · replace h := bn c2 h
      refine g_iload_n K 1 dX6_veto_16 rfl rfl ?_
      refine g_csi (As := [.int x1]) (rest := []) K (m_X6_isDay x1 σ) yv_X6_isDay ml_X6_74 rfl rfl rfl ⟨Nat.le_trans (Nat.le_of_ble_eq_true rfl) hR.1, Nat.le_trans (Nat.le_of_ble_eq_true rfl) hR.2⟩ (Nat.le_of_ble_eq_true rfl) dX6_veto_17 ?_
      refine g_if_eq (tgt := 31) K dX6_veto_20 (by decide) (fun c3 => ?_) (fun c3 => ?_)
      · replace h := bp c3 h
        refine g_bipush (v := (-2)) K dX6_veto_31 bp_m2 ?_
        exact hr _ _ _ _ dX6_veto_33 (rt2 h)
      · replace h := bn c3 h
        refine g_iload K 4 dX6_veto_23 rfl ?_
        refine g_csi (As := [.int x4]) (rest := []) K (m_X6_isYesOrNo x4 σ) yv_X6_isYesOrNo ml_X6_77 rfl rfl rfl ⟨Nat.le_trans (Nat.le_of_ble_eq_true rfl) hR.1, Nat.le_trans (Nat.le_of_ble_eq_true rfl) hR.2⟩ (Nat.le_of_ble_eq_true rfl) dX6_veto_25 ?_
        refine g_if_ne (tgt := 34) K dX6_veto_28 (by decide) (fun c4 => ?_) (fun c4 => ?_)
        · replace h := bn c4 h
          refine g_aload_n K 0 dX6_veto_34 rfl rfl ?_
          refine g_iload_n K 1 dX6_veto_35 rfl rfl ?_
          refine g_iload K 4 dX6_veto_36 rfl ?_
          refine g_iconst (v := 1) K dX6_veto_38 ic_1 ?_
          refine jn_cut h (P := (fun v7 => G X 5 47 [(0, .ref (X.ad 0)), (1, .int x1), (2, .int x2), (3, .int x3), (4, .int x4)] [.int v7, .int x1, .ref (X.ad 0)] σ)) (fun v7 h => ?_) (fun tail_6 => ?_)
          · refine g_iload_n K 3 dX6_veto_47 rfl rfl ?_
            refine g_bipush (v := (-6)) K dX6_veto_48 bp_m6 ?_
            refine g_iload_n K 2 dX6_veto_50 rfl rfl ?_
            refine g_iconst (v := 0) K dX6_veto_51 ic_0 ?_
            obtain ⟨q9, e10, h⟩ := ob h
            refine g_cvi (As := [.int x1, .int v7, .int x3, .int (-6), .int x2, .int 0]) (rest := []) K (m_X6_enter e10) yv_X6_enter ml_X6_80 rfl rfl rfl (e_ControlRegister kd_0) ltN_0 rfl rfl ⟨Nat.le_trans (Nat.le_of_ble_eq_true rfl) hR.1, Nat.le_trans (Nat.le_of_ble_eq_true rfl) hR.2⟩ (Nat.le_of_ble_eq_true rfl) dX6_veto_52 ?_
            exact hr _ _ _ _ dX6_veto_55 (rt2 h)
          · refine g_icmp_ne (tgt := 46) K dX6_veto_39 (by decide) (fun c8 => ?_) (fun c8 => ?_)
            · replace h := jpn c8 h
              refine g_iconst (v := 3) K dX6_veto_46 ic_3 ?_
              exact tail_6 _ h
            · replace h := jpp c8 h
              refine g_iconst (v := 2) K dX6_veto_42 ic_2 ?_
              refine g_goto (tgt := 47) K dX6_veto_43 (by decide) ?_
              exact tail_6 _ h
        · replace h := bp c4 h
          refine g_bipush (v := (-2)) K dX6_veto_31 bp_m2 ?_
          exact hr _ _ _ _ dX6_veto_33 (rt2 h)
    · replace h := bp c2 h
      refine g_iconst (v := (-1)) K dX6_veto_14 ic_m1 ?_
      exact hr _ _ _ _ dX6_veto_15 (rt2 h)
theorem m_X6_veto {x1 : Int32} {x2 : Int32} {x3 : Int32} {x4 : Int32} {σ : Sg}  {r : Int32 × Sg} (h : f_X6_veto x1 x2 x3 x4 σ = some r) : CI yX6_veto cX6_veto 5 (some .int) 4 97 (fun ad => [.ref (ad 0), .int x1, .int x2, .int x3, .int x4]) σ r.1 r.2 :=
  CI.of (by decide) (fun _ => Nat.le_of_ble_eq_true rfl) (fun X K hR hr => w_X6_veto K hR h hr)
def f_X6_isDeal (x1 : Int32) (σ : Sg) : Option Int32 :=
  if x1 < 0 then
  (some 0)
  else
  (if (σ.1 1 7) ≤ x1 then
  (some 0)
  else
  (some 1))
set_option maxRecDepth 20000 in
set_option maxHeartbeats 4000000 in
theorem w_X6_isDeal {X : Ctx} (K : Cok X cX6_isDeal 2 RX6) (hR : 0 ≤ X.R.frames ∧ 0 ≤ X.R.locals) {x1 : Int32} {σ : Sg}  {r : Int32} (h : f_X6_isDeal x1 σ = some r) (hr : RZ X cX6_isDeal 2 (r, σ)) : G X 2 0 [(0, .ref (X.ad 0)), (1, .int x1)] [] σ := by
  unfold f_X6_isDeal at h
  refine g_iload_n K 1 dX6_isDeal_0 rfl rfl ?_
  refine g_if_lt (tgt := 19) K dX6_isDeal_1 (by decide) (fun c1 => ?_) (fun c1 => ?_)
  · replace h := bp c1 h
    refine g_iconst (v := 0) K dX6_isDeal_19 ic_0 ?_
    exact hr _ _ _ _ dX6_isDeal_20 (rt1 h) nb_0
  · replace h := bn c1 h
    refine g_iload_n K 1 dX6_isDeal_4 rfl rfl ?_
    refine g_aload_n K 0 dX6_isDeal_5 rfl rfl ?_
    refine g_get (v := .ref (X.ad 1)) K (e_ControlRegister kd_0) ltN_0 rfl 0 (by decide) rfl fw_X6_12 u_X6 dX6_isDeal_6 ?_
    refine g_get (v := .int (σ.1 1 7)) K (e_Book kd_1) ltN_1 rfl 7 (by decide) rfl fw_X6_96 u_X0 dX6_isDeal_9 ?_
    refine g_icmp_ge (tgt := 19) K dX6_isDeal_12 (by decide) (fun c2 => ?_) (fun c2 => ?_)
    · replace h := bp c2 h
      refine g_iconst (v := 0) K dX6_isDeal_19 ic_0 ?_
      exact hr _ _ _ _ dX6_isDeal_20 (rt1 h) nb_0
    · replace h := bn c2 h
      refine g_iconst (v := 1) K dX6_isDeal_15 ic_1 ?_
      refine g_goto (tgt := 20) K dX6_isDeal_16 (by decide) ?_
      exact hr _ _ _ _ dX6_isDeal_20 (rt1 h) nb_1
theorem m_X6_isDeal {x1 : Int32} {σ : Sg}  {r : Int32} (h : f_X6_isDeal x1 σ = some r) : CI yX6_isDeal cX6_isDeal 2 (some .boolean) 0 0 (fun ad => [.ref (ad 0), .int x1]) σ r σ :=
  CZ.of (by decide) (fun _ => Nat.le_of_ble_eq_true rfl) (fun X K hR hr => w_X6_isDeal K hR h hr)
def f_X6_cancel (x1 : Int32) (σ : Sg) : Option (Int32 × Sg) :=
  Option.bind (f_X6_isDeal x1 σ) (fun r1 =>
  if r1 = 0 then
  (some ((-1), σ))
  else
  (Option.bind (f_X6_isSoundWithout x1 σ) (fun q4 =>
  if q4.1 = 0 then
  (some ((-5), q4.2))
  else
  (Option.bind (f_X0_strike 1 x1 q4.2) (fun q7 =>
  Option.bind (f_X6_allIsChanged q7) (fun q9 =>
  some ((q9.1 1 7), q9)))))))
set_option maxRecDepth 20000 in
set_option maxHeartbeats 4000000 in
theorem w_X6_cancel {X : Ctx} (K : Cok X cX6_cancel 2 RX6) (hR : 3 ≤ X.R.frames ∧ 70 ≤ X.R.locals) {x1 : Int32} {σ : Sg}  {r : Int32 × Sg} (h : f_X6_cancel x1 σ = some r) (hr : RI X cX6_cancel 2 r) : G X 2 0 [(0, .ref (X.ad 0)), (1, .int x1)] [] σ := by
  unfold f_X6_cancel at h
  refine g_aload_n K 0 dX6_cancel_0 rfl rfl ?_
  refine g_iload_n K 1 dX6_cancel_1 rfl rfl ?_
  obtain ⟨r1, e2, h⟩ := ob h
  refine g_cvi (As := [.int x1]) (rest := []) K (m_X6_isDeal e2) yv_X6_isDeal ml_X6_83 rfl rfl rfl (e_ControlRegister kd_0) ltN_0 rfl rfl ⟨Nat.le_trans (Nat.le_of_ble_eq_true rfl) hR.1, Nat.le_trans (Nat.le_of_ble_eq_true rfl) hR.2⟩ (Nat.le_of_ble_eq_true rfl) dX6_cancel_2 ?_
  refine g_if_ne (tgt := 10) K dX6_cancel_5 (by decide) (fun c3 => ?_) (fun c3 => ?_)
  · replace h := bn c3 h
    refine g_aload_n K 0 dX6_cancel_10 rfl rfl ?_
    refine g_iload_n K 1 dX6_cancel_11 rfl rfl ?_
    obtain ⟨q4, e5, h⟩ := ob h
    refine g_cvi (As := [.int x1]) (rest := []) K (m_X6_isSoundWithout e5) yv_X6_isSoundWithout ml_X6_86 rfl rfl rfl (e_ControlRegister kd_0) ltN_0 rfl rfl ⟨Nat.le_trans (Nat.le_of_ble_eq_true rfl) hR.1, Nat.le_trans (Nat.le_of_ble_eq_true rfl) hR.2⟩ (Nat.le_of_ble_eq_true rfl) dX6_cancel_12 ?_
    refine g_if_ne (tgt := 21) K dX6_cancel_15 (by decide) (fun c6 => ?_) (fun c6 => ?_)
    · replace h := bn c6 h
      refine g_aload_n K 0 dX6_cancel_21 rfl rfl ?_
      refine g_get (v := .ref (X.ad 1)) K (e_ControlRegister kd_0) ltN_0 rfl 0 (by decide) rfl fw_X6_12 u_X6 dX6_cancel_22 ?_
      refine g_iload_n K 1 dX6_cancel_25 rfl rfl ?_
      obtain ⟨q7, e8, h⟩ := ob h
      refine g_cvv (As := [.int x1]) (rest := []) K (m_X0_strike is_1 e8) yv_X0_strike ml_X6_89 rfl rfl rfl (e_Book kd_1) ltN_1 rfl rfl ⟨Nat.le_trans (Nat.le_of_ble_eq_true rfl) hR.1, Nat.le_trans (Nat.le_of_ble_eq_true rfl) hR.2⟩ (Nat.le_of_ble_eq_true rfl) dX6_cancel_26 ?_
      refine g_aload_n K 0 dX6_cancel_29 rfl rfl ?_
      obtain ⟨q9, e10, h⟩ := ob h
      refine g_cvv (As := []) (rest := []) K (m_X6_allIsChanged e10) yv_X6_allIsChanged ml_X6_93 rfl rfl rfl (e_ControlRegister kd_0) ltN_0 rfl rfl ⟨Nat.le_trans (Nat.le_of_ble_eq_true rfl) hR.1, Nat.le_trans (Nat.le_of_ble_eq_true rfl) hR.2⟩ (Nat.le_of_ble_eq_true rfl) dX6_cancel_30 ?_
      refine g_aload_n K 0 dX6_cancel_33 rfl rfl ?_
      refine g_get (v := .ref (X.ad 1)) K (e_ControlRegister kd_0) ltN_0 rfl 0 (by decide) rfl fw_X6_12 u_X6 dX6_cancel_34 ?_
      refine g_get (v := .int (q9.1 1 7)) K (e_Book kd_1) ltN_1 rfl 7 (by decide) rfl fw_X6_96 u_X0 dX6_cancel_37 ?_
      exact hr _ _ _ _ dX6_cancel_40 (rt2 h)
    · replace h := bp c6 h
      refine g_bipush (v := (-5)) K dX6_cancel_18 bp_m5 ?_
      exact hr _ _ _ _ dX6_cancel_20 (rt2 h)
  · replace h := bp c3 h
    refine g_iconst (v := (-1)) K dX6_cancel_8 ic_m1 ?_
    exact hr _ _ _ _ dX6_cancel_9 (rt2 h)
theorem m_X6_cancel {x1 : Int32} {σ : Sg}  {r : Int32 × Sg} (h : f_X6_cancel x1 σ = some r) : CI yX6_cancel cX6_cancel 2 (some .int) 3 70 (fun ad => [.ref (ad 0), .int x1]) σ r.1 r.2 :=
  CI.of (by decide) (fun _ => Nat.le_of_ble_eq_true rfl) (fun X K hR hr => w_X6_cancel K hR h hr)
def f_X6_told (x1 : Int32) (x2 : Int32) (σ : Sg) : Option Int32 :=
  Option.bind (f_X6_isDeal x1 σ) (fun r1 =>
  if r1 = 0 then
  (some (-1))
  else
  (if x2 = 0 then
  (if inb x1 41 then
  (some (σ.1 2 x1.toNatClampNeg))
  else none)
  else
  (if x2 = 1 then
  (if inb x1 41 then
  (some (σ.1 4 x1.toNatClampNeg))
  else none)
  else
  (if x2 = 2 then
  (if inb x1 41 then
  (some (σ.1 3 x1.toNatClampNeg))
  else none)
  else
  (if x2 = 3 then
  (if inb x1 41 then
  (some (σ.1 5 x1.toNatClampNeg))
  else none)
  else
  (if x2 = 4 then
  (if inb x1 41 then
  (some (σ.1 6 x1.toNatClampNeg))
  else none)
  else
  (if x2 = 5 then
  (if inb x1 41 then
  (some (σ.1 7 x1.toNatClampNeg))
  else none)
  else
  (if x2 = 6 then
  (Option.bind (f_X0_placeOf 1 x1 σ) (fun r17 =>
  some r17))
  else
  (if x2 = 7 then
  (if inb x1 41 then
  (jn (if (σ.1 1 8) < (σ.1 2 x1.toNatClampNeg) then (0) else (1) : Int32) (fun v23 =>
  some (f_X6_asNumber v23)))
  else none)
  else
  (some (-2)))))))))))
set_option maxRecDepth 20000 in
set_option maxHeartbeats 4000000 in
theorem w_X6_told {X : Ctx} (K : Cok X cX6_told 3 RX6) (hR : 1 ≤ X.R.frames ∧ 22 ≤ X.R.locals) {x1 : Int32} {x2 : Int32} {σ : Sg}  {r : Int32} (h : f_X6_told x1 x2 σ = some r) (hr : RI X cX6_told 3 (r, σ)) : G X 3 0 [(0, .ref (X.ad 0)), (1, .int x1), (2, .int x2)] [] σ := by
  unfold f_X6_told at h
  refine g_aload_n K 0 dX6_told_0 rfl rfl ?_
  refine g_iload_n K 1 dX6_told_1 rfl rfl ?_
  obtain ⟨r1, e2, h⟩ := ob h
  refine g_cvi (As := [.int x1]) (rest := []) K (m_X6_isDeal e2) yv_X6_isDeal ml_X6_83 rfl rfl rfl (e_ControlRegister kd_0) ltN_0 rfl rfl ⟨Nat.le_trans (Nat.le_of_ble_eq_true rfl) hR.1, Nat.le_trans (Nat.le_of_ble_eq_true rfl) hR.2⟩ (Nat.le_of_ble_eq_true rfl) dX6_told_2 ?_
  refine g_if_ne (tgt := 10) K dX6_told_5 (by decide) (fun c3 => ?_) (fun c3 => ?_)
  · replace h := bn c3 h
    refine g_iload_n K 2 dX6_told_10 rfl rfl ?_
    rcases Classical.em (x2 = 0) with c4 | c4
    · replace h := bp c4 h
      refine g_tableIn (y := 0) (off := 45) (tgt := 56) K dX6_told_11 c4 (by decide) (by decide) (by decide) (by decide) ?_
      refine g_aload_n K 0 dX6_told_56 rfl rfl ?_
      refine g_get (v := .ref (X.ad 1)) K (e_ControlRegister kd_0) ltN_0 rfl 0 (by decide) rfl fw_X6_12 u_X6 dX6_told_57 ?_
      refine g_get (v := .ref (X.ad 2)) K (e_Book kd_1) ltN_1 rfl 0 (by decide) rfl fw_X6_100 u_X0 dX6_told_60 ?_
      refine g_iload_n K 1 dX6_told_63 rfl rfl ?_
      obtain ⟨g5, h⟩ := og h
      refine g_iald K kd_2 ltN_2 g5 dX6_told_64 ?_
      exact hr _ _ _ _ dX6_told_65 (rt1 h)
    · replace h := bn c4 h
      rcases Classical.em (x2 = 1) with c6 | c6
      · replace h := bp c6 h
        refine g_tableIn (y := 1) (off := 55) (tgt := 66) K dX6_told_11 c6 (by decide) (by decide) (by decide) (by decide) ?_
        refine g_aload_n K 0 dX6_told_66 rfl rfl ?_
        refine g_get (v := .ref (X.ad 1)) K (e_ControlRegister kd_0) ltN_0 rfl 0 (by decide) rfl fw_X6_12 u_X6 dX6_told_67 ?_
        refine g_get (v := .ref (X.ad 4)) K (e_Book kd_1) ltN_1 rfl 2 (by decide) rfl fw_X6_104 u_X0 dX6_told_70 ?_
        refine g_iload_n K 1 dX6_told_73 rfl rfl ?_
        obtain ⟨g7, h⟩ := og h
        refine g_iald K kd_4 ltN_4 g7 dX6_told_74 ?_
        exact hr _ _ _ _ dX6_told_75 (rt1 h)
      · replace h := bn c6 h
        rcases Classical.em (x2 = 2) with c8 | c8
        · replace h := bp c8 h
          refine g_tableIn (y := 2) (off := 65) (tgt := 76) K dX6_told_11 c8 (by decide) (by decide) (by decide) (by decide) ?_
          refine g_aload_n K 0 dX6_told_76 rfl rfl ?_
          refine g_get (v := .ref (X.ad 1)) K (e_ControlRegister kd_0) ltN_0 rfl 0 (by decide) rfl fw_X6_12 u_X6 dX6_told_77 ?_
          refine g_get (v := .ref (X.ad 3)) K (e_Book kd_1) ltN_1 rfl 1 (by decide) rfl fw_X6_107 u_X0 dX6_told_80 ?_
          refine g_iload_n K 1 dX6_told_83 rfl rfl ?_
          obtain ⟨g9, h⟩ := og h
          refine g_iald K kd_3 ltN_3 g9 dX6_told_84 ?_
          exact hr _ _ _ _ dX6_told_85 (rt1 h)
        · replace h := bn c8 h
          rcases Classical.em (x2 = 3) with c10 | c10
          · replace h := bp c10 h
            refine g_tableIn (y := 3) (off := 75) (tgt := 86) K dX6_told_11 c10 (by decide) (by decide) (by decide) (by decide) ?_
            refine g_aload_n K 0 dX6_told_86 rfl rfl ?_
            refine g_get (v := .ref (X.ad 1)) K (e_ControlRegister kd_0) ltN_0 rfl 0 (by decide) rfl fw_X6_12 u_X6 dX6_told_87 ?_
            refine g_get (v := .ref (X.ad 5)) K (e_Book kd_1) ltN_1 rfl 3 (by decide) rfl fw_X6_110 u_X0 dX6_told_90 ?_
            refine g_iload_n K 1 dX6_told_93 rfl rfl ?_
            obtain ⟨g11, h⟩ := og h
            refine g_iald K kd_5 ltN_5 g11 dX6_told_94 ?_
            exact hr _ _ _ _ dX6_told_95 (rt1 h)
          · replace h := bn c10 h
            rcases Classical.em (x2 = 4) with c12 | c12
            · replace h := bp c12 h
              refine g_tableIn (y := 4) (off := 85) (tgt := 96) K dX6_told_11 c12 (by decide) (by decide) (by decide) (by decide) ?_
              refine g_aload_n K 0 dX6_told_96 rfl rfl ?_
              refine g_get (v := .ref (X.ad 1)) K (e_ControlRegister kd_0) ltN_0 rfl 0 (by decide) rfl fw_X6_12 u_X6 dX6_told_97 ?_
              refine g_get (v := .ref (X.ad 6)) K (e_Book kd_1) ltN_1 rfl 4 (by decide) rfl fw_X6_113 u_X0 dX6_told_100 ?_
              refine g_iload_n K 1 dX6_told_103 rfl rfl ?_
              obtain ⟨g13, h⟩ := og h
              refine g_iald K kd_6 ltN_6 g13 dX6_told_104 ?_
              exact hr _ _ _ _ dX6_told_105 (rt1 h)
            · replace h := bn c12 h
              rcases Classical.em (x2 = 5) with c14 | c14
              · replace h := bp c14 h
                refine g_tableIn (y := 5) (off := 95) (tgt := 106) K dX6_told_11 c14 (by decide) (by decide) (by decide) (by decide) ?_
                refine g_aload_n K 0 dX6_told_106 rfl rfl ?_
                refine g_get (v := .ref (X.ad 1)) K (e_ControlRegister kd_0) ltN_0 rfl 0 (by decide) rfl fw_X6_12 u_X6 dX6_told_107 ?_
                refine g_get (v := .ref (X.ad 7)) K (e_Book kd_1) ltN_1 rfl 5 (by decide) rfl fw_X6_116 u_X0 dX6_told_110 ?_
                refine g_iload_n K 1 dX6_told_113 rfl rfl ?_
                obtain ⟨g15, h⟩ := og h
                refine g_iald K kd_7 ltN_7 g15 dX6_told_114 ?_
                exact hr _ _ _ _ dX6_told_115 (rt1 h)
              · replace h := bn c14 h
                rcases Classical.em (x2 = 6) with c16 | c16
                · replace h := bp c16 h
                  refine g_tableIn (y := 6) (off := 105) (tgt := 116) K dX6_told_11 c16 (by decide) (by decide) (by decide) (by decide) ?_
                  refine g_aload_n K 0 dX6_told_116 rfl rfl ?_
                  refine g_get (v := .ref (X.ad 1)) K (e_ControlRegister kd_0) ltN_0 rfl 0 (by decide) rfl fw_X6_12 u_X6 dX6_told_117 ?_
                  refine g_iload_n K 1 dX6_told_120 rfl rfl ?_
                  obtain ⟨r17, e18, h⟩ := ob h
                  refine g_cvi (As := [.int x1]) (rest := []) K (m_X0_placeOf is_1 e18) yv_X0_placeOf ml_X6_119 rfl rfl rfl (e_Book kd_1) ltN_1 rfl rfl ⟨Nat.le_trans (Nat.le_of_ble_eq_true rfl) hR.1, Nat.le_trans (Nat.le_of_ble_eq_true rfl) hR.2⟩ (Nat.le_of_ble_eq_true rfl) dX6_told_121 ?_
                  exact hr _ _ _ _ dX6_told_124 (rt1 h)
                · replace h := bn c16 h
                  rcases Classical.em (x2 = 7) with c19 | c19
                  · replace h := bp c19 h
                    refine g_tableIn (y := 7) (off := 114) (tgt := 125) K dX6_told_11 c19 (by decide) (by decide) (by decide) (by decide) ?_
                    refine g_aload_n K 0 dX6_told_125 rfl rfl ?_
                    refine g_get (v := .ref (X.ad 1)) K (e_ControlRegister kd_0) ltN_0 rfl 0 (by decide) rfl fw_X6_12 u_X6 dX6_told_126 ?_
                    refine g_get (v := .ref (X.ad 2)) K (e_Book kd_1) ltN_1 rfl 0 (by decide) rfl fw_X6_100 u_X0 dX6_told_129 ?_
                    refine g_iload_n K 1 dX6_told_132 rfl rfl ?_
                    obtain ⟨g20, h⟩ := og h
                    refine g_iald K kd_2 ltN_2 g20 dX6_told_133 ?_
                    refine g_aload_n K 0 dX6_told_134 rfl rfl ?_
                    refine g_get (v := .ref (X.ad 1)) K (e_ControlRegister kd_0) ltN_0 rfl 0 (by decide) rfl fw_X6_12 u_X6 dX6_told_135 ?_
                    refine g_get (v := .int (σ.1 1 8)) K (e_Book kd_1) ltN_1 rfl 8 (by decide) rfl fw_X6_123 u_X0 dX6_told_138 ?_
                    refine jn_cut h (P := (fun v23 => G X 3 149 [(0, .ref (X.ad 0)), (1, .int x1), (2, .int x2)] [.int v23] σ)) (fun v23 h => ?_) (fun tail_22 => ?_)
                    · refine g_csi (As := [.int v23]) (rest := []) K (m_X6_asNumber v23 σ) yv_X6_asNumber ml_X6_126 rfl rfl rfl ⟨Nat.le_trans (Nat.le_of_ble_eq_true rfl) hR.1, Nat.le_trans (Nat.le_of_ble_eq_true rfl) hR.2⟩ (Nat.le_of_ble_eq_true rfl) dX6_told_149 ?_
                      exact hr _ _ _ _ dX6_told_152 (rt1 h)
                    · refine g_icmp_gt (tgt := 148) K dX6_told_141 (by decide) (fun c24 => ?_) (fun c24 => ?_)
                      · replace h := jpp c24 h
                        refine g_iconst (v := 0) K dX6_told_148 ic_0 ?_
                        exact tail_22 _ h
                      · replace h := jpn c24 h
                        refine g_iconst (v := 1) K dX6_told_144 ic_1 ?_
                        refine g_goto (tgt := 149) K dX6_told_145 (by decide) ?_
                        exact tail_22 _ h
                  · replace h := bn c19 h
                    refine g_tableOut (tgt := 153) K dX6_told_11 (by have w0 := lv_neT (a := 0) c4 (by decide); have w1 := lv_neT (a := 1) c6 (by decide); have w2 := lv_neT (a := 2) c8 (by decide); have w3 := lv_neT (a := 3) c10 (by decide); have w4 := lv_neT (a := 4) c12 (by decide); have w5 := lv_neT (a := 5) c14 (by decide); have w6 := lv_neT (a := 6) c16 (by decide); have w7 := lv_neT (a := 7) c19 (by decide); omega) (by decide) ?_
                    refine g_bipush (v := (-2)) K dX6_told_153 bp_m2 ?_
                    exact hr _ _ _ _ dX6_told_155 (rt1 h)
  · replace h := bp c3 h
    refine g_iconst (v := (-1)) K dX6_told_8 ic_m1 ?_
    exact hr _ _ _ _ dX6_told_9 (rt1 h)
theorem m_X6_told {x1 : Int32} {x2 : Int32} {σ : Sg}  {r : Int32} (h : f_X6_told x1 x2 σ = some r) : CI yX6_told cX6_told 3 (some .int) 1 22 (fun ad => [.ref (ad 0), .int x1, .int x2]) σ r σ :=
  CI.of (by decide) (fun _ => Nat.le_of_ble_eq_true rfl) (fun X K hR hr => w_X6_told K hR h hr)
def f_X6_look (x1 : Int32) (σ : Sg) : Option (Int32 × Sg) :=
  if (f_X6_isDay x1) = 0 then
  (some ((-2), σ))
  else
  (jn (setR σ 1 (upd (σ.1 1) 8 x1)) (fun σ2 =>
  jn (setR σ2 0 (upd (σ2.1 0) 8 0)) (fun σ4 =>
  some ((σ.1 1 8), σ4))))
set_option maxRecDepth 20000 in
set_option maxHeartbeats 4000000 in
theorem w_X6_look {X : Ctx} (K : Cok X cX6_look 3 RX6) (hR : 1 ≤ X.R.frames ∧ 20 ≤ X.R.locals) {x1 : Int32} {σ : Sg}  {r : Int32 × Sg} (h : f_X6_look x1 σ = some r) (hr : RI X cX6_look 3 r) : G X 3 0 [(0, .ref (X.ad 0)), (1, .int x1)] [] σ := by
  unfold f_X6_look at h
  refine g_iload_n K 1 dX6_look_0 rfl rfl ?_
  refine g_csi (As := [.int x1]) (rest := []) K (m_X6_isDay x1 σ) yv_X6_isDay ml_X6_74 rfl rfl rfl ⟨Nat.le_trans (Nat.le_of_ble_eq_true rfl) hR.1, Nat.le_trans (Nat.le_of_ble_eq_true rfl) hR.2⟩ (Nat.le_of_ble_eq_true rfl) dX6_look_1 ?_
  refine g_if_ne (tgt := 10) K dX6_look_4 (by decide) (fun c1 => ?_) (fun c1 => ?_)
  · replace h := bn c1 h
    refine g_aload_n K 0 dX6_look_10 rfl rfl ?_
    refine g_get (v := .ref (X.ad 1)) K (e_ControlRegister kd_0) ltN_0 rfl 0 (by decide) rfl fw_X6_12 u_X6 dX6_look_11 ?_
    refine g_get (v := .int (σ.1 1 8)) K (e_Book kd_1) ltN_1 rfl 8 (by decide) rfl fw_X6_123 u_X0 dX6_look_14 ?_
    refine g_istore_n (lv' := [(2, .int (σ.1 1 8)), (0, .ref (X.ad 0)), (1, .int x1)]) K dX6_look_17 rfl (by decide) rfl ?_
    refine g_aload_n K 1 dX6_look_18 rfl rfl ?_
    refine g_get (v := .ref (X.ad 1)) K (e_ControlRegister kd_0) ltN_0 rfl 0 (by decide) rfl fw_X6_12 u_X6 dX6_look_19 ?_
    refine g_iload_n K 2 dX6_look_22 rfl rfl ?_
    refine g_put (f' := (upd (σ.1 1) 8 x1)) K (e_Book kd_1) ltN_1 rfl 8 (by decide) (e_Book kd_1) tyX0 tyX0_ok nmX0 rfl (ty := .int) (by decide +kernel) rfl rfl (Nat.le_of_ble_eq_true rfl) fw_X6_123 u_X0 dX6_look_23 (fun σ2 s3 => ?_)
    replace h := jn_at s3 h
    refine g_aload_n K 1 dX6_look_26 rfl rfl ?_
    refine g_iconst (v := 0) K dX6_look_27 ic_0 ?_
    refine g_put (f' := (upd (σ2.1 0) 8 0)) K (e_ControlRegister kd_0) ltN_0 rfl 8 (by decide) (e_ControlRegister kd_0) tyX6 tyX6_ok nmX6 rfl (ty := .boolean) (by decide +kernel) rfl rfl (Nat.le_of_ble_eq_true rfl) fw_X6_130 u_X6 dX6_look_28 (fun σ4 s5 => ?_)
    replace h := jn_at s5 h
    refine g_iload_n K 0 dX6_look_31 rfl rfl ?_
    exact hr _ _ _ _ dX6_look_32 (rt2 h)
  · replace h := bp c1 h
    refine g_bipush (v := (-2)) K dX6_look_7 bp_m2 ?_
    exact hr _ _ _ _ dX6_look_9 (rt2 h)
theorem m_X6_look {x1 : Int32} {σ : Sg}  {r : Int32 × Sg} (h : f_X6_look x1 σ = some r) : CI yX6_look cX6_look 3 (some .int) 1 20 (fun ad => [.ref (ad 0), .int x1]) σ r.1 r.2 :=
  CI.of (by decide) (fun _ => Nat.le_of_ble_eq_true rfl) (fun X K hR hr => w_X6_look K hR h hr)
def f_X6_rule (x1 : Int32) (x2 : Int32) (σ : Sg) : Option (Int32 × Sg) :=
  if x1 < 0 then
  (some ((-2), σ))
  else
  (if 2 < x1 then
  (some ((-2), σ))
  else
  (if x2 < 1 then
  (some ((-2), σ))
  else
  (if x2 < 100 then
  (if x1 = 0 then
  (jn (setR σ 1 (upd (σ.1 1) 9 x2)) (fun σ15 =>
  Option.bind (f_X6_allIsChanged σ15) (fun q17 =>
  some ((σ.1 1 9), q17))))
  else
  (if x1 = 1 then
  (jn (setR σ 1 (upd (σ.1 1) 10 x2)) (fun σ11 =>
  Option.bind (f_X6_allIsChanged σ11) (fun q13 =>
  some ((σ.1 1 10), q13))))
  else
  (jn (setR σ 1 (upd (σ.1 1) 11 x2)) (fun σ7 =>
  Option.bind (f_X6_allIsChanged σ7) (fun q9 =>
  some ((σ.1 1 11), q9))))))
  else
  (some ((-2), σ)))))
set_option maxRecDepth 20000 in
set_option maxHeartbeats 4000000 in
theorem w_X6_rule {X : Ctx} (K : Cok X cX6_rule 4 RX6) (hR : 1 ≤ X.R.frames ∧ 20 ≤ X.R.locals) {x1 : Int32} {x2 : Int32} {σ : Sg}  {r : Int32 × Sg} (h : f_X6_rule x1 x2 σ = some r) (hr : RI X cX6_rule 4 r) : G X 4 0 [(0, .ref (X.ad 0)), (1, .int x1), (2, .int x2)] [] σ := by
  unfold f_X6_rule at h
  refine g_iload_n K 1 dX6_rule_0 rfl rfl ?_
  refine g_if_lt (tgt := 20) K dX6_rule_1 (by decide) (fun c1 => ?_) (fun c1 => ?_)
  · replace h := bp c1 h
    refine g_bipush (v := (-2)) K dX6_rule_20 bp_m2 ?_
    exact hr _ _ _ _ dX6_rule_22 (rt2 h)
  · replace h := bn c1 h
    refine g_iload_n K 1 dX6_rule_4 rfl rfl ?_
    refine g_iconst (v := 2) K dX6_rule_5 ic_2 ?_
    refine g_icmp_gt (tgt := 20) K dX6_rule_6 (by decide) (fun c2 => ?_) (fun c2 => ?_)
    · replace h := bp c2 h
      refine g_bipush (v := (-2)) K dX6_rule_20 bp_m2 ?_
      exact hr _ _ _ _ dX6_rule_22 (rt2 h)
    · replace h := bn c2 h
      refine g_iload_n K 2 dX6_rule_9 rfl rfl ?_
      refine g_iconst (v := 1) K dX6_rule_10 ic_1 ?_
      refine g_icmp_lt (tgt := 20) K dX6_rule_11 (by decide) (fun c3 => ?_) (fun c3 => ?_)
      · replace h := bp c3 h
        refine g_bipush (v := (-2)) K dX6_rule_20 bp_m2 ?_
        exact hr _ _ _ _ dX6_rule_22 (rt2 h)
      · replace h := bn c3 h
        refine g_iload_n K 2 dX6_rule_14 rfl rfl ?_
        refine g_bipush (v := 100) K dX6_rule_15 bp_100 ?_
        refine g_icmp_lt (tgt := 23) K dX6_rule_17 (by decide) (fun c4 => ?_) (fun c4 => ?_)
        · replace h := bp c4 h
          refine g_iload_n K 1 dX6_rule_23 rfl rfl ?_
          refine g_if_ne (tgt := 46) K dX6_rule_24 (by decide) (fun c5 => ?_) (fun c5 => ?_)
          · replace h := bn c5 h
            refine g_iload_n K 1 dX6_rule_46 rfl rfl ?_
            refine g_iconst (v := 1) K dX6_rule_47 ic_1 ?_
            refine g_icmp_ne (tgt := 70) K dX6_rule_48 (by decide) (fun c6 => ?_) (fun c6 => ?_)
            · replace h := bn c6 h
              refine g_aload_n K 0 dX6_rule_70 rfl rfl ?_
              refine g_get (v := .ref (X.ad 1)) K (e_ControlRegister kd_0) ltN_0 rfl 0 (by decide) rfl fw_X6_12 u_X6 dX6_rule_71 ?_
              refine g_get (v := .int (σ.1 1 11)) K (e_Book kd_1) ltN_1 rfl 11 (by decide) rfl fw_X6_140 u_X0 dX6_rule_74 ?_
              refine g_istore_n (lv' := [(3, .int (σ.1 1 11)), (0, .ref (X.ad 0)), (1, .int x1), (2, .int x2)]) K dX6_rule_77 rfl (by decide) rfl ?_
              refine g_aload_n K 1 dX6_rule_78 rfl rfl ?_
              refine g_get (v := .ref (X.ad 1)) K (e_ControlRegister kd_0) ltN_0 rfl 0 (by decide) rfl fw_X6_12 u_X6 dX6_rule_79 ?_
              refine g_iload_n K 3 dX6_rule_82 rfl rfl ?_
              refine g_put (f' := (upd (σ.1 1) 11 x2)) K (e_Book kd_1) ltN_1 rfl 11 (by decide) (e_Book kd_1) tyX0 tyX0_ok nmX0 rfl (ty := .int) (by decide +kernel) rfl rfl (Nat.le_of_ble_eq_true rfl) fw_X6_140 u_X0 dX6_rule_83 (fun σ7 s8 => ?_)
              replace h := jn_at s8 h
              refine g_aload_n K 1 dX6_rule_86 rfl rfl ?_
              obtain ⟨q9, e10, h⟩ := ob h
              refine g_cvv (As := []) (rest := []) K (m_X6_allIsChanged e10) yv_X6_allIsChanged ml_X6_93 rfl rfl rfl (e_ControlRegister kd_0) ltN_0 rfl rfl ⟨Nat.le_trans (Nat.le_of_ble_eq_true rfl) hR.1, Nat.le_trans (Nat.le_of_ble_eq_true rfl) hR.2⟩ (Nat.le_of_ble_eq_true rfl) dX6_rule_87 ?_
              refine g_iload_n K 0 dX6_rule_90 rfl rfl ?_
              exact hr _ _ _ _ dX6_rule_91 (rt2 h)
            · replace h := bp c6 h
              refine g_aload_n K 0 dX6_rule_51 rfl rfl ?_
              refine g_get (v := .ref (X.ad 1)) K (e_ControlRegister kd_0) ltN_0 rfl 0 (by decide) rfl fw_X6_12 u_X6 dX6_rule_52 ?_
              refine g_get (v := .int (σ.1 1 10)) K (e_Book kd_1) ltN_1 rfl 10 (by decide) rfl fw_X6_137 u_X0 dX6_rule_55 ?_
              refine g_istore_n (lv' := [(3, .int (σ.1 1 10)), (0, .ref (X.ad 0)), (1, .int x1), (2, .int x2)]) K dX6_rule_58 rfl (by decide) rfl ?_
              refine g_aload_n K 1 dX6_rule_59 rfl rfl ?_
              refine g_get (v := .ref (X.ad 1)) K (e_ControlRegister kd_0) ltN_0 rfl 0 (by decide) rfl fw_X6_12 u_X6 dX6_rule_60 ?_
              refine g_iload_n K 3 dX6_rule_63 rfl rfl ?_
              refine g_put (f' := (upd (σ.1 1) 10 x2)) K (e_Book kd_1) ltN_1 rfl 10 (by decide) (e_Book kd_1) tyX0 tyX0_ok nmX0 rfl (ty := .int) (by decide +kernel) rfl rfl (Nat.le_of_ble_eq_true rfl) fw_X6_137 u_X0 dX6_rule_64 (fun σ11 s12 => ?_)
              replace h := jn_at s12 h
              refine g_goto (tgt := 86) K dX6_rule_67 (by decide) ?_
              refine g_aload_n K 1 dX6_rule_86 rfl rfl ?_
              obtain ⟨q13, e14, h⟩ := ob h
              refine g_cvv (As := []) (rest := []) K (m_X6_allIsChanged e14) yv_X6_allIsChanged ml_X6_93 rfl rfl rfl (e_ControlRegister kd_0) ltN_0 rfl rfl ⟨Nat.le_trans (Nat.le_of_ble_eq_true rfl) hR.1, Nat.le_trans (Nat.le_of_ble_eq_true rfl) hR.2⟩ (Nat.le_of_ble_eq_true rfl) dX6_rule_87 ?_
              refine g_iload_n K 0 dX6_rule_90 rfl rfl ?_
              exact hr _ _ _ _ dX6_rule_91 (rt2 h)
          · replace h := bp c5 h
            refine g_aload_n K 0 dX6_rule_27 rfl rfl ?_
            refine g_get (v := .ref (X.ad 1)) K (e_ControlRegister kd_0) ltN_0 rfl 0 (by decide) rfl fw_X6_12 u_X6 dX6_rule_28 ?_
            refine g_get (v := .int (σ.1 1 9)) K (e_Book kd_1) ltN_1 rfl 9 (by decide) rfl fw_X6_134 u_X0 dX6_rule_31 ?_
            refine g_istore_n (lv' := [(3, .int (σ.1 1 9)), (0, .ref (X.ad 0)), (1, .int x1), (2, .int x2)]) K dX6_rule_34 rfl (by decide) rfl ?_
            refine g_aload_n K 1 dX6_rule_35 rfl rfl ?_
            refine g_get (v := .ref (X.ad 1)) K (e_ControlRegister kd_0) ltN_0 rfl 0 (by decide) rfl fw_X6_12 u_X6 dX6_rule_36 ?_
            refine g_iload_n K 3 dX6_rule_39 rfl rfl ?_
            refine g_put (f' := (upd (σ.1 1) 9 x2)) K (e_Book kd_1) ltN_1 rfl 9 (by decide) (e_Book kd_1) tyX0 tyX0_ok nmX0 rfl (ty := .int) (by decide +kernel) rfl rfl (Nat.le_of_ble_eq_true rfl) fw_X6_134 u_X0 dX6_rule_40 (fun σ15 s16 => ?_)
            replace h := jn_at s16 h
            refine g_goto (tgt := 86) K dX6_rule_43 (by decide) ?_
            refine g_aload_n K 1 dX6_rule_86 rfl rfl ?_
            obtain ⟨q17, e18, h⟩ := ob h
            refine g_cvv (As := []) (rest := []) K (m_X6_allIsChanged e18) yv_X6_allIsChanged ml_X6_93 rfl rfl rfl (e_ControlRegister kd_0) ltN_0 rfl rfl ⟨Nat.le_trans (Nat.le_of_ble_eq_true rfl) hR.1, Nat.le_trans (Nat.le_of_ble_eq_true rfl) hR.2⟩ (Nat.le_of_ble_eq_true rfl) dX6_rule_87 ?_
            refine g_iload_n K 0 dX6_rule_90 rfl rfl ?_
            exact hr _ _ _ _ dX6_rule_91 (rt2 h)
        · replace h := bn c4 h
          refine g_bipush (v := (-2)) K dX6_rule_20 bp_m2 ?_
          exact hr _ _ _ _ dX6_rule_22 (rt2 h)
theorem m_X6_rule {x1 : Int32} {x2 : Int32} {σ : Sg}  {r : Int32 × Sg} (h : f_X6_rule x1 x2 σ = some r) : CI yX6_rule cX6_rule 4 (some .int) 1 20 (fun ad => [.ref (ad 0), .int x1, .int x2]) σ r.1 r.2 :=
  CI.of (by decide) (fun _ => Nat.le_of_ble_eq_true rfl) (fun X K hR hr => w_X6_rule K hR h hr)
def L_X6_bringUpToDate_32 (x1 : Int32) : Nat → Int32 → Sg → Option (Int32 × Sg)
  | 0, _, _ => none
  | n + 1, x2, σ =>
    if x1 ≤ x2 then
    (some (x2, σ))
    else
    (if inb x2 41 then
    (Option.bind (f_X2_carryOut 25 1 (σ.1 8 x2.toNatClampNeg) σ) (fun q3 =>
    L_X6_bringUpToDate_32 x1 n (x2 + 1) q3.2))
    else none)
set_option maxRecDepth 20000 in
set_option maxHeartbeats 4000000 in
theorem l_X6_bringUpToDate_32 {X : Ctx} (K : Cok X cX6_bringUpToDate 3 RX6) (hR : 5 ≤ X.R.frames ∧ 124 ≤ X.R.locals) {x1 : Int32}  :
    ∀ (n : Nat) (x2 : Int32) (σ : Sg) (o : (Int32 × Sg)), L_X6_bringUpToDate_32 x1 n x2 σ = some o → G X 3 64 [(0, .ref (X.ad 0)), (1, .int x1), (2, .int o.1)] [] o.2 → G X 3 32 [(0, .ref (X.ad 0)), (1, .int x1), (2, .int x2)] [] σ := by
  intro n
  induction n with
  | zero => intro x2 σ o h; exact absurd h (by unfold L_X6_bringUpToDate_32; intro h; cases h)
  | succ n ih =>
    intro x2 σ o h hexit
    unfold L_X6_bringUpToDate_32 at h
    refine g_iload_n K 2 dX6_bringUpToDate_32 rfl rfl ?_
    refine g_iload_n K 1 dX6_bringUpToDate_33 rfl rfl ?_
    refine g_icmp_ge (tgt := 64) K dX6_bringUpToDate_34 (by decide) (fun c1 => ?_) (fun c1 => ?_)
    · replace h := bp c1 h
      refine g_sub [0, 1, 2] rfl ?_
      obtain rfl := Option.some.inj h
      exact hexit
    · replace h := bn c1 h
      refine g_aload_n K 0 dX6_bringUpToDate_37 rfl rfl ?_
      refine g_get (v := .ref (X.ad 25)) K (e_ControlRegister kd_0) ltN_0 rfl 4 (by decide) rfl fw_X6_25 u_X6 dX6_bringUpToDate_38 ?_
      refine g_aload_n K 0 dX6_bringUpToDate_41 rfl rfl ?_
      refine g_get (v := .ref (X.ad 1)) K (e_ControlRegister kd_0) ltN_0 rfl 0 (by decide) rfl fw_X6_12 u_X6 dX6_bringUpToDate_42 ?_
      refine g_aload_n K 0 dX6_bringUpToDate_45 rfl rfl ?_
      refine g_get (v := .ref (X.ad 1)) K (e_ControlRegister kd_0) ltN_0 rfl 0 (by decide) rfl fw_X6_12 u_X6 dX6_bringUpToDate_46 ?_
      refine g_get (v := .ref (X.ad 8)) K (e_Book kd_1) ltN_1 rfl 6 (by decide) rfl fw_X6_271 u_X0 dX6_bringUpToDate_49 ?_
      refine g_iload_n K 2 dX6_bringUpToDate_52 rfl rfl ?_
      obtain ⟨g2, h⟩ := og h
      refine g_iald K kd_8 ltN_8 g2 dX6_bringUpToDate_53 ?_
      obtain ⟨q3, e4, h⟩ := ob h
      refine g_cvi (As := [.ref (X.ad 1), .int (σ.1 8 x2.toNatClampNeg)]) (rest := []) K (m_X2_carryOut is_25 is_1 e4) yv_X2_carryOut ml_X6_274 rfl rfl rfl (e_Holdings kd_25) ltN_25 rfl rfl ⟨Nat.le_trans (Nat.le_of_ble_eq_true rfl) hR.1, Nat.le_trans (Nat.le_of_ble_eq_true rfl) hR.2⟩ (Nat.le_of_ble_eq_true rfl) dX6_bringUpToDate_54 ?_
      refine g_pop K dX6_bringUpToDate_57 rfl ?_
      refine g_iinc (lv' := [(2, .int (x2 + 1)), (0, .ref (X.ad 0)), (1, .int x1)]) K 2 dX6_bringUpToDate_58 rfl (by rw [ic_1]) (by decide) rfl ?_
      refine g_goto (tgt := 32) K dX6_bringUpToDate_61 (by decide) ?_
      refine g_sub [1, 2, 0] rfl ?_
      exact ih _ _ _ h hexit
def f_X6_bringUpToDate  (σ : Sg) : Option Sg :=
  if (σ.1 0 8) = 0 then
  (Option.bind (f_X2_beginAgain 25 σ) (fun q2 =>
  Option.bind (f_X0_doneBy 1 (q2.1 1 8) q2) (fun r4 =>
  Option.bind (L_X6_bringUpToDate_32 r4 FU 0 q2) (fun o6 =>
  Option.bind (f_X1_workOutAll 53 25 1 o6.2) (fun q8 =>
  Option.bind (f_X4_workOut 25 q8) (fun q10 =>
  Option.bind (f_X3_workOut 25 q10) (fun q12 =>
  jn (setR q12 0 (upd (q12.1 0) 8 1)) (fun σ14 =>
  some (σ14)))))))))
  else
  (some (σ))
set_option maxRecDepth 20000 in
set_option maxHeartbeats 4000000 in
theorem w_X6_bringUpToDate {X : Ctx} (K : Cok X cX6_bringUpToDate 3 RX6) (hR : 5 ≤ X.R.frames ∧ 124 ≤ X.R.locals)  {σ : Sg}  {r : Sg} (h : f_X6_bringUpToDate σ = some r) (hr : RV X cX6_bringUpToDate 3 r) : G X 3 0 [(0, .ref (X.ad 0))] [] σ := by
  unfold f_X6_bringUpToDate at h
  refine g_aload_n K 0 dX6_bringUpToDate_0 rfl rfl ?_
  refine g_get (v := .int (σ.1 0 8)) K (e_ControlRegister kd_0) ltN_0 rfl 8 (by decide) rfl fw_X6_130 u_X6 dX6_bringUpToDate_1 ?_
  refine g_if_eq (tgt := 8) K dX6_bringUpToDate_4 (by decide) (fun c1 => ?_) (fun c1 => ?_)
  · replace h := bp c1 h
    refine g_aload_n K 0 dX6_bringUpToDate_8 rfl rfl ?_
    refine g_get (v := .ref (X.ad 25)) K (e_ControlRegister kd_0) ltN_0 rfl 4 (by decide) rfl fw_X6_25 u_X6 dX6_bringUpToDate_9 ?_
    obtain ⟨q2, e3, h⟩ := ob h
    refine g_cvv (As := []) (rest := []) K (m_X2_beginAgain is_25 e3) yv_X2_beginAgain ml_X6_268 rfl rfl rfl (e_Holdings kd_25) ltN_25 rfl rfl ⟨Nat.le_trans (Nat.le_of_ble_eq_true rfl) hR.1, Nat.le_trans (Nat.le_of_ble_eq_true rfl) hR.2⟩ (Nat.le_of_ble_eq_true rfl) dX6_bringUpToDate_12 ?_
    refine g_aload_n K 0 dX6_bringUpToDate_15 rfl rfl ?_
    refine g_get (v := .ref (X.ad 1)) K (e_ControlRegister kd_0) ltN_0 rfl 0 (by decide) rfl fw_X6_12 u_X6 dX6_bringUpToDate_16 ?_
    refine g_aload_n K 0 dX6_bringUpToDate_19 rfl rfl ?_
    refine g_get (v := .ref (X.ad 1)) K (e_ControlRegister kd_0) ltN_0 rfl 0 (by decide) rfl fw_X6_12 u_X6 dX6_bringUpToDate_20 ?_
    refine g_get (v := .int (q2.1 1 8)) K (e_Book kd_1) ltN_1 rfl 8 (by decide) rfl fw_X6_123 u_X0 dX6_bringUpToDate_23 ?_
    obtain ⟨r4, e5, h⟩ := ob h
    refine g_cvi (As := [.int (q2.1 1 8)]) (rest := []) K (m_X0_doneBy is_1 e5) yv_X0_doneBy ml_X6_251 rfl rfl rfl (e_Book kd_1) ltN_1 rfl rfl ⟨Nat.le_trans (Nat.le_of_ble_eq_true rfl) hR.1, Nat.le_trans (Nat.le_of_ble_eq_true rfl) hR.2⟩ (Nat.le_of_ble_eq_true rfl) dX6_bringUpToDate_26 ?_
    refine g_istore_n (lv' := [(1, .int r4), (0, .ref (X.ad 0))]) K dX6_bringUpToDate_29 rfl (by decide) rfl ?_
    refine g_iconst (v := 0) K dX6_bringUpToDate_30 ic_0 ?_
    refine g_istore_n (lv' := [(2, .int 0), (1, .int r4), (0, .ref (X.ad 0))]) K dX6_bringUpToDate_31 rfl (by decide) rfl ?_
    obtain ⟨o6, e7, h⟩ := ob h
    refine g_sub [2, 1, 0] rfl ?_
    refine l_X6_bringUpToDate_32 K hR _ _ _ _ e7 ?_
    refine g_aload_n K 0 dX6_bringUpToDate_64 rfl rfl ?_
    refine g_get (v := .ref (X.ad 53)) K (e_ControlRegister kd_0) ltN_0 rfl 5 (by decide) rfl fw_X6_32 u_X6 dX6_bringUpToDate_65 ?_
    refine g_aload_n K 0 dX6_bringUpToDate_68 rfl rfl ?_
    refine g_get (v := .ref (X.ad 25)) K (e_ControlRegister kd_0) ltN_0 rfl 4 (by decide) rfl fw_X6_25 u_X6 dX6_bringUpToDate_69 ?_
    refine g_aload_n K 0 dX6_bringUpToDate_72 rfl rfl ?_
    refine g_get (v := .ref (X.ad 1)) K (e_ControlRegister kd_0) ltN_0 rfl 0 (by decide) rfl fw_X6_12 u_X6 dX6_bringUpToDate_73 ?_
    obtain ⟨q8, e9, h⟩ := ob h
    refine g_cvv (As := [.ref (X.ad 25), .ref (X.ad 1)]) (rest := []) K (m_X1_workOutAll is_53 is_25 is_1 e9) yv_X1_workOutAll ml_X6_281 rfl rfl rfl (e_Control kd_53) ltN_53 rfl rfl ⟨Nat.le_trans (Nat.le_of_ble_eq_true rfl) hR.1, Nat.le_trans (Nat.le_of_ble_eq_true rfl) hR.2⟩ (Nat.le_of_ble_eq_true rfl) dX6_bringUpToDate_76 ?_
    refine g_aload_n K 0 dX6_bringUpToDate_79 rfl rfl ?_
    refine g_get (v := .ref (X.ad 79)) K (e_ControlRegister kd_0) ltN_0 rfl 6 (by decide) rfl fw_X6_39 u_X6 dX6_bringUpToDate_80 ?_
    refine g_aload_n K 0 dX6_bringUpToDate_83 rfl rfl ?_
    refine g_get (v := .ref (X.ad 25)) K (e_ControlRegister kd_0) ltN_0 rfl 4 (by decide) rfl fw_X6_25 u_X6 dX6_bringUpToDate_84 ?_
    obtain ⟨q10, e11, h⟩ := ob h
    refine g_cvv (As := [.ref (X.ad 25)]) (rest := []) K (m_X4_workOut is_25 e11) yv_X4_workOut ml_X6_285 rfl rfl rfl (e_Stakes kd_79) ltN_79 rfl rfl ⟨Nat.le_trans (Nat.le_of_ble_eq_true rfl) hR.1, Nat.le_trans (Nat.le_of_ble_eq_true rfl) hR.2⟩ (Nat.le_of_ble_eq_true rfl) dX6_bringUpToDate_87 ?_
    refine g_aload_n K 0 dX6_bringUpToDate_90 rfl rfl ?_
    refine g_get (v := .ref (X.ad 86)) K (e_ControlRegister kd_0) ltN_0 rfl 7 (by decide) rfl fw_X6_46 u_X6 dX6_bringUpToDate_91 ?_
    refine g_aload_n K 0 dX6_bringUpToDate_94 rfl rfl ?_
    refine g_get (v := .ref (X.ad 25)) K (e_ControlRegister kd_0) ltN_0 rfl 4 (by decide) rfl fw_X6_25 u_X6 dX6_bringUpToDate_95 ?_
    obtain ⟨q12, e13, h⟩ := ob h
    refine g_cvv (As := [.ref (X.ad 25)]) (rest := []) K (m_X3_workOut is_25 e13) yv_X3_workOut ml_X6_289 rfl rfl rfl (e_Reach kd_86) ltN_86 rfl rfl ⟨Nat.le_trans (Nat.le_of_ble_eq_true rfl) hR.1, Nat.le_trans (Nat.le_of_ble_eq_true rfl) hR.2⟩ (Nat.le_of_ble_eq_true rfl) dX6_bringUpToDate_98 ?_
    refine g_aload_n K 0 dX6_bringUpToDate_101 rfl rfl ?_
    refine g_iconst (v := 1) K dX6_bringUpToDate_102 ic_1 ?_
    refine g_put (f' := (upd (q12.1 0) 8 1)) K (e_ControlRegister kd_0) ltN_0 rfl 8 (by decide) (e_ControlRegister kd_0) tyX6 tyX6_ok nmX6 rfl (ty := .boolean) (by decide +kernel) rfl rfl (Nat.le_of_ble_eq_true rfl) fw_X6_130 u_X6 dX6_bringUpToDate_103 (fun σ14 s15 => ?_)
    replace h := jn_at s15 h
    exact hr _ _ _ dX6_bringUpToDate_106 (rt2 h)
  · replace h := bn c1 h
    exact hr _ _ _ dX6_bringUpToDate_7 (rt2 h)
theorem m_X6_bringUpToDate  {σ : Sg}  {r : Sg} (h : f_X6_bringUpToDate σ = some r) : CV yX6_bringUpToDate cX6_bringUpToDate 3 none 5 124 (fun ad => [.ref (ad 0)]) σ r :=
  CV.of (by decide) (fun _ => Nat.le_of_ble_eq_true rfl) (fun X K hR hr => w_X6_bringUpToDate K hR h hr)
def f_X6_holds (x1 : Int32) (x2 : Int32) (x3 : Int32) (σ : Sg) : Option (Int32 × Sg) :=
  if (f_X6_isHolder x1) = 0 then
  (some ((-1), σ))
  else
  (if (f_X6_isFirm x2) = 0 then
  (some ((-1), σ))
  else
  (Option.bind (f_X6_bringUpToDate σ) (fun q3 =>
  if x3 = 0 then
  (if inb x2 5 then
  (if inb x1 10 then
  (some ((q3.1 (26 + 1 + x2.toNatClampNeg) x1.toNatClampNeg), q3))
  else none)
  else none)
  else
  (if x3 = 1 then
  (if inb x2 5 then
  (if inb x1 10 then
  (some ((q3.1 (32 + 1 + x2.toNatClampNeg) x1.toNatClampNeg), q3))
  else none)
  else none)
  else
  (if x3 = 2 then
  (if inb x2 5 then
  (some ((f_X6_asNumber (f_X6_has (q3.1 38 x2.toNatClampNeg) x1)), q3))
  else none)
  else
  (some ((-2), q3)))))))
set_option maxRecDepth 20000 in
set_option maxHeartbeats 4000000 in
theorem w_X6_holds {X : Ctx} (K : Cok X cX6_holds 4 RX6) (hR : 6 ≤ X.R.frames ∧ 146 ≤ X.R.locals) {x1 : Int32} {x2 : Int32} {x3 : Int32} {σ : Sg}  {r : Int32 × Sg} (h : f_X6_holds x1 x2 x3 σ = some r) (hr : RI X cX6_holds 4 r) : G X 4 0 [(0, .ref (X.ad 0)), (1, .int x1), (2, .int x2), (3, .int x3)] [] σ := by
  unfold f_X6_holds at h
  refine g_iload_n K 1 dX6_holds_0 rfl rfl ?_
  refine g_csi (As := [.int x1]) (rest := []) K (m_X6_isHolder x1 σ) yv_X6_isHolder ml_X6_143 rfl rfl rfl ⟨Nat.le_trans (Nat.le_of_ble_eq_true rfl) hR.1, Nat.le_trans (Nat.le_of_ble_eq_true rfl) hR.2⟩ (Nat.le_of_ble_eq_true rfl) dX6_holds_1 ?_
  refine g_if_eq (tgt := 14) K dX6_holds_4 (by decide) (fun c1 => ?_) (fun c1 => ?_)
  · replace h := bp c1 h
    refine g_iconst (v := (-1)) K dX6_holds_14 ic_m1 ?_
    exact hr _ _ _ _ dX6_holds_15 (rt2 h)
  · replace h := bn c1 h
    refine g_iload_n K 2 dX6_holds_7 rfl rfl ?_
    refine g_csi (As := [.int x2]) (rest := []) K (m_X6_isFirm x2 σ) yv_X6_isFirm ml_X6_71 rfl rfl rfl ⟨Nat.le_trans (Nat.le_of_ble_eq_true rfl) hR.1, Nat.le_trans (Nat.le_of_ble_eq_true rfl) hR.2⟩ (Nat.le_of_ble_eq_true rfl) dX6_holds_8 ?_
    refine g_if_ne (tgt := 16) K dX6_holds_11 (by decide) (fun c2 => ?_) (fun c2 => ?_)
    · replace h := bn c2 h
      refine g_aload_n K 0 dX6_holds_16 rfl rfl ?_
      obtain ⟨q3, e4, h⟩ := ob h
      refine g_cvv (As := []) (rest := []) K (m_X6_bringUpToDate e4) yv_X6_bringUpToDate ml_X6_146 rfl rfl rfl (e_ControlRegister kd_0) ltN_0 rfl rfl ⟨Nat.le_trans (Nat.le_of_ble_eq_true rfl) hR.1, Nat.le_trans (Nat.le_of_ble_eq_true rfl) hR.2⟩ (Nat.le_of_ble_eq_true rfl) dX6_holds_17 ?_
      refine g_iload_n K 3 dX6_holds_20 rfl rfl ?_
      rcases Classical.em (x3 = 0) with c5 | c5
      · replace h := bp c5 h
        refine g_tableIn (y := 0) (off := 27) (tgt := 48) K dX6_holds_21 c5 (by decide) (by decide) (by decide) (by decide) ?_
        refine g_aload_n K 0 dX6_holds_48 rfl rfl ?_
        refine g_get (v := .ref (X.ad 25)) K (e_ControlRegister kd_0) ltN_0 rfl 4 (by decide) rfl fw_X6_25 u_X6 dX6_holds_49 ?_
        refine g_get (v := .ref (X.ad 26)) K (e_Holdings kd_25) ltN_25 rfl 0 (by decide) rfl fw_X6_149 u_X2 dX6_holds_52 ?_
        refine g_iload_n K 2 dX6_holds_55 rfl rfl ?_
        obtain ⟨g6, h⟩ := og h
        refine g_aaldI K kd_26 ltN_26 g6 dX6_holds_56 ?_
        refine g_iload_n K 1 dX6_holds_57 rfl rfl ?_
        obtain ⟨g7, h⟩ := og h
        refine g_iald K (hd_r1 is_25 g6) (hd_s1 is_25 g6) g7 dX6_holds_58 ?_
        exact hr _ _ _ _ dX6_holds_59 (rt2 h)
      · replace h := bn c5 h
        rcases Classical.em (x3 = 1) with c8 | c8
        · replace h := bp c8 h
          refine g_tableIn (y := 1) (off := 39) (tgt := 60) K dX6_holds_21 c8 (by decide) (by decide) (by decide) (by decide) ?_
          refine g_aload_n K 0 dX6_holds_60 rfl rfl ?_
          refine g_get (v := .ref (X.ad 25)) K (e_ControlRegister kd_0) ltN_0 rfl 4 (by decide) rfl fw_X6_25 u_X6 dX6_holds_61 ?_
          refine g_get (v := .ref (X.ad 32)) K (e_Holdings kd_25) ltN_25 rfl 1 (by decide) rfl fw_X6_153 u_X2 dX6_holds_64 ?_
          refine g_iload_n K 2 dX6_holds_67 rfl rfl ?_
          obtain ⟨g9, h⟩ := og h
          refine g_aaldI K kd_32 ltN_32 g9 dX6_holds_68 ?_
          refine g_iload_n K 1 dX6_holds_69 rfl rfl ?_
          obtain ⟨g10, h⟩ := og h
          refine g_iald K (hd_r7 is_25 g9) (hd_s7 is_25 g9) g10 dX6_holds_70 ?_
          exact hr _ _ _ _ dX6_holds_71 (rt2 h)
        · replace h := bn c8 h
          rcases Classical.em (x3 = 2) with c11 | c11
          · replace h := bp c11 h
            refine g_tableIn (y := 2) (off := 51) (tgt := 72) K dX6_holds_21 c11 (by decide) (by decide) (by decide) (by decide) ?_
            refine g_aload_n K 0 dX6_holds_72 rfl rfl ?_
            refine g_get (v := .ref (X.ad 25)) K (e_ControlRegister kd_0) ltN_0 rfl 4 (by decide) rfl fw_X6_25 u_X6 dX6_holds_73 ?_
            refine g_get (v := .ref (X.ad 38)) K (e_Holdings kd_25) ltN_25 rfl 2 (by decide) rfl fw_X6_156 u_X2 dX6_holds_76 ?_
            refine g_iload_n K 2 dX6_holds_79 rfl rfl ?_
            obtain ⟨g12, h⟩ := og h
            refine g_iald K kd_38 ltN_38 g12 dX6_holds_80 ?_
            refine g_iload_n K 1 dX6_holds_81 rfl rfl ?_
            refine g_csi (As := [.int (q3.1 38 x2.toNatClampNeg), .int x1]) (rest := []) K (m_X6_has (q3.1 38 x2.toNatClampNeg) x1 q3) yv_X6_has ml_X6_159 rfl rfl rfl ⟨Nat.le_trans (Nat.le_of_ble_eq_true rfl) hR.1, Nat.le_trans (Nat.le_of_ble_eq_true rfl) hR.2⟩ (Nat.le_of_ble_eq_true rfl) dX6_holds_82 ?_
            refine g_csi (As := [.int (f_X6_has (q3.1 38 x2.toNatClampNeg) x1)]) (rest := []) K (m_X6_asNumber (f_X6_has (q3.1 38 x2.toNatClampNeg) x1) q3) yv_X6_asNumber ml_X6_126 rfl rfl rfl ⟨Nat.le_trans (Nat.le_of_ble_eq_true rfl) hR.1, Nat.le_trans (Nat.le_of_ble_eq_true rfl) hR.2⟩ (Nat.le_of_ble_eq_true rfl) dX6_holds_85 ?_
            exact hr _ _ _ _ dX6_holds_88 (rt2 h)
          · replace h := bn c11 h
            refine g_tableOut (tgt := 89) K dX6_holds_21 (by have w0 := lv_neT (a := 0) c5 (by decide); have w1 := lv_neT (a := 1) c8 (by decide); have w2 := lv_neT (a := 2) c11 (by decide); omega) (by decide) ?_
            refine g_bipush (v := (-2)) K dX6_holds_89 bp_m2 ?_
            exact hr _ _ _ _ dX6_holds_91 (rt2 h)
    · replace h := bp c2 h
      refine g_iconst (v := (-1)) K dX6_holds_14 ic_m1 ?_
      exact hr _ _ _ _ dX6_holds_15 (rt2 h)
theorem m_X6_holds {x1 : Int32} {x2 : Int32} {x3 : Int32} {σ : Sg}  {r : Int32 × Sg} (h : f_X6_holds x1 x2 x3 σ = some r) : CI yX6_holds cX6_holds 4 (some .int) 6 146 (fun ad => [.ref (ad 0), .int x1, .int x2, .int x3]) σ r.1 r.2 :=
  CI.of (by decide) (fun _ => Nat.le_of_ble_eq_true rfl) (fun X K hR hr => w_X6_holds K hR h hr)
def f_X6_controls (x1 : Int32) (σ : Sg) : Option (Int32 × Sg) :=
  if (f_X6_isController x1) = 0 then
  (some ((-1), σ))
  else
  (Option.bind (f_X6_bringUpToDate σ) (fun q2 =>
  if inb x1 9 then
  (some ((q2.1 54 x1.toNatClampNeg), q2))
  else none))
set_option maxRecDepth 20000 in
set_option maxHeartbeats 4000000 in
theorem w_X6_controls {X : Ctx} (K : Cok X cX6_controls 2 RX6) (hR : 6 ≤ X.R.frames ∧ 146 ≤ X.R.locals) {x1 : Int32} {σ : Sg}  {r : Int32 × Sg} (h : f_X6_controls x1 σ = some r) (hr : RI X cX6_controls 2 r) : G X 2 0 [(0, .ref (X.ad 0)), (1, .int x1)] [] σ := by
  unfold f_X6_controls at h
  refine g_iload_n K 1 dX6_controls_0 rfl rfl ?_
  refine g_csi (As := [.int x1]) (rest := []) K (m_X6_isController x1 σ) yv_X6_isController ml_X6_67 rfl rfl rfl ⟨Nat.le_trans (Nat.le_of_ble_eq_true rfl) hR.1, Nat.le_trans (Nat.le_of_ble_eq_true rfl) hR.2⟩ (Nat.le_of_ble_eq_true rfl) dX6_controls_1 ?_
  refine g_if_ne (tgt := 9) K dX6_controls_4 (by decide) (fun c1 => ?_) (fun c1 => ?_)
  · replace h := bn c1 h
    refine g_aload_n K 0 dX6_controls_9 rfl rfl ?_
    obtain ⟨q2, e3, h⟩ := ob h
    refine g_cvv (As := []) (rest := []) K (m_X6_bringUpToDate e3) yv_X6_bringUpToDate ml_X6_146 rfl rfl rfl (e_ControlRegister kd_0) ltN_0 rfl rfl ⟨Nat.le_trans (Nat.le_of_ble_eq_true rfl) hR.1, Nat.le_trans (Nat.le_of_ble_eq_true rfl) hR.2⟩ (Nat.le_of_ble_eq_true rfl) dX6_controls_10 ?_
    refine g_aload_n K 0 dX6_controls_13 rfl rfl ?_
    refine g_get (v := .ref (X.ad 53)) K (e_ControlRegister kd_0) ltN_0 rfl 5 (by decide) rfl fw_X6_32 u_X6 dX6_controls_14 ?_
    refine g_get (v := .ref (X.ad 54)) K (e_Control kd_53) ltN_53 rfl 0 (by decide) rfl fw_X6_163 u_X1 dX6_controls_17 ?_
    refine g_iload_n K 1 dX6_controls_20 rfl rfl ?_
    obtain ⟨g4, h⟩ := og h
    refine g_iald K kd_54 ltN_54 g4 dX6_controls_21 ?_
    exact hr _ _ _ _ dX6_controls_22 (rt2 h)
  · replace h := bp c1 h
    refine g_iconst (v := (-1)) K dX6_controls_7 ic_m1 ?_
    exact hr _ _ _ _ dX6_controls_8 (rt2 h)
theorem m_X6_controls {x1 : Int32} {σ : Sg}  {r : Int32 × Sg} (h : f_X6_controls x1 σ = some r) : CI yX6_controls cX6_controls 2 (some .int) 6 146 (fun ad => [.ref (ad 0), .int x1]) σ r.1 r.2 :=
  CI.of (by decide) (fun _ => Nat.le_of_ble_eq_true rfl) (fun X K hR hr => w_X6_controls K hR h hr)
def f_X6_finalBlock (x1 : Int32) (x2 : Int32) (σ : Sg) : Option Int32 :=
  if inb x1 9 then
  (Option.bind (f_X2_block 25 x2 (f_X2_allies x1 (σ.1 54 x1.toNatClampNeg)) σ) (fun r2 =>
  some r2))
  else none
set_option maxRecDepth 20000 in
set_option maxHeartbeats 4000000 in
theorem w_X6_finalBlock {X : Ctx} (K : Cok X cX6_finalBlock 3 RX6) (hR : 1 ≤ X.R.frames ∧ 24 ≤ X.R.locals) {x1 : Int32} {x2 : Int32} {σ : Sg}  {r : Int32} (h : f_X6_finalBlock x1 x2 σ = some r) (hr : RI X cX6_finalBlock 3 (r, σ)) : G X 3 0 [(0, .ref (X.ad 0)), (1, .int x1), (2, .int x2)] [] σ := by
  unfold f_X6_finalBlock at h
  refine g_aload_n K 0 dX6_finalBlock_0 rfl rfl ?_
  refine g_get (v := .ref (X.ad 25)) K (e_ControlRegister kd_0) ltN_0 rfl 4 (by decide) rfl fw_X6_25 u_X6 dX6_finalBlock_1 ?_
  refine g_iload_n K 2 dX6_finalBlock_4 rfl rfl ?_
  refine g_iload_n K 1 dX6_finalBlock_5 rfl rfl ?_
  refine g_aload_n K 0 dX6_finalBlock_6 rfl rfl ?_
  refine g_get (v := .ref (X.ad 53)) K (e_ControlRegister kd_0) ltN_0 rfl 5 (by decide) rfl fw_X6_32 u_X6 dX6_finalBlock_7 ?_
  refine g_get (v := .ref (X.ad 54)) K (e_Control kd_53) ltN_53 rfl 0 (by decide) rfl fw_X6_163 u_X1 dX6_finalBlock_10 ?_
  refine g_iload_n K 1 dX6_finalBlock_13 rfl rfl ?_
  obtain ⟨g1, h⟩ := og h
  refine g_iald K kd_54 ltN_54 g1 dX6_finalBlock_14 ?_
  refine g_csi (As := [.int x1, .int (σ.1 54 x1.toNatClampNeg)]) (rest := [.int x2, .ref (X.ad 25)]) K (m_X2_allies x1 (σ.1 54 x1.toNatClampNeg) σ) yv_X2_allies ml_X6_293 rfl rfl rfl ⟨Nat.le_trans (Nat.le_of_ble_eq_true rfl) hR.1, Nat.le_trans (Nat.le_of_ble_eq_true rfl) hR.2⟩ (Nat.le_of_ble_eq_true rfl) dX6_finalBlock_15 ?_
  obtain ⟨r2, e3, h⟩ := ob h
  refine g_cvi (As := [.int x2, .int (f_X2_allies x1 (σ.1 54 x1.toNatClampNeg))]) (rest := []) K (m_X2_block is_25 e3) yv_X2_block ml_X6_296 rfl rfl rfl (e_Holdings kd_25) ltN_25 rfl rfl ⟨Nat.le_trans (Nat.le_of_ble_eq_true rfl) hR.1, Nat.le_trans (Nat.le_of_ble_eq_true rfl) hR.2⟩ (Nat.le_of_ble_eq_true rfl) dX6_finalBlock_18 ?_
  exact hr _ _ _ _ dX6_finalBlock_21 (rt1 h)
theorem m_X6_finalBlock {x1 : Int32} {x2 : Int32} {σ : Sg}  {r : Int32} (h : f_X6_finalBlock x1 x2 σ = some r) : CI yX6_finalBlock cX6_finalBlock 3 (some .int) 1 24 (fun ad => [.ref (ad 0), .int x1, .int x2]) σ r σ :=
  CI.of (by decide) (fun _ => Nat.le_of_ble_eq_true rfl) (fun X K hR hr => w_X6_finalBlock K hR h hr)
def f_X6_wayOfControl (x1 : Int32) (x2 : Int32) (σ : Sg) : Option Int32 :=
  if inb x1 9 then
  (if (f_X6_has (σ.1 54 x1.toNatClampNeg) x2) = 0 then
  (some 0)
  else
  (Option.bind (f_X6_finalBlock x1 x2 σ) (fun r3 =>
  if r3 ≤ (σ.1 1 9) then
  (some 2)
  else
  (some 1))))
  else none
set_option maxRecDepth 20000 in
set_option maxHeartbeats 4000000 in
theorem w_X6_wayOfControl {X : Ctx} (K : Cok X cX6_wayOfControl 3 RX6) (hR : 2 ≤ X.R.frames ∧ 46 ≤ X.R.locals) {x1 : Int32} {x2 : Int32} {σ : Sg}  {r : Int32} (h : f_X6_wayOfControl x1 x2 σ = some r) (hr : RI X cX6_wayOfControl 3 (r, σ)) : G X 3 0 [(0, .ref (X.ad 0)), (1, .int x1), (2, .int x2)] [] σ := by
  unfold f_X6_wayOfControl at h
  refine g_aload_n K 0 dX6_wayOfControl_0 rfl rfl ?_
  refine g_get (v := .ref (X.ad 53)) K (e_ControlRegister kd_0) ltN_0 rfl 5 (by decide) rfl fw_X6_32 u_X6 dX6_wayOfControl_1 ?_
  refine g_get (v := .ref (X.ad 54)) K (e_Control kd_53) ltN_53 rfl 0 (by decide) rfl fw_X6_163 u_X1 dX6_wayOfControl_4 ?_
  refine g_iload_n K 1 dX6_wayOfControl_7 rfl rfl ?_
  obtain ⟨g1, h⟩ := og h
  refine g_iald K kd_54 ltN_54 g1 dX6_wayOfControl_8 ?_
  refine g_iload_n K 2 dX6_wayOfControl_9 rfl rfl ?_
  refine g_csi (As := [.int (σ.1 54 x1.toNatClampNeg), .int x2]) (rest := []) K (m_X6_has (σ.1 54 x1.toNatClampNeg) x2 σ) yv_X6_has ml_X6_159 rfl rfl rfl ⟨Nat.le_trans (Nat.le_of_ble_eq_true rfl) hR.1, Nat.le_trans (Nat.le_of_ble_eq_true rfl) hR.2⟩ (Nat.le_of_ble_eq_true rfl) dX6_wayOfControl_10 ?_
  refine g_if_ne (tgt := 18) K dX6_wayOfControl_13 (by decide) (fun c2 => ?_) (fun c2 => ?_)
  · replace h := bn c2 h
    refine g_aload_n K 0 dX6_wayOfControl_18 rfl rfl ?_
    refine g_iload_n K 1 dX6_wayOfControl_19 rfl rfl ?_
    refine g_iload_n K 2 dX6_wayOfControl_20 rfl rfl ?_
    obtain ⟨r3, e4, h⟩ := ob h
    refine g_cvi (As := [.int x1, .int x2]) (rest := []) K (m_X6_finalBlock e4) yv_X6_finalBlock ml_X6_173 rfl rfl rfl (e_ControlRegister kd_0) ltN_0 rfl rfl ⟨Nat.le_trans (Nat.le_of_ble_eq_true rfl) hR.1, Nat.le_trans (Nat.le_of_ble_eq_true rfl) hR.2⟩ (Nat.le_of_ble_eq_true rfl) dX6_wayOfControl_21 ?_
    refine g_aload_n K 0 dX6_wayOfControl_24 rfl rfl ?_
    refine g_get (v := .ref (X.ad 1)) K (e_ControlRegister kd_0) ltN_0 rfl 0 (by decide) rfl fw_X6_12 u_X6 dX6_wayOfControl_25 ?_
    refine g_get (v := .int (σ.1 1 9)) K (e_Book kd_1) ltN_1 rfl 9 (by decide) rfl fw_X6_134 u_X0 dX6_wayOfControl_28 ?_
    refine g_icmp_le (tgt := 38) K dX6_wayOfControl_31 (by decide) (fun c5 => ?_) (fun c5 => ?_)
    · replace h := bp c5 h
      refine g_iconst (v := 2) K dX6_wayOfControl_38 ic_2 ?_
      exact hr _ _ _ _ dX6_wayOfControl_39 (rt1 h)
    · replace h := bn c5 h
      refine g_iconst (v := 1) K dX6_wayOfControl_34 ic_1 ?_
      refine g_goto (tgt := 39) K dX6_wayOfControl_35 (by decide) ?_
      exact hr _ _ _ _ dX6_wayOfControl_39 (rt1 h)
  · replace h := bp c2 h
    refine g_iconst (v := 0) K dX6_wayOfControl_16 ic_0 ?_
    exact hr _ _ _ _ dX6_wayOfControl_17 (rt1 h)
theorem m_X6_wayOfControl {x1 : Int32} {x2 : Int32} {σ : Sg}  {r : Int32} (h : f_X6_wayOfControl x1 x2 σ = some r) : CI yX6_wayOfControl cX6_wayOfControl 3 (some .int) 2 46 (fun ad => [.ref (ad 0), .int x1, .int x2]) σ r σ :=
  CI.of (by decide) (fun _ => Nat.le_of_ble_eq_true rfl) (fun X K hR hr => w_X6_wayOfControl K hR h hr)
def f_X6_how (x1 : Int32) (x2 : Int32) (x3 : Int32) (σ : Sg) : Option (Int32 × Sg) :=
  if (f_X6_isController x1) = 0 then
  (some ((-1), σ))
  else
  (if (f_X6_isFirm x2) = 0 then
  (some ((-1), σ))
  else
  (Option.bind (f_X6_bringUpToDate σ) (fun q3 =>
  if x3 = 0 then
  (Option.bind (f_X6_wayOfControl x1 x2 q3) (fun r6 =>
  some (r6, q3)))
  else
  (if x3 = 1 then
  (if inb x1 9 then
  (if inb x2 5 then
  (some ((q3.1 (55 + 1 + x1.toNatClampNeg) x2.toNatClampNeg), q3))
  else none)
  else none)
  else
  (if x3 = 2 then
  (Option.bind (f_X6_finalBlock x1 x2 q3) (fun r12 =>
  some (r12, q3)))
  else
  (if x3 = 3 then
  (Option.bind (f_X1_witnessOf 53 x1 x2 25 1 q3) (fun r15 =>
  some (r15, q3)))
  else
  (if x3 = 4 then
  (Option.bind (f_X1_chainOf 53 x1 x2 25 1 q3) (fun r18 =>
  some (r18, q3)))
  else
  (some ((-2), q3)))))))))
set_option maxRecDepth 20000 in
set_option maxHeartbeats 4000000 in
theorem w_X6_how {X : Ctx} (K : Cok X cX6_how 4 RX6) (hR : 6 ≤ X.R.frames ∧ 146 ≤ X.R.locals) {x1 : Int32} {x2 : Int32} {x3 : Int32} {σ : Sg}  {r : Int32 × Sg} (h : f_X6_how x1 x2 x3 σ = some r) (hr : RI X cX6_how 4 r) : G X 4 0 [(0, .ref (X.ad 0)), (1, .int x1), (2, .int x2), (3, .int x3)] [] σ := by
  unfold f_X6_how at h
  refine g_iload_n K 1 dX6_how_0 rfl rfl ?_
  refine g_csi (As := [.int x1]) (rest := []) K (m_X6_isController x1 σ) yv_X6_isController ml_X6_67 rfl rfl rfl ⟨Nat.le_trans (Nat.le_of_ble_eq_true rfl) hR.1, Nat.le_trans (Nat.le_of_ble_eq_true rfl) hR.2⟩ (Nat.le_of_ble_eq_true rfl) dX6_how_1 ?_
  refine g_if_eq (tgt := 14) K dX6_how_4 (by decide) (fun c1 => ?_) (fun c1 => ?_)
  · replace h := bp c1 h
    refine g_iconst (v := (-1)) K dX6_how_14 ic_m1 ?_
    exact hr _ _ _ _ dX6_how_15 (rt2 h)
  · replace h := bn c1 h
    refine g_iload_n K 2 dX6_how_7 rfl rfl ?_
    refine g_csi (As := [.int x2]) (rest := []) K (m_X6_isFirm x2 σ) yv_X6_isFirm ml_X6_71 rfl rfl rfl ⟨Nat.le_trans (Nat.le_of_ble_eq_true rfl) hR.1, Nat.le_trans (Nat.le_of_ble_eq_true rfl) hR.2⟩ (Nat.le_of_ble_eq_true rfl) dX6_how_8 ?_
    refine g_if_ne (tgt := 16) K dX6_how_11 (by decide) (fun c2 => ?_) (fun c2 => ?_)
    · replace h := bn c2 h
      refine g_aload_n K 0 dX6_how_16 rfl rfl ?_
      obtain ⟨q3, e4, h⟩ := ob h
      refine g_cvv (As := []) (rest := []) K (m_X6_bringUpToDate e4) yv_X6_bringUpToDate ml_X6_146 rfl rfl rfl (e_ControlRegister kd_0) ltN_0 rfl rfl ⟨Nat.le_trans (Nat.le_of_ble_eq_true rfl) hR.1, Nat.le_trans (Nat.le_of_ble_eq_true rfl) hR.2⟩ (Nat.le_of_ble_eq_true rfl) dX6_how_17 ?_
      refine g_iload_n K 3 dX6_how_20 rfl rfl ?_
      rcases Classical.em (x3 = 0) with c5 | c5
      · replace h := bp c5 h
        refine g_tableIn (y := 0) (off := 35) (tgt := 56) K dX6_how_21 c5 (by decide) (by decide) (by decide) (by decide) ?_
        refine g_aload_n K 0 dX6_how_56 rfl rfl ?_
        refine g_iload_n K 1 dX6_how_57 rfl rfl ?_
        refine g_iload_n K 2 dX6_how_58 rfl rfl ?_
        obtain ⟨r6, e7, h⟩ := ob h
        refine g_cvi (As := [.int x1, .int x2]) (rest := []) K (m_X6_wayOfControl e7) yv_X6_wayOfControl ml_X6_166 rfl rfl rfl (e_ControlRegister kd_0) ltN_0 rfl rfl ⟨Nat.le_trans (Nat.le_of_ble_eq_true rfl) hR.1, Nat.le_trans (Nat.le_of_ble_eq_true rfl) hR.2⟩ (Nat.le_of_ble_eq_true rfl) dX6_how_59 ?_
        exact hr _ _ _ _ dX6_how_62 (rt2 h)
      · replace h := bn c5 h
        rcases Classical.em (x3 = 1) with c8 | c8
        · replace h := bp c8 h
          refine g_tableIn (y := 1) (off := 42) (tgt := 63) K dX6_how_21 c8 (by decide) (by decide) (by decide) (by decide) ?_
          refine g_aload_n K 0 dX6_how_63 rfl rfl ?_
          refine g_get (v := .ref (X.ad 53)) K (e_ControlRegister kd_0) ltN_0 rfl 5 (by decide) rfl fw_X6_32 u_X6 dX6_how_64 ?_
          refine g_get (v := .ref (X.ad 55)) K (e_Control kd_53) ltN_53 rfl 1 (by decide) rfl fw_X6_170 u_X1 dX6_how_67 ?_
          refine g_iload_n K 1 dX6_how_70 rfl rfl ?_
          obtain ⟨g9, h⟩ := og h
          refine g_aaldI K kd_55 ltN_55 g9 dX6_how_71 ?_
          refine g_iload_n K 2 dX6_how_72 rfl rfl ?_
          obtain ⟨g10, h⟩ := og h
          refine g_iald K (ct_r2 is_53 g9) (ct_s2 is_53 g9) g10 dX6_how_73 ?_
          exact hr _ _ _ _ dX6_how_74 (rt2 h)
        · replace h := bn c8 h
          rcases Classical.em (x3 = 2) with c11 | c11
          · replace h := bp c11 h
            refine g_tableIn (y := 2) (off := 54) (tgt := 75) K dX6_how_21 c11 (by decide) (by decide) (by decide) (by decide) ?_
            refine g_aload_n K 0 dX6_how_75 rfl rfl ?_
            refine g_iload_n K 1 dX6_how_76 rfl rfl ?_
            refine g_iload_n K 2 dX6_how_77 rfl rfl ?_
            obtain ⟨r12, e13, h⟩ := ob h
            refine g_cvi (As := [.int x1, .int x2]) (rest := []) K (m_X6_finalBlock e13) yv_X6_finalBlock ml_X6_173 rfl rfl rfl (e_ControlRegister kd_0) ltN_0 rfl rfl ⟨Nat.le_trans (Nat.le_of_ble_eq_true rfl) hR.1, Nat.le_trans (Nat.le_of_ble_eq_true rfl) hR.2⟩ (Nat.le_of_ble_eq_true rfl) dX6_how_78 ?_
            exact hr _ _ _ _ dX6_how_81 (rt2 h)
          · replace h := bn c11 h
            rcases Classical.em (x3 = 3) with c14 | c14
            · replace h := bp c14 h
              refine g_tableIn (y := 3) (off := 61) (tgt := 82) K dX6_how_21 c14 (by decide) (by decide) (by decide) (by decide) ?_
              refine g_aload_n K 0 dX6_how_82 rfl rfl ?_
              refine g_get (v := .ref (X.ad 53)) K (e_ControlRegister kd_0) ltN_0 rfl 5 (by decide) rfl fw_X6_32 u_X6 dX6_how_83 ?_
              refine g_iload_n K 1 dX6_how_86 rfl rfl ?_
              refine g_iload_n K 2 dX6_how_87 rfl rfl ?_
              refine g_aload_n K 0 dX6_how_88 rfl rfl ?_
              refine g_get (v := .ref (X.ad 25)) K (e_ControlRegister kd_0) ltN_0 rfl 4 (by decide) rfl fw_X6_25 u_X6 dX6_how_89 ?_
              refine g_aload_n K 0 dX6_how_92 rfl rfl ?_
              refine g_get (v := .ref (X.ad 1)) K (e_ControlRegister kd_0) ltN_0 rfl 0 (by decide) rfl fw_X6_12 u_X6 dX6_how_93 ?_
              obtain ⟨r15, e16, h⟩ := ob h
              refine g_cvi (As := [.int x1, .int x2, .ref (X.ad 25), .ref (X.ad 1)]) (rest := []) K (m_X1_witnessOf is_53 is_25 is_1 e16) yv_X1_witnessOf ml_X6_176 rfl rfl rfl (e_Control kd_53) ltN_53 rfl rfl ⟨Nat.le_trans (Nat.le_of_ble_eq_true rfl) hR.1, Nat.le_trans (Nat.le_of_ble_eq_true rfl) hR.2⟩ (Nat.le_of_ble_eq_true rfl) dX6_how_96 ?_
              exact hr _ _ _ _ dX6_how_99 (rt2 h)
            · replace h := bn c14 h
              rcases Classical.em (x3 = 4) with c17 | c17
              · replace h := bp c17 h
                refine g_tableIn (y := 4) (off := 79) (tgt := 100) K dX6_how_21 c17 (by decide) (by decide) (by decide) (by decide) ?_
                refine g_aload_n K 0 dX6_how_100 rfl rfl ?_
                refine g_get (v := .ref (X.ad 53)) K (e_ControlRegister kd_0) ltN_0 rfl 5 (by decide) rfl fw_X6_32 u_X6 dX6_how_101 ?_
                refine g_iload_n K 1 dX6_how_104 rfl rfl ?_
                refine g_iload_n K 2 dX6_how_105 rfl rfl ?_
                refine g_aload_n K 0 dX6_how_106 rfl rfl ?_
                refine g_get (v := .ref (X.ad 25)) K (e_ControlRegister kd_0) ltN_0 rfl 4 (by decide) rfl fw_X6_25 u_X6 dX6_how_107 ?_
                refine g_aload_n K 0 dX6_how_110 rfl rfl ?_
                refine g_get (v := .ref (X.ad 1)) K (e_ControlRegister kd_0) ltN_0 rfl 0 (by decide) rfl fw_X6_12 u_X6 dX6_how_111 ?_
                obtain ⟨r18, e19, h⟩ := ob h
                refine g_cvi (As := [.int x1, .int x2, .ref (X.ad 25), .ref (X.ad 1)]) (rest := []) K (m_X1_chainOf is_53 is_25 is_1 e19) yv_X1_chainOf ml_X6_180 rfl rfl rfl (e_Control kd_53) ltN_53 rfl rfl ⟨Nat.le_trans (Nat.le_of_ble_eq_true rfl) hR.1, Nat.le_trans (Nat.le_of_ble_eq_true rfl) hR.2⟩ (Nat.le_of_ble_eq_true rfl) dX6_how_114 ?_
                exact hr _ _ _ _ dX6_how_117 (rt2 h)
              · replace h := bn c17 h
                refine g_tableOut (tgt := 118) K dX6_how_21 (by have w0 := lv_neT (a := 0) c5 (by decide); have w1 := lv_neT (a := 1) c8 (by decide); have w2 := lv_neT (a := 2) c11 (by decide); have w3 := lv_neT (a := 3) c14 (by decide); have w4 := lv_neT (a := 4) c17 (by decide); omega) (by decide) ?_
                refine g_bipush (v := (-2)) K dX6_how_118 bp_m2 ?_
                exact hr _ _ _ _ dX6_how_120 (rt2 h)
    · replace h := bp c2 h
      refine g_iconst (v := (-1)) K dX6_how_14 ic_m1 ?_
      exact hr _ _ _ _ dX6_how_15 (rt2 h)
theorem m_X6_how {x1 : Int32} {x2 : Int32} {x3 : Int32} {σ : Sg}  {r : Int32 × Sg} (h : f_X6_how x1 x2 x3 σ = some r) : CI yX6_how cX6_how 4 (some .int) 6 146 (fun ad => [.ref (ad 0), .int x1, .int x2, .int x3]) σ r.1 r.2 :=
  CI.of (by decide) (fun _ => Nat.le_of_ble_eq_true rfl) (fun X K hR hr => w_X6_how K hR h hr)
