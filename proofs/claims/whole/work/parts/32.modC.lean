def L_X7_dayBehind_5 (x1 : Int32) (σ : Sg) : Nat → Int32 → Int32 → Option (Int32 × Int32)
  | 0, _, _ => none
  | n + 1, x2, x3 =>
    if (σ.1 132 6) ≤ x3 then
    (some (x2, x3))
    else
    (if inb x3 41 then
    (Option.bind (if (σ.1 133 x3.toNatClampNeg) ≤ x1 then (some x2) else (if x2 < 0 then (if inb x3 41 then (some (σ.1 133 x3.toNatClampNeg)) else none) else (if inb x3 41 then (if x2 ≤ (σ.1 133 x3.toNatClampNeg) then (some x2) else (if inb x3 41 then (some (σ.1 133 x3.toNatClampNeg)) else none)) else none)) : Option Int32) (fun v10 =>
    L_X7_dayBehind_5 x1 σ n v10 (x3 + 1)))
    else none)
set_option maxRecDepth 20000 in
set_option maxHeartbeats 4000000 in
theorem l_X7_dayBehind_5 {X : Ctx} (K : Cok X cX7_dayBehind 4 RX7) (hR : 0 ≤ X.R.frames ∧ 0 ≤ X.R.locals) {x1 : Int32} {σ : Sg}  :
    ∀ (n : Nat) (x2 : Int32) (x3 : Int32) (o : (Int32 × Int32)), L_X7_dayBehind_5 x1 σ n x2 x3 = some o → G X 4 54 [(0, .ref (X.ad 132)), (1, .int x1), (2, .int o.1), (3, .int o.2)] [] σ → G X 4 5 [(0, .ref (X.ad 132)), (1, .int x1), (2, .int x2), (3, .int x3)] [] σ := by
  intro n
  induction n with
  | zero => intro x2 x3 o h; exact absurd h (by unfold L_X7_dayBehind_5; intro h; cases h)
  | succ n ih =>
    intro x2 x3 o h hexit
    unfold L_X7_dayBehind_5 at h
    refine g_iload_n K 3 dX7_dayBehind_5 rfl rfl ?_
    refine g_aload_n K 0 dX7_dayBehind_6 rfl rfl ?_
    refine g_get (v := .int (σ.1 132 6)) K (e_ControlRegisterModel kd_132) ltN_132 rfl 6 (by decide) rfl fw_X7_70 u_X7 dX7_dayBehind_7 ?_
    refine g_icmp_ge (tgt := 54) K dX7_dayBehind_10 (by decide) (fun c1 => ?_) (fun c1 => ?_)
    · replace h := bp c1 h
      refine g_sub [0, 1, 2, 3] rfl ?_
      obtain rfl := Option.some.inj h
      exact hexit
    · replace h := bn c1 h
      refine g_aload_n K 0 dX7_dayBehind_13 rfl rfl ?_
      refine g_get (v := .ref (X.ad 133)) K (e_ControlRegisterModel kd_132) ltN_132 rfl 0 (by decide) rfl fw_X7_7 u_X7 dX7_dayBehind_14 ?_
      refine g_iload_n K 3 dX7_dayBehind_17 rfl rfl ?_
      obtain ⟨g2, h⟩ := og h
      refine g_iald K kd_133 ltN_133 g2 dX7_dayBehind_18 ?_
      refine g_iload_n K 1 dX7_dayBehind_19 rfl rfl ?_
      refine bd_cut h (P := (fun v10 => G X 4 47 [(0, .ref (X.ad 132)), (1, .int x1), (2, .int x2), (3, .int x3)] [.int v10] σ)) (fun v10 h => ?_) (fun tail_9 => ?_)
      · refine g_istore_n (lv' := [(2, .int v10), (0, .ref (X.ad 132)), (1, .int x1), (3, .int x3)]) K dX7_dayBehind_47 rfl (by decide) rfl ?_
        refine g_iinc (lv' := [(3, .int (x3 + 1)), (2, .int v10), (0, .ref (X.ad 132)), (1, .int x1)]) K 3 dX7_dayBehind_48 rfl (by rw [ic_1]) (by decide) rfl ?_
        refine g_goto (tgt := 5) K dX7_dayBehind_51 (by decide) ?_
        refine g_sub [2, 3, 1, 0] rfl ?_
        exact ih _ _ _ h hexit
      · refine g_icmp_le (tgt := 46) K dX7_dayBehind_20 (by decide) (fun c11 => ?_) (fun c11 => ?_)
        · replace h := jbp c11 h
          refine g_iload_n K 2 dX7_dayBehind_46 rfl rfl ?_
          exact tail_9 _ h
        · replace h := jbn c11 h
          refine g_iload_n K 2 dX7_dayBehind_23 rfl rfl ?_
          refine g_if_lt (tgt := 37) K dX7_dayBehind_24 (by decide) (fun c12 => ?_) (fun c12 => ?_)
          · replace h := jbp c12 h
            refine g_aload_n K 0 dX7_dayBehind_37 rfl rfl ?_
            refine g_get (v := .ref (X.ad 133)) K (e_ControlRegisterModel kd_132) ltN_132 rfl 0 (by decide) rfl fw_X7_7 u_X7 dX7_dayBehind_38 ?_
            refine g_iload_n K 3 dX7_dayBehind_41 rfl rfl ?_
            obtain ⟨g13, h⟩ := ogb h
            refine g_iald K kd_133 ltN_133 g13 dX7_dayBehind_42 ?_
            refine g_goto (tgt := 47) K dX7_dayBehind_43 (by decide) ?_
            exact tail_9 _ h
          · replace h := jbn c12 h
            refine g_aload_n K 0 dX7_dayBehind_27 rfl rfl ?_
            refine g_get (v := .ref (X.ad 133)) K (e_ControlRegisterModel kd_132) ltN_132 rfl 0 (by decide) rfl fw_X7_7 u_X7 dX7_dayBehind_28 ?_
            refine g_iload_n K 3 dX7_dayBehind_31 rfl rfl ?_
            obtain ⟨g14, h⟩ := ogb h
            refine g_iald K kd_133 ltN_133 g14 dX7_dayBehind_32 ?_
            refine g_iload_n K 2 dX7_dayBehind_33 rfl rfl ?_
            refine g_icmp_ge (tgt := 46) K dX7_dayBehind_34 (by decide) (fun c15 => ?_) (fun c15 => ?_)
            · replace h := jbp c15 h
              refine g_iload_n K 2 dX7_dayBehind_46 rfl rfl ?_
              exact tail_9 _ h
            · replace h := jbn c15 h
              refine g_aload_n K 0 dX7_dayBehind_37 rfl rfl ?_
              refine g_get (v := .ref (X.ad 133)) K (e_ControlRegisterModel kd_132) ltN_132 rfl 0 (by decide) rfl fw_X7_7 u_X7 dX7_dayBehind_38 ?_
              refine g_iload_n K 3 dX7_dayBehind_41 rfl rfl ?_
              obtain ⟨g16, h⟩ := ogb h
              refine g_iald K kd_133 ltN_133 g16 dX7_dayBehind_42 ?_
              refine g_goto (tgt := 47) K dX7_dayBehind_43 (by decide) ?_
              exact tail_9 _ h
def f_X7_dayBehind (x1 : Int32) (σ : Sg) : Option Int32 :=
  Option.bind (L_X7_dayBehind_5 x1 σ FU (-6) 0) (fun o1 =>
  some o1.1)
set_option maxRecDepth 20000 in
set_option maxHeartbeats 4000000 in
theorem w_X7_dayBehind {X : Ctx} (K : Cok X cX7_dayBehind 4 RX7) (hR : 0 ≤ X.R.frames ∧ 0 ≤ X.R.locals) {x1 : Int32} {σ : Sg}  {r : Int32} (h : f_X7_dayBehind x1 σ = some r) (hr : RI X cX7_dayBehind 4 (r, σ)) : G X 4 0 [(0, .ref (X.ad 132)), (1, .int x1)] [] σ := by
  unfold f_X7_dayBehind at h
  refine g_bipush (v := (-6)) K dX7_dayBehind_0 bp_m6 ?_
  refine g_istore_n (lv' := [(2, .int (-6)), (0, .ref (X.ad 132)), (1, .int x1)]) K dX7_dayBehind_2 rfl (by decide) rfl ?_
  refine g_iconst (v := 0) K dX7_dayBehind_3 ic_0 ?_
  refine g_istore_n (lv' := [(3, .int 0), (2, .int (-6)), (0, .ref (X.ad 132)), (1, .int x1)]) K dX7_dayBehind_4 rfl (by decide) rfl ?_
  obtain ⟨o1, e2, h⟩ := ob h
  refine g_sub [2, 3, 1, 0] rfl ?_
  refine l_X7_dayBehind_5 K hR _ _ _ _ e2 ?_
  refine g_iload_n K 2 dX7_dayBehind_54 rfl rfl ?_
  exact hr _ _ _ _ dX7_dayBehind_55 (rt1 h)
theorem m_X7_dayBehind {x1 : Int32} {σ : Sg}  {r : Int32} (h : f_X7_dayBehind x1 σ = some r) : CI yX7_dayBehind cX7_dayBehind 4 (some .int) 0 0 (fun ad => [.ref (ad 132), .int x1]) σ r σ :=
  CI.of (by decide) (fun _ => Nat.le_of_ble_eq_true rfl) (fun X K hR hr => w_X7_dayBehind K hR h hr)
def L_X7_when_31 (x1 : Int32) (x2 : Int32) (x3 : Int32) : Nat → Int32 → Int32 → Sg → Option ((Int32 × Sg) ⊕ (Int32 × Int32 × Sg))
  | 0, _, _, _ => none
  | n + 1, x4, x5, σ =>
    if 40 < x5 then
    (some (.inr (x4, x5, σ)))
    else
    (if x4 < 0 then
    (some (.inr (x4, x5, σ)))
    else
    (Option.bind (f_X7_lay x4 (-6) σ) (fun q3 =>
    Option.bind (f_X7_control x1 q3.2) (fun q5 =>
    jn (if x3 = 1 then (1) else (0) : Int32) (fun v9 =>
    if (f_X7_has q5.1 x2) = v9 then
    (some (.inl (x4, q5.2)))
    else
    (Option.bind (f_X7_dayBehind x4 q5.2) (fun r12 =>
    L_X7_when_31 x1 x2 x3 n r12 (x5 + 1) q5.2)))))))
set_option maxRecDepth 20000 in
set_option maxHeartbeats 4000000 in
theorem l_X7_when_31 {X : Ctx} (K : Cok X cX7_when 6 RX7) (hR : 5 ≤ X.R.frames ∧ 120 ≤ X.R.locals) {res : Int32 × Sg} (hr : RI X cX7_when 6 res) {x1 : Int32} {x2 : Int32} {x3 : Int32}  :
    ∀ (n : Nat) (x4 : Int32) (x5 : Int32) (σ : Sg) (o : ((Int32 × Sg) ⊕ (Int32 × Int32 × Sg))), L_X7_when_31 x1 x2 x3 n x4 x5 σ = some o → (∀ q, o = .inl q → q = res) → (∀ q, o = .inr q → G X 6 91 [(0, .ref (X.ad 132)), (1, .int x1), (2, .int x2), (3, .int x3), (4, .int q.1), (5, .int q.2.1)] [] q.2.2) → G X 6 31 [(0, .ref (X.ad 132)), (1, .int x1), (2, .int x2), (3, .int x3), (4, .int x4), (5, .int x5)] [] σ := by
  intro n
  induction n with
  | zero => intro x4 x5 σ o h; exact absurd h (by unfold L_X7_when_31; intro h; cases h)
  | succ n ih =>
    intro x4 x5 σ o h hret hexit
    unfold L_X7_when_31 at h
    refine g_iload K 5 dX7_when_31 rfl ?_
    refine g_bipush (v := 40) K dX7_when_33 bp_40 ?_
    refine g_icmp_gt (tgt := 91) K dX7_when_35 (by decide) (fun c1 => ?_) (fun c1 => ?_)
    · replace h := bp c1 h
      refine g_sub [0, 1, 2, 3, 4, 5] rfl ?_
      exact hexit _ (Option.some.inj h).symm
    · replace h := bn c1 h
      refine g_iload K 4 dX7_when_38 rfl ?_
      refine g_if_lt (tgt := 91) K dX7_when_40 (by decide) (fun c2 => ?_) (fun c2 => ?_)
      · replace h := bp c2 h
        refine g_sub [0, 1, 2, 3, 4, 5] rfl ?_
        exact hexit _ (Option.some.inj h).symm
      · replace h := bn c2 h
        refine g_aload_n K 0 dX7_when_43 rfl rfl ?_
        refine g_iload K 4 dX7_when_44 rfl ?_
        refine g_bipush (v := (-6)) K dX7_when_46 bp_m6 ?_
        obtain ⟨q3, e4, h⟩ := ob h
        refine g_cvi (As := [.int x4, .int (-6)]) (rest := []) K (m_X7_lay e4) yv_X7_lay ml_X7_89 rfl rfl rfl (e_ControlRegisterModel kd_132) ltN_132 rfl rfl ⟨Nat.le_trans (Nat.le_of_ble_eq_true rfl) hR.1, Nat.le_trans (Nat.le_of_ble_eq_true rfl) hR.2⟩ (Nat.le_of_ble_eq_true rfl) dX7_when_48 ?_
        refine g_pop K dX7_when_51 rfl ?_
        refine g_aload_n K 0 dX7_when_52 rfl rfl ?_
        refine g_iload_n K 1 dX7_when_53 rfl rfl ?_
        obtain ⟨q5, e6, h⟩ := ob h
        refine g_cvi (As := [.int x1]) (rest := []) K (m_X7_control e6) yv_X7_control ml_X7_133 rfl rfl rfl (e_ControlRegisterModel kd_132) ltN_132 rfl rfl ⟨Nat.le_trans (Nat.le_of_ble_eq_true rfl) hR.1, Nat.le_trans (Nat.le_of_ble_eq_true rfl) hR.2⟩ (Nat.le_of_ble_eq_true rfl) dX7_when_54 ?_
        refine g_iload_n K 2 dX7_when_57 rfl rfl ?_
        refine g_csi (As := [.int q5.1, .int x2]) (rest := []) K (m_X7_has q5.1 x2 q5.2) yv_X7_has ml_X7_117 rfl rfl rfl ⟨Nat.le_trans (Nat.le_of_ble_eq_true rfl) hR.1, Nat.le_trans (Nat.le_of_ble_eq_true rfl) hR.2⟩ (Nat.le_of_ble_eq_true rfl) dX7_when_58 ?_
        refine g_iload_n K 3 dX7_when_61 rfl rfl ?_
        refine g_iconst (v := 1) K dX7_when_62 ic_1 ?_
        refine jn_cut h (P := (fun v9 => G X 6 71 [(0, .ref (X.ad 132)), (1, .int x1), (2, .int x2), (3, .int x3), (4, .int x4), (5, .int x5)] [.int v9, .int (f_X7_has q5.1 x2)] q5.2)) (fun v9 h => ?_) (fun tail_8 => ?_)
        · refine g_icmp_ne (tgt := 77) K dX7_when_71 (by decide) (fun c11 => ?_) (fun c11 => ?_)
          · replace h := bn c11 h
            refine g_aload_n K 0 dX7_when_77 rfl rfl ?_
            refine g_iload K 4 dX7_when_78 rfl ?_
            obtain ⟨r12, e13, h⟩ := ob h
            refine g_cvi (As := [.int x4]) (rest := []) K (m_X7_dayBehind e13) yv_X7_dayBehind ml_X7_148 rfl rfl rfl (e_ControlRegisterModel kd_132) ltN_132 rfl rfl ⟨Nat.le_trans (Nat.le_of_ble_eq_true rfl) hR.1, Nat.le_trans (Nat.le_of_ble_eq_true rfl) hR.2⟩ (Nat.le_of_ble_eq_true rfl) dX7_when_80 ?_
            refine g_istore (lv' := [(4, .int r12), (0, .ref (X.ad 132)), (1, .int x1), (2, .int x2), (3, .int x3), (5, .int x5)]) K dX7_when_83 (by decide) rfl ?_
            refine g_iinc (lv' := [(5, .int (x5 + 1)), (4, .int r12), (0, .ref (X.ad 132)), (1, .int x1), (2, .int x2), (3, .int x3)]) K 5 dX7_when_85 rfl (by rw [ic_1]) (by decide) rfl ?_
            refine g_goto (tgt := 31) K dX7_when_88 (by decide) ?_
            refine g_sub [2, 3, 4, 5, 1, 0] rfl ?_
            exact ih _ _ _ _ h hret hexit
          · replace h := bp c11 h
            refine g_iload K 4 dX7_when_74 rfl ?_
            exact hr _ _ _ _ dX7_when_76 (hret _ (Option.some.inj h).symm)
        · refine g_icmp_ne (tgt := 70) K dX7_when_63 (by decide) (fun c10 => ?_) (fun c10 => ?_)
          · replace h := jpn c10 h
            refine g_iconst (v := 0) K dX7_when_70 ic_0 ?_
            exact tail_8 _ h
          · replace h := jpp c10 h
            refine g_iconst (v := 1) K dX7_when_66 ic_1 ?_
            refine g_goto (tgt := 71) K dX7_when_67 (by decide) ?_
            exact tail_8 _ h
def f_X7_when (x1 : Int32) (x2 : Int32) (x3 : Int32) (σ : Sg) : Option (Int32 × Sg) :=
  if (f_X7_areKnown x1 x2) = 0 then
  (some ((-1), σ))
  else
  (if (f_X7_in x3 0 1) = 0 then
  (some ((-2), σ))
  else
  (Option.bind (L_X7_when_31 x1 x2 x3 FU (σ.1 132 7) 0 σ) (fun o3 => Sum.elim (fun x => some x) (fun o3 =>
  some ((-6), o3.2.2)) o3)))
set_option maxRecDepth 20000 in
set_option maxHeartbeats 4000000 in
theorem w_X7_when {X : Ctx} (K : Cok X cX7_when 6 RX7) (hR : 5 ≤ X.R.frames ∧ 120 ≤ X.R.locals) {x1 : Int32} {x2 : Int32} {x3 : Int32} {σ : Sg}  {r : Int32 × Sg} (h : f_X7_when x1 x2 x3 σ = some r) (hr : RI X cX7_when 6 r) : G X 6 0 [(0, .ref (X.ad 132)), (1, .int x1), (2, .int x2), (3, .int x3)] [] σ := by
  unfold f_X7_when at h
  refine g_iload_n K 1 dX7_when_0 rfl rfl ?_
  refine g_iload_n K 2 dX7_when_1 rfl rfl ?_
  refine g_csi (As := [.int x1, .int x2]) (rest := []) K (m_X7_areKnown x1 x2 σ) yv_X7_areKnown ml_X7_142 rfl rfl rfl ⟨Nat.le_trans (Nat.le_of_ble_eq_true rfl) hR.1, Nat.le_trans (Nat.le_of_ble_eq_true rfl) hR.2⟩ (Nat.le_of_ble_eq_true rfl) dX7_when_2 ?_
  refine g_if_ne (tgt := 10) K dX7_when_5 (by decide) (fun c1 => ?_) (fun c1 => ?_)
  · replace h := bn c1 h
    refine g_iload_n K 3 dX7_when_10 rfl rfl ?_
    refine g_iconst (v := 0) K dX7_when_11 ic_0 ?_
    refine g_iconst (v := 1) K dX7_when_12 ic_1 ?_
    refine g_csi (As := [.int x3, .int 0, .int 1]) (rest := []) K (m_X7_in x3 0 1 σ) yv_X7_in ml_X7_66 rfl rfl rfl ⟨Nat.le_trans (Nat.le_of_ble_eq_true rfl) hR.1, Nat.le_trans (Nat.le_of_ble_eq_true rfl) hR.2⟩ (Nat.le_of_ble_eq_true rfl) dX7_when_13 ?_
    refine g_if_ne (tgt := 22) K dX7_when_16 (by decide) (fun c2 => ?_) (fun c2 => ?_)
    · replace h := bn c2 h
      refine g_aload_n K 0 dX7_when_22 rfl rfl ?_
      refine g_get (v := .int (σ.1 132 7)) K (e_ControlRegisterModel kd_132) ltN_132 rfl 7 (by decide) rfl fw_X7_114 u_X7 dX7_when_23 ?_
      refine g_istore (lv' := [(4, .int (σ.1 132 7)), (0, .ref (X.ad 132)), (1, .int x1), (2, .int x2), (3, .int x3)]) K dX7_when_26 (by decide) rfl ?_
      refine g_iconst (v := 0) K dX7_when_28 ic_0 ?_
      refine g_istore (lv' := [(5, .int 0), (4, .int (σ.1 132 7)), (0, .ref (X.ad 132)), (1, .int x1), (2, .int x2), (3, .int x3)]) K dX7_when_29 (by decide) rfl ?_
      obtain ⟨o3, e4, h⟩ := ob h
      refine g_sub [2, 3, 4, 5, 1, 0] rfl ?_
      refine l_X7_when_31 K hR hr _ _ _ _ _ e4 (fun x hx => ?_) (fun o3 hx => ?_)
      · subst hx
        exact rt2 h
      · subst hx
        dsimp only [Sum.elim_inr] at h
        refine g_bipush (v := (-6)) K dX7_when_91 bp_m6 ?_
        exact hr _ _ _ _ dX7_when_93 (rt2 h)
    · replace h := bp c2 h
      refine g_bipush (v := (-2)) K dX7_when_19 bp_m2 ?_
      exact hr _ _ _ _ dX7_when_21 (rt2 h)
  · replace h := bp c1 h
    refine g_iconst (v := (-1)) K dX7_when_8 ic_m1 ?_
    exact hr _ _ _ _ dX7_when_9 (rt2 h)
theorem m_X7_when {x1 : Int32} {x2 : Int32} {x3 : Int32} {σ : Sg}  {r : Int32 × Sg} (h : f_X7_when x1 x2 x3 σ = some r) : CI yX7_when cX7_when 6 (some .int) 5 120 (fun ad => [.ref (ad 132), .int x1, .int x2, .int x3]) σ r.1 r.2 :=
  CI.of (by decide) (fun _ => Nat.le_of_ble_eq_true rfl) (fun X K hR hr => w_X7_when K hR h hr)
def L_X7_fewest_96 (x1 : Int32) (x2 : Int32) (x3 : Int32) (x4 : Int32) (x5 : Int32) (x6 : Int32) (x7 : Int32) : Nat → Int32 → Sg → Option ((Int32 × Sg) ⊕ (Int32 × Sg))
  | 0, _, _ => none
  | n + 1, x8, σ =>
    if x7 < x8 then
    (some (.inr (x8, σ)))
    else
    (Option.bind (f_X7_control x1 σ) (fun q2 =>
    jn (if x3 = 1 then (1) else (0) : Int32) (fun v6 =>
    if (f_X7_has q2.1 x2) = v6 then
    (some (.inl (x8, q2.2)))
    else
    (if inb x4 50 then
    (if inb x4 50 then
    (jn (setR q2.2 142 (upd (q2.2.1 142) x4.toNatClampNeg ((q2.2.1 142 x4.toNatClampNeg) + x6))) (fun σ11 =>
    if inb x5 50 then
    (if inb x5 50 then
    (jn (setR σ11 142 (upd (σ11.1 142) x5.toNatClampNeg ((σ11.1 142 x5.toNatClampNeg) - x6))) (fun σ15 =>
    L_X7_fewest_96 x1 x2 x3 x4 x5 x6 x7 n (x8 + 1) σ15))
    else none)
    else none))
    else none)
    else none))))
set_option maxRecDepth 20000 in
set_option maxHeartbeats 4000000 in
theorem l_X7_fewest_96 {X : Ctx} (K : Cok X cX7_fewest 9 RX7) (hR : 5 ≤ X.R.frames ∧ 120 ≤ X.R.locals) {res : Int32 × Sg} (hr : RI X cX7_fewest 9 res) {x1 : Int32} {x2 : Int32} {x3 : Int32} {x4 : Int32} {x5 : Int32} {x6 : Int32} {x7 : Int32}  :
    ∀ (n : Nat) (x8 : Int32) (σ : Sg) (o : ((Int32 × Sg) ⊕ (Int32 × Sg))), L_X7_fewest_96 x1 x2 x3 x4 x5 x6 x7 n x8 σ = some o → (∀ q, o = .inl q → q = res) → (∀ q, o = .inr q → G X 9 158 [(0, .ref (X.ad 132)), (1, .int x1), (2, .int x2), (3, .int x3), (4, .int x4), (5, .int x5), (6, .int x6), (7, .int x7), (8, .int q.1)] [] q.2) → G X 9 96 [(0, .ref (X.ad 132)), (1, .int x1), (2, .int x2), (3, .int x3), (4, .int x4), (5, .int x5), (6, .int x6), (7, .int x7), (8, .int x8)] [] σ := by
  intro n
  induction n with
  | zero => intro x8 σ o h; exact absurd h (by unfold L_X7_fewest_96; intro h; cases h)
  | succ n ih =>
    intro x8 σ o h hret hexit
    unfold L_X7_fewest_96 at h
    refine g_iload K 8 dX7_fewest_96 rfl ?_
    refine g_iload K 7 dX7_fewest_98 rfl ?_
    refine g_icmp_gt (tgt := 158) K dX7_fewest_100 (by decide) (fun c1 => ?_) (fun c1 => ?_)
    · replace h := bp c1 h
      refine g_sub [0, 1, 2, 3, 4, 5, 6, 7, 8] rfl ?_
      exact hexit _ (Option.some.inj h).symm
    · replace h := bn c1 h
      refine g_aload_n K 0 dX7_fewest_103 rfl rfl ?_
      refine g_iload_n K 1 dX7_fewest_104 rfl rfl ?_
      obtain ⟨q2, e3, h⟩ := ob h
      refine g_cvi (As := [.int x1]) (rest := []) K (m_X7_control e3) yv_X7_control ml_X7_133 rfl rfl rfl (e_ControlRegisterModel kd_132) ltN_132 rfl rfl ⟨Nat.le_trans (Nat.le_of_ble_eq_true rfl) hR.1, Nat.le_trans (Nat.le_of_ble_eq_true rfl) hR.2⟩ (Nat.le_of_ble_eq_true rfl) dX7_fewest_105 ?_
      refine g_iload_n K 2 dX7_fewest_108 rfl rfl ?_
      refine g_csi (As := [.int q2.1, .int x2]) (rest := []) K (m_X7_has q2.1 x2 q2.2) yv_X7_has ml_X7_117 rfl rfl rfl ⟨Nat.le_trans (Nat.le_of_ble_eq_true rfl) hR.1, Nat.le_trans (Nat.le_of_ble_eq_true rfl) hR.2⟩ (Nat.le_of_ble_eq_true rfl) dX7_fewest_109 ?_
      refine g_iload_n K 3 dX7_fewest_112 rfl rfl ?_
      refine g_iconst (v := 1) K dX7_fewest_113 ic_1 ?_
      refine jn_cut h (P := (fun v6 => G X 9 122 [(0, .ref (X.ad 132)), (1, .int x1), (2, .int x2), (3, .int x3), (4, .int x4), (5, .int x5), (6, .int x6), (7, .int x7), (8, .int x8)] [.int v6, .int (f_X7_has q2.1 x2)] q2.2)) (fun v6 h => ?_) (fun tail_5 => ?_)
      · refine g_icmp_ne (tgt := 128) K dX7_fewest_122 (by decide) (fun c8 => ?_) (fun c8 => ?_)
        · replace h := bn c8 h
          refine g_aload_n K 0 dX7_fewest_128 rfl rfl ?_
          refine g_get (v := .ref (X.ad 142)) K (e_ControlRegisterModel kd_132) ltN_132 rfl 11 (by decide) rfl fw_X7_37 u_X7 dX7_fewest_129 ?_
          refine g_iload K 4 dX7_fewest_132 rfl ?_
          refine g_dup2 K dX7_fewest_134 rfl rfl ?_
          obtain ⟨g9, h⟩ := og h
          refine g_iald K kd_142 ltN_142 g9 dX7_fewest_135 ?_
          refine g_iload K 6 dX7_fewest_136 rfl ?_
          refine g_iadd K dX7_fewest_138 ?_
          obtain ⟨g10, h⟩ := og h
          refine g_iast K kd_142 ltN_142 g10 dX7_fewest_139 (fun σ11 s12 => ?_)
          replace h := jn_at s12 h
          refine g_aload_n K 0 dX7_fewest_140 rfl rfl ?_
          refine g_get (v := .ref (X.ad 142)) K (e_ControlRegisterModel kd_132) ltN_132 rfl 11 (by decide) rfl fw_X7_37 u_X7 dX7_fewest_141 ?_
          refine g_iload K 5 dX7_fewest_144 rfl ?_
          refine g_dup2 K dX7_fewest_146 rfl rfl ?_
          obtain ⟨g13, h⟩ := og h
          refine g_iald K kd_142 ltN_142 g13 dX7_fewest_147 ?_
          refine g_iload K 6 dX7_fewest_148 rfl ?_
          refine g_isub K dX7_fewest_150 ?_
          obtain ⟨g14, h⟩ := og h
          refine g_iast K kd_142 ltN_142 g14 dX7_fewest_151 (fun σ15 s16 => ?_)
          replace h := jn_at s16 h
          refine g_iinc (lv' := [(8, .int (x8 + 1)), (0, .ref (X.ad 132)), (1, .int x1), (2, .int x2), (3, .int x3), (4, .int x4), (5, .int x5), (6, .int x6), (7, .int x7)]) K 8 dX7_fewest_152 rfl (by rw [ic_1]) (by decide) rfl ?_
          refine g_goto (tgt := 96) K dX7_fewest_155 (by decide) ?_
          refine g_sub [1, 2, 3, 4, 5, 6, 7, 8, 0] rfl ?_
          exact ih _ _ _ h hret hexit
        · replace h := bp c8 h
          refine g_iload K 8 dX7_fewest_125 rfl ?_
          exact hr _ _ _ _ dX7_fewest_127 (hret _ (Option.some.inj h).symm)
      · refine g_icmp_ne (tgt := 121) K dX7_fewest_114 (by decide) (fun c7 => ?_) (fun c7 => ?_)
        · replace h := jpn c7 h
          refine g_iconst (v := 0) K dX7_fewest_121 ic_0 ?_
          exact tail_5 _ h
        · replace h := jpp c7 h
          refine g_iconst (v := 1) K dX7_fewest_117 ic_1 ?_
          refine g_goto (tgt := 122) K dX7_fewest_118 (by decide) ?_
          exact tail_5 _ h
def f_X7_fewest (x1 : Int32) (x2 : Int32) (x3 : Int32) (σ : Sg) : Option (Int32 × Sg) :=
  if (f_X7_areKnown x1 x2) = 0 then
  (some ((-1), σ))
  else
  (if (f_X7_in x3 0 1) = 0 then
  (some ((-2), σ))
  else
  (Option.bind (f_X7_lay (σ.1 132 7) (-6) σ) (fun q3 =>
  jn (if x3 = 0 then ((-1)) else (1) : Int32) (fun v7 =>
  Option.bind (if x3 = 0 then (if inb (f_X7_at x1 x2) 50 then (some (q3.2.1 142 (f_X7_at x1 x2).toNatClampNeg)) else none) else (if x1 = (4 + x2) then (some 0) else (if inb (f_X7_at 9 x2) 50 then (some (q3.2.1 142 (f_X7_at 9 x2).toNatClampNeg)) else none)) : Option Int32) (fun v14 =>
  Option.bind (L_X7_fewest_96 x1 x2 x3 (f_X7_at x1 x2) (f_X7_at 9 x2) v7 v14 FU 0 q3.2) (fun o19 => Sum.elim (fun x => some x) (fun o19 =>
  some ((-6), o19.2)) o19))))))
set_option maxRecDepth 20000 in
set_option maxHeartbeats 4000000 in
theorem w_X7_fewest {X : Ctx} (K : Cok X cX7_fewest 9 RX7) (hR : 5 ≤ X.R.frames ∧ 120 ≤ X.R.locals) {x1 : Int32} {x2 : Int32} {x3 : Int32} {σ : Sg}  {r : Int32 × Sg} (h : f_X7_fewest x1 x2 x3 σ = some r) (hr : RI X cX7_fewest 9 r) : G X 9 0 [(0, .ref (X.ad 132)), (1, .int x1), (2, .int x2), (3, .int x3)] [] σ := by
  unfold f_X7_fewest at h
  refine g_iload_n K 1 dX7_fewest_0 rfl rfl ?_
  refine g_iload_n K 2 dX7_fewest_1 rfl rfl ?_
  refine g_csi (As := [.int x1, .int x2]) (rest := []) K (m_X7_areKnown x1 x2 σ) yv_X7_areKnown ml_X7_142 rfl rfl rfl ⟨Nat.le_trans (Nat.le_of_ble_eq_true rfl) hR.1, Nat.le_trans (Nat.le_of_ble_eq_true rfl) hR.2⟩ (Nat.le_of_ble_eq_true rfl) dX7_fewest_2 ?_
  refine g_if_ne (tgt := 10) K dX7_fewest_5 (by decide) (fun c1 => ?_) (fun c1 => ?_)
  · replace h := bn c1 h
    refine g_iload_n K 3 dX7_fewest_10 rfl rfl ?_
    refine g_iconst (v := 0) K dX7_fewest_11 ic_0 ?_
    refine g_iconst (v := 1) K dX7_fewest_12 ic_1 ?_
    refine g_csi (As := [.int x3, .int 0, .int 1]) (rest := []) K (m_X7_in x3 0 1 σ) yv_X7_in ml_X7_66 rfl rfl rfl ⟨Nat.le_trans (Nat.le_of_ble_eq_true rfl) hR.1, Nat.le_trans (Nat.le_of_ble_eq_true rfl) hR.2⟩ (Nat.le_of_ble_eq_true rfl) dX7_fewest_13 ?_
    refine g_if_ne (tgt := 22) K dX7_fewest_16 (by decide) (fun c2 => ?_) (fun c2 => ?_)
    · replace h := bn c2 h
      refine g_aload_n K 0 dX7_fewest_22 rfl rfl ?_
      refine g_aload_n K 0 dX7_fewest_23 rfl rfl ?_
      refine g_get (v := .int (σ.1 132 7)) K (e_ControlRegisterModel kd_132) ltN_132 rfl 7 (by decide) rfl fw_X7_114 u_X7 dX7_fewest_24 ?_
      refine g_bipush (v := (-6)) K dX7_fewest_27 bp_m6 ?_
      obtain ⟨q3, e4, h⟩ := ob h
      refine g_cvi (As := [.int (σ.1 132 7), .int (-6)]) (rest := []) K (m_X7_lay e4) yv_X7_lay ml_X7_89 rfl rfl rfl (e_ControlRegisterModel kd_132) ltN_132 rfl rfl ⟨Nat.le_trans (Nat.le_of_ble_eq_true rfl) hR.1, Nat.le_trans (Nat.le_of_ble_eq_true rfl) hR.2⟩ (Nat.le_of_ble_eq_true rfl) dX7_fewest_29 ?_
      refine g_pop K dX7_fewest_32 rfl ?_
      refine g_iload_n K 1 dX7_fewest_33 rfl rfl ?_
      refine g_iload_n K 2 dX7_fewest_34 rfl rfl ?_
      refine g_csi (As := [.int x1, .int x2]) (rest := []) K (m_X7_at x1 x2 q3.2) yv_X7_at ml_X7_78 rfl rfl rfl ⟨Nat.le_trans (Nat.le_of_ble_eq_true rfl) hR.1, Nat.le_trans (Nat.le_of_ble_eq_true rfl) hR.2⟩ (Nat.le_of_ble_eq_true rfl) dX7_fewest_35 ?_
      refine g_istore (lv' := [(4, .int (f_X7_at x1 x2)), (0, .ref (X.ad 132)), (1, .int x1), (2, .int x2), (3, .int x3)]) K dX7_fewest_38 (by decide) rfl ?_
      refine g_bipush (v := 9) K dX7_fewest_40 bp_9 ?_
      refine g_iload_n K 3 dX7_fewest_42 rfl rfl ?_
      refine g_csi (As := [.int 9, .int x2]) (rest := []) K (m_X7_at 9 x2 q3.2) yv_X7_at ml_X7_78 rfl rfl rfl ⟨Nat.le_trans (Nat.le_of_ble_eq_true rfl) hR.1, Nat.le_trans (Nat.le_of_ble_eq_true rfl) hR.2⟩ (Nat.le_of_ble_eq_true rfl) dX7_fewest_43 ?_
      refine g_istore (lv' := [(5, .int (f_X7_at 9 x2)), (4, .int (f_X7_at x1 x2)), (0, .ref (X.ad 132)), (1, .int x1), (2, .int x2), (3, .int x3)]) K dX7_fewest_46 (by decide) rfl ?_
      refine g_iload_n K 5 dX7_fewest_48 rfl rfl ?_
      refine jn_cut h (P := (fun v7 => G X 9 57 [(5, .int (f_X7_at 9 x2)), (4, .int (f_X7_at x1 x2)), (0, .ref (X.ad 132)), (1, .int x1), (2, .int x2), (3, .int x3)] [.int v7] q3.2)) (fun v7 h => ?_) (fun tail_6 => ?_)
      · refine g_istore (lv' := [(6, .int v7), (5, .int (f_X7_at 9 x2)), (4, .int (f_X7_at x1 x2)), (0, .ref (X.ad 132)), (1, .int x1), (2, .int x2), (3, .int x3)]) K dX7_fewest_57 (by decide) rfl ?_
        refine g_iload_n K 6 dX7_fewest_59 rfl rfl ?_
        refine bd_cut h (P := (fun v14 => G X 9 91 [(6, .int v7), (5, .int (f_X7_at 9 x2)), (4, .int (f_X7_at x1 x2)), (0, .ref (X.ad 132)), (1, .int x1), (2, .int x2), (3, .int x3)] [.int v14] q3.2)) (fun v14 h => ?_) (fun tail_13 => ?_)
        · refine g_istore (lv' := [(7, .int v14), (6, .int v7), (5, .int (f_X7_at 9 x2)), (4, .int (f_X7_at x1 x2)), (0, .ref (X.ad 132)), (1, .int x1), (2, .int x2), (3, .int x3)]) K dX7_fewest_91 (by decide) rfl ?_
          refine g_iconst (v := 0) K dX7_fewest_93 ic_0 ?_
          refine g_istore (lv' := [(8, .int 0), (7, .int v14), (6, .int v7), (5, .int (f_X7_at 9 x2)), (4, .int (f_X7_at x1 x2)), (0, .ref (X.ad 132)), (1, .int x1), (2, .int x2), (3, .int x3)]) K dX7_fewest_94 (by decide) rfl ?_
          obtain ⟨o19, e20, h⟩ := ob h
          refine g_sub [5, 6, 7, 8, 4, 3, 2, 1, 0] rfl ?_
          refine l_X7_fewest_96 K hR hr _ _ _ _ e20 (fun x hx => ?_) (fun o19 hx => ?_)
          · subst hx
            exact rt2 h
          · subst hx
            dsimp only [Sum.elim_inr] at h
            refine g_bipush (v := (-6)) K dX7_fewest_158 bp_m6 ?_
            exact hr _ _ _ _ dX7_fewest_160 (rt2 h)
        · refine g_if_ne (tgt := 73) K dX7_fewest_60 (by decide) (fun c15 => ?_) (fun c15 => ?_)
          · replace h := jbn c15 h
            refine g_iload_n K 4 dX7_fewest_73 rfl rfl ?_
            refine g_iconst (v := 4) K dX7_fewest_74 ic_4 ?_
            refine g_iload_n K 5 dX7_fewest_75 rfl rfl ?_
            refine g_iadd K dX7_fewest_76 ?_
            refine g_icmp_ne (tgt := 84) K dX7_fewest_77 (by decide) (fun c16 => ?_) (fun c16 => ?_)
            · replace h := jbn c16 h
              refine g_aload_n K 3 dX7_fewest_84 rfl rfl ?_
              refine g_get (v := .ref (X.ad 142)) K (e_ControlRegisterModel kd_132) ltN_132 rfl 11 (by decide) rfl fw_X7_37 u_X7 dX7_fewest_85 ?_
              refine g_iload K 1 dX7_fewest_88 rfl ?_
              obtain ⟨g17, h⟩ := ogb h
              refine g_iald K kd_142 ltN_142 g17 dX7_fewest_90 ?_
              exact tail_13 _ h
            · replace h := jbp c16 h
              refine g_iconst (v := 0) K dX7_fewest_80 ic_0 ?_
              refine g_goto (tgt := 91) K dX7_fewest_81 (by decide) ?_
              exact tail_13 _ h
          · replace h := jbp c15 h
            refine g_aload_n K 3 dX7_fewest_63 rfl rfl ?_
            refine g_get (v := .ref (X.ad 142)) K (e_ControlRegisterModel kd_132) ltN_132 rfl 11 (by decide) rfl fw_X7_37 u_X7 dX7_fewest_64 ?_
            refine g_iload K 2 dX7_fewest_67 rfl ?_
            obtain ⟨g18, h⟩ := ogb h
            refine g_iald K kd_142 ltN_142 g18 dX7_fewest_69 ?_
            refine g_goto (tgt := 91) K dX7_fewest_70 (by decide) ?_
            exact tail_13 _ h
      · refine g_if_ne (tgt := 56) K dX7_fewest_49 (by decide) (fun c8 => ?_) (fun c8 => ?_)
        · replace h := jpn c8 h
          refine g_iconst (v := 1) K dX7_fewest_56 ic_1 ?_
          exact tail_6 _ h
        · replace h := jpp c8 h
          refine g_iconst (v := (-1)) K dX7_fewest_52 ic_m1 ?_
          refine g_goto (tgt := 57) K dX7_fewest_53 (by decide) ?_
          exact tail_6 _ h
    · replace h := bp c2 h
      refine g_bipush (v := (-2)) K dX7_fewest_19 bp_m2 ?_
      exact hr _ _ _ _ dX7_fewest_21 (rt2 h)
  · replace h := bp c1 h
    refine g_iconst (v := (-1)) K dX7_fewest_8 ic_m1 ?_
    exact hr _ _ _ _ dX7_fewest_9 (rt2 h)
theorem m_X7_fewest {x1 : Int32} {x2 : Int32} {x3 : Int32} {σ : Sg}  {r : Int32 × Sg} (h : f_X7_fewest x1 x2 x3 σ = some r) : CI yX7_fewest cX7_fewest 9 (some .int) 5 120 (fun ad => [.ref (ad 132), .int x1, .int x2, .int x3]) σ r.1 r.2 :=
  CI.of (by decide) (fun _ => Nat.le_of_ble_eq_true rfl) (fun X K hR hr => w_X7_fewest K hR h hr)
def L_X7_events_4 (x1 : Int32) (x2 : Int32) : Nat → Int32 → Sg → Option (Int32 × Sg)
  | 0, _, _ => none
  | n + 1, x3, σ =>
    if 9 ≤ x3 then
    (some (x3, σ))
    else
    (if inb x3 9 then
    (jn (setR σ 145 (upd (σ.1 145) x3.toNatClampNeg 0)) (fun σ3 =>
    L_X7_events_4 x1 x2 n (x3 + 1) σ3))
    else none)
set_option maxRecDepth 20000 in
set_option maxHeartbeats 4000000 in
theorem l_X7_events_4 {X : Ctx} (K : Cok X cX7_events 8 RX7) (hR : 5 ≤ X.R.frames ∧ 120 ≤ X.R.locals) {x1 : Int32} {x2 : Int32}  :
    ∀ (n : Nat) (x3 : Int32) (σ : Sg) (o : (Int32 × Sg)), L_X7_events_4 x1 x2 n x3 σ = some o → G X 8 23 [(0, .ref (X.ad 132)), (1, .int x1), (2, .int x2), (3, .int o.1)] [] o.2 → G X 8 4 [(0, .ref (X.ad 132)), (1, .int x1), (2, .int x2), (3, .int x3)] [] σ := by
  intro n
  induction n with
  | zero => intro x3 σ o h; exact absurd h (by unfold L_X7_events_4; intro h; cases h)
  | succ n ih =>
    intro x3 σ o h hexit
    unfold L_X7_events_4 at h
    refine g_iload_n K 3 dX7_events_4 rfl rfl ?_
    refine g_bipush (v := 9) K dX7_events_5 bp_9 ?_
    refine g_icmp_ge (tgt := 23) K dX7_events_7 (by decide) (fun c1 => ?_) (fun c1 => ?_)
    · replace h := bp c1 h
      refine g_sub [0, 1, 2, 3] rfl ?_
      obtain rfl := Option.some.inj h
      exact hexit
    · replace h := bn c1 h
      refine g_aload_n K 0 dX7_events_10 rfl rfl ?_
      refine g_get (v := .ref (X.ad 145)) K (e_ControlRegisterModel kd_132) ltN_132 rfl 15 (by decide) rfl fw_X7_47 u_X7 dX7_events_11 ?_
      refine g_iload_n K 3 dX7_events_14 rfl rfl ?_
      refine g_iconst (v := 0) K dX7_events_15 ic_0 ?_
      obtain ⟨g2, h⟩ := og h
      refine g_iast K kd_145 ltN_145 g2 dX7_events_16 (fun σ3 s4 => ?_)
      replace h := jn_at s4 h
      refine g_iinc (lv' := [(3, .int (x3 + 1)), (0, .ref (X.ad 132)), (1, .int x1), (2, .int x2)]) K 3 dX7_events_17 rfl (by rw [ic_1]) (by decide) rfl ?_
      refine g_goto (tgt := 4) K dX7_events_20 (by decide) ?_
      refine g_sub [1, 2, 3, 0] rfl ?_
      exact ih _ _ _ h hexit
def L_X7_events_72 (x1 : Int32) (x3 : Int32) (x4 : Int32) (x5 : Int32) (x6 : Int32) : Nat → Int32 → Int32 → Sg → Option (Int32 × Int32 × Sg)
  | 0, _, _, _ => none
  | n + 1, x2, x7, σ =>
    if 5 ≤ x7 then
    (some (x2, x7, σ))
    else
    (if inb x5 9 then
    (if (f_X7_has x6 x7) = (f_X7_has (σ.1 145 x5.toNatClampNeg) x7) then
    (L_X7_events_72 x1 x3 x4 x5 x6 n x2 (x7 + 1) σ)
    else
    (if x2 = x1 then
    (jn (setR σ 132 (upd (σ.1 132) 16 x3)) (fun σ5 =>
    jn (setR σ5 132 (upd (σ5.1 132) 17 x5)) (fun σ7 =>
    jn (setR σ7 132 (upd (σ7.1 132) 18 x7)) (fun σ9 =>
    jn (setR σ9 132 (upd (σ9.1 132) 19 ((x6 >>> (x7 &&& 31)) &&& 1))) (fun σ11 =>
    L_X7_events_72 x1 x3 x4 x5 x6 n (x2 + 1) (x7 + 1) σ11)))))
    else
    (L_X7_events_72 x1 x3 x4 x5 x6 n (x2 + 1) (x7 + 1) σ)))
    else none)
set_option maxRecDepth 20000 in
set_option maxHeartbeats 4000000 in
theorem l_X7_events_72 {X : Ctx} (K : Cok X cX7_events 8 RX7) (hR : 5 ≤ X.R.frames ∧ 120 ≤ X.R.locals) {x1 : Int32} {x3 : Int32} {x4 : Int32} {x5 : Int32} {x6 : Int32}  :
    ∀ (n : Nat) (x2 : Int32) (x7 : Int32) (σ : Sg) (o : (Int32 × Int32 × Sg)), L_X7_events_72 x1 x3 x4 x5 x6 n x2 x7 σ = some o → G X 8 142 [(0, .ref (X.ad 132)), (1, .int x1), (2, .int o.1), (3, .int x3), (4, .int x4), (5, .int x5), (6, .int x6), (7, .int o.2.1)] [] o.2.2 → G X 8 72 [(0, .ref (X.ad 132)), (1, .int x1), (2, .int x2), (3, .int x3), (4, .int x4), (5, .int x5), (6, .int x6), (7, .int x7)] [] σ := by
  intro n
  induction n with
  | zero => intro x2 x7 σ o h; exact absurd h (by unfold L_X7_events_72; intro h; cases h)
  | succ n ih =>
    intro x2 x7 σ o h hexit
    unfold L_X7_events_72 at h
    refine g_iload K 7 dX7_events_72 rfl ?_
    refine g_iconst (v := 5) K dX7_events_74 ic_5 ?_
    refine g_icmp_ge (tgt := 142) K dX7_events_75 (by decide) (fun c1 => ?_) (fun c1 => ?_)
    · replace h := bp c1 h
      refine g_sub [0, 1, 2, 3, 4, 5, 6, 7] rfl ?_
      obtain rfl := Option.some.inj h
      exact hexit
    · replace h := bn c1 h
      refine g_iload K 6 dX7_events_78 rfl ?_
      refine g_iload K 7 dX7_events_80 rfl ?_
      refine g_csi (As := [.int x6, .int x7]) (rest := []) K (m_X7_has x6 x7 σ) yv_X7_has ml_X7_117 rfl rfl rfl ⟨Nat.le_trans (Nat.le_of_ble_eq_true rfl) hR.1, Nat.le_trans (Nat.le_of_ble_eq_true rfl) hR.2⟩ (Nat.le_of_ble_eq_true rfl) dX7_events_82 ?_
      refine g_aload_n K 0 dX7_events_85 rfl rfl ?_
      refine g_get (v := .ref (X.ad 145)) K (e_ControlRegisterModel kd_132) ltN_132 rfl 15 (by decide) rfl fw_X7_47 u_X7 dX7_events_86 ?_
      refine g_iload K 5 dX7_events_89 rfl ?_
      obtain ⟨g2, h⟩ := og h
      refine g_iald K kd_145 ltN_145 g2 dX7_events_91 ?_
      refine g_iload K 7 dX7_events_92 rfl ?_
      refine g_csi (As := [.int (σ.1 145 x5.toNatClampNeg), .int x7]) (rest := [.int (f_X7_has x6 x7)]) K (m_X7_has (σ.1 145 x5.toNatClampNeg) x7 σ) yv_X7_has ml_X7_117 rfl rfl rfl ⟨Nat.le_trans (Nat.le_of_ble_eq_true rfl) hR.1, Nat.le_trans (Nat.le_of_ble_eq_true rfl) hR.2⟩ (Nat.le_of_ble_eq_true rfl) dX7_events_94 ?_
      refine g_icmp_eq (tgt := 136) K dX7_events_97 (by decide) (fun c3 => ?_) (fun c3 => ?_)
      · replace h := bp c3 h
        refine g_iinc (lv' := [(7, .int (x7 + 1)), (0, .ref (X.ad 132)), (1, .int x1), (2, .int x2), (3, .int x3), (4, .int x4), (5, .int x5), (6, .int x6)]) K 7 dX7_events_136 rfl (by rw [ic_1]) (by decide) rfl ?_
        refine g_goto (tgt := 72) K dX7_events_139 (by decide) ?_
        refine g_sub [1, 2, 3, 4, 5, 6, 7, 0] rfl ?_
        exact ih _ _ _ _ h hexit
      · replace h := bn c3 h
        refine g_iload_n K 2 dX7_events_100 rfl rfl ?_
        refine g_iload_n K 1 dX7_events_101 rfl rfl ?_
        refine g_icmp_ne (tgt := 133) K dX7_events_102 (by decide) (fun c4 => ?_) (fun c4 => ?_)
        · replace h := bn c4 h
          refine g_iinc (lv' := [(2, .int (x2 + 1)), (0, .ref (X.ad 132)), (1, .int x1), (3, .int x3), (4, .int x4), (5, .int x5), (6, .int x6), (7, .int x7)]) K 2 dX7_events_133 rfl (by rw [ic_1]) (by decide) rfl ?_
          refine g_iinc (lv' := [(7, .int (x7 + 1)), (2, .int (x2 + 1)), (0, .ref (X.ad 132)), (1, .int x1), (3, .int x3), (4, .int x4), (5, .int x5), (6, .int x6)]) K 7 dX7_events_136 rfl (by rw [ic_1]) (by decide) rfl ?_
          refine g_goto (tgt := 72) K dX7_events_139 (by decide) ?_
          refine g_sub [2, 3, 1, 4, 5, 6, 7, 0] rfl ?_
          exact ih _ _ _ _ h hexit
        · replace h := bp c4 h
          refine g_aload_n K 0 dX7_events_105 rfl rfl ?_
          refine g_iload_n K 3 dX7_events_106 rfl rfl ?_
          refine g_put (f' := (upd (σ.1 132) 16 x3)) K (e_ControlRegisterModel kd_132) ltN_132 rfl 16 (by decide) (e_ControlRegisterModel kd_132) tyX7 tyX7_ok nmX7 rfl (ty := .int) (by decide +kernel) rfl rfl (Nat.le_of_ble_eq_true rfl) fw_X7_151 u_X7 dX7_events_107 (fun σ5 s6 => ?_)
          replace h := jn_at s6 h
          refine g_aload_n K 0 dX7_events_110 rfl rfl ?_
          refine g_iload K 5 dX7_events_111 rfl ?_
          refine g_put (f' := (upd (σ5.1 132) 17 x5)) K (e_ControlRegisterModel kd_132) ltN_132 rfl 17 (by decide) (e_ControlRegisterModel kd_132) tyX7 tyX7_ok nmX7 rfl (ty := .int) (by decide +kernel) rfl rfl (Nat.le_of_ble_eq_true rfl) fw_X7_154 u_X7 dX7_events_113 (fun σ7 s8 => ?_)
          replace h := jn_at s8 h
          refine g_aload_n K 0 dX7_events_116 rfl rfl ?_
          refine g_iload K 7 dX7_events_117 rfl ?_
          refine g_put (f' := (upd (σ7.1 132) 18 x7)) K (e_ControlRegisterModel kd_132) ltN_132 rfl 18 (by decide) (e_ControlRegisterModel kd_132) tyX7 tyX7_ok nmX7 rfl (ty := .int) (by decide +kernel) rfl rfl (Nat.le_of_ble_eq_true rfl) fw_X7_157 u_X7 dX7_events_119 (fun σ9 s10 => ?_)
          replace h := jn_at s10 h
          refine g_aload_n K 0 dX7_events_122 rfl rfl ?_
          refine g_iload K 6 dX7_events_123 rfl ?_
          refine g_iload K 7 dX7_events_125 rfl ?_
          refine g_ishr K dX7_events_127 ?_
          refine g_iconst (v := 1) K dX7_events_128 ic_1 ?_
          refine g_iand K dX7_events_129 ?_
          refine g_put (f' := (upd (σ9.1 132) 19 ((x6 >>> (x7 &&& 31)) &&& 1))) K (e_ControlRegisterModel kd_132) ltN_132 rfl 19 (by decide) (e_ControlRegisterModel kd_132) tyX7 tyX7_ok nmX7 rfl (ty := .int) (by decide +kernel) rfl rfl (Nat.le_of_ble_eq_true rfl) fw_X7_160 u_X7 dX7_events_130 (fun σ11 s12 => ?_)
          replace h := jn_at s12 h
          refine g_iinc (lv' := [(2, .int (x2 + 1)), (0, .ref (X.ad 132)), (1, .int x1), (3, .int x3), (4, .int x4), (5, .int x5), (6, .int x6), (7, .int x7)]) K 2 dX7_events_133 rfl (by rw [ic_1]) (by decide) rfl ?_
          refine g_iinc (lv' := [(7, .int (x7 + 1)), (2, .int (x2 + 1)), (0, .ref (X.ad 132)), (1, .int x1), (3, .int x3), (4, .int x4), (5, .int x5), (6, .int x6)]) K 7 dX7_events_136 rfl (by rw [ic_1]) (by decide) rfl ?_
          refine g_goto (tgt := 72) K dX7_events_139 (by decide) ?_
          refine g_sub [2, 3, 1, 4, 5, 6, 7, 0] rfl ?_
          exact ih _ _ _ _ h hexit
def L_X7_events_54 (x1 : Int32) (x3 : Int32) (x4 : Int32) : Nat → Int32 → Int32 → Sg → Option (Int32 × Int32 × Sg)
  | 0, _, _, _ => none
  | n + 1, x2, x5, σ =>
    if 9 ≤ x5 then
    (some (x2, x5, σ))
    else
    (Option.bind (f_X7_control x5 σ) (fun q2 =>
    Option.bind (L_X7_events_72 x1 x3 x4 x5 q2.1 FU x2 0 q2.2) (fun o4 =>
    if inb x5 9 then
    (jn (setR o4.2.2 145 (upd (o4.2.2.1 145) x5.toNatClampNeg q2.1)) (fun σ7 =>
    L_X7_events_54 x1 x3 x4 n o4.1 (x5 + 1) σ7))
    else none)))
set_option maxRecDepth 20000 in
set_option maxHeartbeats 4000000 in
theorem l_X7_events_54 {X : Ctx} (K : Cok X cX7_events 8 RX7) (hR : 5 ≤ X.R.frames ∧ 120 ≤ X.R.locals) {x1 : Int32} {x3 : Int32} {x4 : Int32}  :
    ∀ (n : Nat) (x2 : Int32) (x5 : Int32) (σ : Sg) (o : (Int32 × Int32 × Sg)), L_X7_events_54 x1 x3 x4 n x2 x5 σ = some o → G X 8 157 [(0, .ref (X.ad 132)), (1, .int x1), (2, .int o.1), (3, .int x3), (4, .int x4), (5, .int o.2.1)] [] o.2.2 → G X 8 54 [(0, .ref (X.ad 132)), (1, .int x1), (2, .int x2), (3, .int x3), (4, .int x4), (5, .int x5)] [] σ := by
  intro n
  induction n with
  | zero => intro x2 x5 σ o h; exact absurd h (by unfold L_X7_events_54; intro h; cases h)
  | succ n ih =>
    intro x2 x5 σ o h hexit
    unfold L_X7_events_54 at h
    refine g_iload K 5 dX7_events_54 rfl ?_
    refine g_bipush (v := 9) K dX7_events_56 bp_9 ?_
    refine g_icmp_ge (tgt := 157) K dX7_events_58 (by decide) (fun c1 => ?_) (fun c1 => ?_)
    · replace h := bp c1 h
      refine g_sub [0, 1, 2, 3, 4, 5] rfl ?_
      obtain rfl := Option.some.inj h
      exact hexit
    · replace h := bn c1 h
      refine g_aload_n K 0 dX7_events_61 rfl rfl ?_
      refine g_iload K 5 dX7_events_62 rfl ?_
      obtain ⟨q2, e3, h⟩ := ob h
      refine g_cvi (As := [.int x5]) (rest := []) K (m_X7_control e3) yv_X7_control ml_X7_133 rfl rfl rfl (e_ControlRegisterModel kd_132) ltN_132 rfl rfl ⟨Nat.le_trans (Nat.le_of_ble_eq_true rfl) hR.1, Nat.le_trans (Nat.le_of_ble_eq_true rfl) hR.2⟩ (Nat.le_of_ble_eq_true rfl) dX7_events_64 ?_
      refine g_istore (lv' := [(6, .int q2.1), (0, .ref (X.ad 132)), (1, .int x1), (2, .int x2), (3, .int x3), (4, .int x4), (5, .int x5)]) K dX7_events_67 (by decide) rfl ?_
      refine g_iconst (v := 0) K dX7_events_69 ic_0 ?_
      refine g_istore (lv' := [(7, .int 0), (6, .int q2.1), (0, .ref (X.ad 132)), (1, .int x1), (2, .int x2), (3, .int x3), (4, .int x4), (5, .int x5)]) K dX7_events_70 (by decide) rfl ?_
      obtain ⟨o4, e5, h⟩ := ob h
      refine g_sub [2, 3, 4, 5, 6, 7, 1, 0] rfl ?_
      refine l_X7_events_72 K hR _ _ _ _ _ e5 ?_
      refine g_aload_n K 0 dX7_events_142 rfl rfl ?_
      refine g_get (v := .ref (X.ad 145)) K (e_ControlRegisterModel kd_132) ltN_132 rfl 15 (by decide) rfl fw_X7_47 u_X7 dX7_events_143 ?_
      refine g_iload K 5 dX7_events_146 rfl ?_
      refine g_iload K 6 dX7_events_148 rfl ?_
      obtain ⟨g6, h⟩ := og h
      refine g_iast K kd_145 ltN_145 g6 dX7_events_150 (fun σ7 s8 => ?_)
      replace h := jn_at s8 h
      refine g_iinc (lv' := [(5, .int (x5 + 1)), (0, .ref (X.ad 132)), (1, .int x1), (2, .int o4.1), (3, .int x3), (4, .int x4), (6, .int q2.1), (7, .int o4.2.1)]) K 5 dX7_events_151 rfl (by rw [ic_1]) (by decide) rfl ?_
      refine g_goto (tgt := 54) K dX7_events_154 (by decide) ?_
      refine g_sub [1, 2, 3, 4, 5, 0] rfl ?_
      exact ih _ _ _ _ h hexit
def L_X7_events_32 (x1 : Int32) : Nat → Int32 → Int32 → Int32 → Sg → Option (Int32 × Int32 × Int32 × Sg)
  | 0, _, _, _, _ => none
  | n + 1, x2, x3, x4, σ =>
    if 40 ≤ x4 then
    (some (x2, x3, x4, σ))
    else
    (if x3 < 0 then
    (some (x2, x3, x4, σ))
    else
    (Option.bind (f_X7_lay x3 (-6) σ) (fun q3 =>
    Option.bind (L_X7_events_54 x1 x3 x4 FU x2 0 q3.2) (fun o5 =>
    Option.bind (f_X7_dayBehind x3 o5.2.2) (fun r7 =>
    L_X7_events_32 x1 n o5.1 r7 (x4 + 1) o5.2.2)))))
set_option maxRecDepth 20000 in
set_option maxHeartbeats 4000000 in
theorem l_X7_events_32 {X : Ctx} (K : Cok X cX7_events 8 RX7) (hR : 5 ≤ X.R.frames ∧ 120 ≤ X.R.locals) {x1 : Int32}  :
    ∀ (n : Nat) (x2 : Int32) (x3 : Int32) (x4 : Int32) (σ : Sg) (o : (Int32 × Int32 × Int32 × Sg)), L_X7_events_32 x1 n x2 x3 x4 σ = some o → G X 8 169 [(0, .ref (X.ad 132)), (1, .int x1), (2, .int o.1), (3, .int o.2.1), (4, .int o.2.2.1)] [] o.2.2.2 → G X 8 32 [(0, .ref (X.ad 132)), (1, .int x1), (2, .int x2), (3, .int x3), (4, .int x4)] [] σ := by
  intro n
  induction n with
  | zero => intro x2 x3 x4 σ o h; exact absurd h (by unfold L_X7_events_32; intro h; cases h)
  | succ n ih =>
    intro x2 x3 x4 σ o h hexit
    unfold L_X7_events_32 at h
    refine g_iload K 4 dX7_events_32 rfl ?_
    refine g_bipush (v := 40) K dX7_events_34 bp_40 ?_
    refine g_icmp_ge (tgt := 169) K dX7_events_36 (by decide) (fun c1 => ?_) (fun c1 => ?_)
    · replace h := bp c1 h
      refine g_sub [0, 1, 2, 3, 4] rfl ?_
      obtain rfl := Option.some.inj h
      exact hexit
    · replace h := bn c1 h
      refine g_iload_n K 3 dX7_events_39 rfl rfl ?_
      refine g_if_lt (tgt := 169) K dX7_events_40 (by decide) (fun c2 => ?_) (fun c2 => ?_)
      · replace h := bp c2 h
        refine g_sub [0, 1, 2, 3, 4] rfl ?_
        obtain rfl := Option.some.inj h
        exact hexit
      · replace h := bn c2 h
        refine g_aload_n K 0 dX7_events_43 rfl rfl ?_
        refine g_iload_n K 3 dX7_events_44 rfl rfl ?_
        refine g_bipush (v := (-6)) K dX7_events_45 bp_m6 ?_
        obtain ⟨q3, e4, h⟩ := ob h
        refine g_cvi (As := [.int x3, .int (-6)]) (rest := []) K (m_X7_lay e4) yv_X7_lay ml_X7_89 rfl rfl rfl (e_ControlRegisterModel kd_132) ltN_132 rfl rfl ⟨Nat.le_trans (Nat.le_of_ble_eq_true rfl) hR.1, Nat.le_trans (Nat.le_of_ble_eq_true rfl) hR.2⟩ (Nat.le_of_ble_eq_true rfl) dX7_events_47 ?_
        refine g_pop K dX7_events_50 rfl ?_
        refine g_iconst (v := 0) K dX7_events_51 ic_0 ?_
        refine g_istore (lv' := [(5, .int 0), (0, .ref (X.ad 132)), (1, .int x1), (2, .int x2), (3, .int x3), (4, .int x4)]) K dX7_events_52 (by decide) rfl ?_
        obtain ⟨o5, e6, h⟩ := ob h
        refine g_sub [1, 2, 3, 4, 5, 0] rfl ?_
        refine l_X7_events_54 K hR _ _ _ _ _ e6 ?_
        refine g_aload_n K 0 dX7_events_157 rfl rfl ?_
        refine g_iload_n K 3 dX7_events_158 rfl rfl ?_
        obtain ⟨r7, e8, h⟩ := ob h
        refine g_cvi (As := [.int x3]) (rest := []) K (m_X7_dayBehind e8) yv_X7_dayBehind ml_X7_148 rfl rfl rfl (e_ControlRegisterModel kd_132) ltN_132 rfl rfl ⟨Nat.le_trans (Nat.le_of_ble_eq_true rfl) hR.1, Nat.le_trans (Nat.le_of_ble_eq_true rfl) hR.2⟩ (Nat.le_of_ble_eq_true rfl) dX7_events_159 ?_
        refine g_istore_n (lv' := [(3, .int r7), (0, .ref (X.ad 132)), (1, .int x1), (2, .int o5.1), (4, .int x4), (5, .int o5.2.1)]) K dX7_events_162 rfl (by decide) rfl ?_
        refine g_iinc (lv' := [(4, .int (x4 + 1)), (3, .int r7), (0, .ref (X.ad 132)), (1, .int x1), (2, .int o5.1), (5, .int o5.2.1)]) K 4 dX7_events_163 rfl (by rw [ic_1]) (by decide) rfl ?_
        refine g_goto (tgt := 32) K dX7_events_166 (by decide) ?_
        refine g_sub [2, 3, 4, 1, 0] rfl ?_
        exact ih _ _ _ _ _ h hexit
def f_X7_events (x1 : Int32) (σ : Sg) : Option (Int32 × Sg) :=
  Option.bind (L_X7_events_4 x1 0 FU 0 σ) (fun o1 =>
  Option.bind (f_X7_dayBehind (-1) o1.2) (fun r3 =>
  Option.bind (L_X7_events_32 x1 FU 0 r3 0 o1.2) (fun o5 =>
  some (o5.1, o5.2.2.2))))
set_option maxRecDepth 20000 in
set_option maxHeartbeats 4000000 in
theorem w_X7_events {X : Ctx} (K : Cok X cX7_events 8 RX7) (hR : 5 ≤ X.R.frames ∧ 120 ≤ X.R.locals) {x1 : Int32} {σ : Sg}  {r : Int32 × Sg} (h : f_X7_events x1 σ = some r) (hr : RI X cX7_events 8 r) : G X 8 0 [(0, .ref (X.ad 132)), (1, .int x1)] [] σ := by
  unfold f_X7_events at h
  refine g_iconst (v := 0) K dX7_events_0 ic_0 ?_
  refine g_istore_n (lv' := [(2, .int 0), (0, .ref (X.ad 132)), (1, .int x1)]) K dX7_events_1 rfl (by decide) rfl ?_
  refine g_iconst (v := 0) K dX7_events_2 ic_0 ?_
  refine g_istore_n (lv' := [(3, .int 0), (2, .int 0), (0, .ref (X.ad 132)), (1, .int x1)]) K dX7_events_3 rfl (by decide) rfl ?_
  obtain ⟨o1, e2, h⟩ := ob h
  refine g_sub [2, 3, 1, 0] rfl ?_
  refine l_X7_events_4 K hR _ _ _ _ e2 ?_
  refine g_aload_n K 0 dX7_events_23 rfl rfl ?_
  refine g_iconst (v := (-1)) K dX7_events_24 ic_m1 ?_
  obtain ⟨r3, e4, h⟩ := ob h
  refine g_cvi (As := [.int (-1)]) (rest := []) K (m_X7_dayBehind e4) yv_X7_dayBehind ml_X7_148 rfl rfl rfl (e_ControlRegisterModel kd_132) ltN_132 rfl rfl ⟨Nat.le_trans (Nat.le_of_ble_eq_true rfl) hR.1, Nat.le_trans (Nat.le_of_ble_eq_true rfl) hR.2⟩ (Nat.le_of_ble_eq_true rfl) dX7_events_25 ?_
  refine g_istore_n (lv' := [(3, .int r3), (0, .ref (X.ad 132)), (1, .int x1), (2, .int 0)]) K dX7_events_28 rfl (by decide) rfl ?_
  refine g_iconst (v := 0) K dX7_events_29 ic_0 ?_
  refine g_istore (lv' := [(4, .int 0), (3, .int r3), (0, .ref (X.ad 132)), (1, .int x1), (2, .int 0)]) K dX7_events_30 (by decide) rfl ?_
  obtain ⟨o5, e6, h⟩ := ob h
  refine g_sub [2, 3, 4, 1, 0] rfl ?_
  refine l_X7_events_32 K hR _ _ _ _ _ _ e6 ?_
  refine g_iload_n K 2 dX7_events_169 rfl rfl ?_
  exact hr _ _ _ _ dX7_events_170 (rt2 h)
theorem m_X7_events {x1 : Int32} {σ : Sg}  {r : Int32 × Sg} (h : f_X7_events x1 σ = some r) : CI yX7_events cX7_events 8 (some .int) 5 120 (fun ad => [.ref (ad 132), .int x1]) σ r.1 r.2 :=
  CI.of (by decide) (fun _ => Nat.le_of_ble_eq_true rfl) (fun X K hR hr => w_X7_events K hR h hr)
def f_X7_event (x1 : Int32) (x2 : Int32) (σ : Sg) : Option (Int32 × Sg) :=
  if (f_X7_in x2 0 3) = 0 then
  (some ((-2), σ))
  else
  (if x1 < 0 then
  (some ((-6), σ))
  else
  (Option.bind (f_X7_events x1 σ) (fun q3 =>
  if x1 < q3.1 then
  (if x2 = 0 then
  (some ((q3.2.1 132 16), q3.2))
  else
  (if x2 = 1 then
  (some ((q3.2.1 132 17), q3.2))
  else
  (if x2 = 2 then
  (some ((q3.2.1 132 18), q3.2))
  else
  (some ((q3.2.1 132 19), q3.2)))))
  else
  (some ((-6), q3.2)))))
set_option maxRecDepth 20000 in
set_option maxHeartbeats 4000000 in
theorem w_X7_event {X : Ctx} (K : Cok X cX7_event 3 RX7) (hR : 6 ≤ X.R.frames ∧ 147 ≤ X.R.locals) {x1 : Int32} {x2 : Int32} {σ : Sg}  {r : Int32 × Sg} (h : f_X7_event x1 x2 σ = some r) (hr : RI X cX7_event 3 r) : G X 3 0 [(0, .ref (X.ad 132)), (1, .int x1), (2, .int x2)] [] σ := by
  unfold f_X7_event at h
  refine g_iload_n K 2 dX7_event_0 rfl rfl ?_
  refine g_iconst (v := 0) K dX7_event_1 ic_0 ?_
  refine g_iconst (v := 3) K dX7_event_2 ic_3 ?_
  refine g_csi (As := [.int x2, .int 0, .int 3]) (rest := []) K (m_X7_in x2 0 3 σ) yv_X7_in ml_X7_66 rfl rfl rfl ⟨Nat.le_trans (Nat.le_of_ble_eq_true rfl) hR.1, Nat.le_trans (Nat.le_of_ble_eq_true rfl) hR.2⟩ (Nat.le_of_ble_eq_true rfl) dX7_event_3 ?_
  refine g_if_ne (tgt := 12) K dX7_event_6 (by decide) (fun c1 => ?_) (fun c1 => ?_)
  · replace h := bn c1 h
    refine g_iload_n K 1 dX7_event_12 rfl rfl ?_
    refine g_if_lt (tgt := 25) K dX7_event_13 (by decide) (fun c2 => ?_) (fun c2 => ?_)
    · replace h := bp c2 h
      refine g_bipush (v := (-6)) K dX7_event_25 bp_m6 ?_
      exact hr _ _ _ _ dX7_event_27 (rt2 h)
    · replace h := bn c2 h
      refine g_iload_n K 1 dX7_event_16 rfl rfl ?_
      refine g_aload_n K 0 dX7_event_17 rfl rfl ?_
      refine g_iload_n K 1 dX7_event_18 rfl rfl ?_
      obtain ⟨q3, e4, h⟩ := ob h
      refine g_cvi (As := [.int x1]) (rest := [.int x1]) K (m_X7_events e4) yv_X7_events ml_X7_163 rfl rfl rfl (e_ControlRegisterModel kd_132) ltN_132 rfl rfl ⟨Nat.le_trans (Nat.le_of_ble_eq_true rfl) hR.1, Nat.le_trans (Nat.le_of_ble_eq_true rfl) hR.2⟩ (Nat.le_of_ble_eq_true rfl) dX7_event_19 ?_
      refine g_icmp_lt (tgt := 28) K dX7_event_22 (by decide) (fun c5 => ?_) (fun c5 => ?_)
      · replace h := bp c5 h
        refine g_iload_n K 2 dX7_event_28 rfl rfl ?_
        refine g_if_ne (tgt := 39) K dX7_event_29 (by decide) (fun c6 => ?_) (fun c6 => ?_)
        · replace h := bn c6 h
          refine g_iload_n K 2 dX7_event_39 rfl rfl ?_
          refine g_iconst (v := 1) K dX7_event_40 ic_1 ?_
          refine g_icmp_ne (tgt := 51) K dX7_event_41 (by decide) (fun c7 => ?_) (fun c7 => ?_)
          · replace h := bn c7 h
            refine g_iload_n K 2 dX7_event_51 rfl rfl ?_
            refine g_iconst (v := 2) K dX7_event_52 ic_2 ?_
            refine g_icmp_ne (tgt := 63) K dX7_event_53 (by decide) (fun c8 => ?_) (fun c8 => ?_)
            · replace h := bn c8 h
              refine g_aload_n K 0 dX7_event_63 rfl rfl ?_
              refine g_get (v := .int (q3.2.1 132 19)) K (e_ControlRegisterModel kd_132) ltN_132 rfl 19 (by decide) rfl fw_X7_160 u_X7 dX7_event_64 ?_
              exact hr _ _ _ _ dX7_event_67 (rt2 h)
            · replace h := bp c8 h
              refine g_aload_n K 0 dX7_event_56 rfl rfl ?_
              refine g_get (v := .int (q3.2.1 132 18)) K (e_ControlRegisterModel kd_132) ltN_132 rfl 18 (by decide) rfl fw_X7_157 u_X7 dX7_event_57 ?_
              refine g_goto (tgt := 67) K dX7_event_60 (by decide) ?_
              exact hr _ _ _ _ dX7_event_67 (rt2 h)
          · replace h := bp c7 h
            refine g_aload_n K 0 dX7_event_44 rfl rfl ?_
            refine g_get (v := .int (q3.2.1 132 17)) K (e_ControlRegisterModel kd_132) ltN_132 rfl 17 (by decide) rfl fw_X7_154 u_X7 dX7_event_45 ?_
            refine g_goto (tgt := 67) K dX7_event_48 (by decide) ?_
            exact hr _ _ _ _ dX7_event_67 (rt2 h)
        · replace h := bp c6 h
          refine g_aload_n K 0 dX7_event_32 rfl rfl ?_
          refine g_get (v := .int (q3.2.1 132 16)) K (e_ControlRegisterModel kd_132) ltN_132 rfl 16 (by decide) rfl fw_X7_151 u_X7 dX7_event_33 ?_
          refine g_goto (tgt := 67) K dX7_event_36 (by decide) ?_
          exact hr _ _ _ _ dX7_event_67 (rt2 h)
      · replace h := bn c5 h
        refine g_bipush (v := (-6)) K dX7_event_25 bp_m6 ?_
        exact hr _ _ _ _ dX7_event_27 (rt2 h)
  · replace h := bp c1 h
    refine g_bipush (v := (-2)) K dX7_event_9 bp_m2 ?_
    exact hr _ _ _ _ dX7_event_11 (rt2 h)
theorem m_X7_event {x1 : Int32} {x2 : Int32} {σ : Sg}  {r : Int32 × Sg} (h : f_X7_event x1 x2 σ = some r) : CI yX7_event cX7_event 3 (some .int) 6 147 (fun ad => [.ref (ad 132), .int x1, .int x2]) σ r.1 r.2 :=
  CI.of (by decide) (fun _ => Nat.le_of_ble_eq_true rfl) (fun X K hR hr => w_X7_event K hR h hr)
def L_X7_locked_27 (x1 : Int32) (x2 : Int32) (x3 : Int32) (x4 : Int32) (σ : Sg) : Nat → Int32 → Int32 → Option (Int32 × Int32)
  | 0, _, _ => none
  | n + 1, x5, x6 =>
    if 5 ≤ x6 then
    (some (x5, x6))
    else
    (Option.bind (if (f_X7_has x2 x6) = 0 then (some 0) else (if inb (f_X7_at (4 + x6) x4) 50 then (some (σ.1 141 (f_X7_at (4 + x6) x4).toNatClampNeg)) else none) : Option Int32) (fun v5 =>
    L_X7_locked_27 x1 x2 x3 x4 σ n (x5 + v5) (x6 + 1)))
set_option maxRecDepth 20000 in
set_option maxHeartbeats 4000000 in
theorem l_X7_locked_27 {X : Ctx} (K : Cok X cX7_locked 7 RX7) (hR : 1 ≤ X.R.frames ∧ 21 ≤ X.R.locals) {x1 : Int32} {x2 : Int32} {x3 : Int32} {x4 : Int32} {σ : Sg}  :
    ∀ (n : Nat) (x5 : Int32) (x6 : Int32) (o : (Int32 × Int32)), L_X7_locked_27 x1 x2 x3 x4 σ n x5 x6 = some o → G X 7 71 [(0, .ref (X.ad 132)), (1, .int x1), (2, .int x2), (3, .int x3), (4, .int x4), (5, .int o.1), (6, .int o.2)] [] σ → G X 7 27 [(0, .ref (X.ad 132)), (1, .int x1), (2, .int x2), (3, .int x3), (4, .int x4), (5, .int x5), (6, .int x6)] [] σ := by
  intro n
  induction n with
  | zero => intro x5 x6 o h; exact absurd h (by unfold L_X7_locked_27; intro h; cases h)
  | succ n ih =>
    intro x5 x6 o h hexit
    unfold L_X7_locked_27 at h
    refine g_iload K 6 dX7_locked_27 rfl ?_
    refine g_iconst (v := 5) K dX7_locked_29 ic_5 ?_
    refine g_icmp_ge (tgt := 71) K dX7_locked_30 (by decide) (fun c1 => ?_) (fun c1 => ?_)
    · replace h := bp c1 h
      refine g_sub [0, 1, 2, 3, 4, 5, 6] rfl ?_
      obtain rfl := Option.some.inj h
      exact hexit
    · replace h := bn c1 h
      refine g_iload K 5 dX7_locked_33 rfl ?_
      refine g_iload_n K 2 dX7_locked_35 rfl rfl ?_
      refine g_iload K 6 dX7_locked_36 rfl ?_
      refine g_csi (As := [.int x2, .int x6]) (rest := [.int x5]) K (m_X7_has x2 x6 σ) yv_X7_has ml_X7_117 rfl rfl rfl ⟨Nat.le_trans (Nat.le_of_ble_eq_true rfl) hR.1, Nat.le_trans (Nat.le_of_ble_eq_true rfl) hR.2⟩ (Nat.le_of_ble_eq_true rfl) dX7_locked_38 ?_
      refine bd_cut h (P := (fun v5 => G X 7 62 [(0, .ref (X.ad 132)), (1, .int x1), (2, .int x2), (3, .int x3), (4, .int x4), (5, .int x5), (6, .int x6)] [.int v5, .int x5] σ)) (fun v5 h => ?_) (fun tail_4 => ?_)
      · refine g_iadd K dX7_locked_62 ?_
        refine g_istore (lv' := [(5, .int (x5 + v5)), (0, .ref (X.ad 132)), (1, .int x1), (2, .int x2), (3, .int x3), (4, .int x4), (6, .int x6)]) K dX7_locked_63 (by decide) rfl ?_
        refine g_iinc (lv' := [(6, .int (x6 + 1)), (5, .int (x5 + v5)), (0, .ref (X.ad 132)), (1, .int x1), (2, .int x2), (3, .int x3), (4, .int x4)]) K 6 dX7_locked_65 rfl (by rw [ic_1]) (by decide) rfl ?_
        refine g_goto (tgt := 27) K dX7_locked_68 (by decide) ?_
        refine g_sub [2, 3, 4, 5, 6, 1, 0] rfl ?_
        exact ih _ _ _ h hexit
      · refine g_if_eq (tgt := 61) K dX7_locked_41 (by decide) (fun c6 => ?_) (fun c6 => ?_)
        · replace h := jbp c6 h
          refine g_iconst (v := 0) K dX7_locked_61 ic_0 ?_
          exact tail_4 _ h
        · replace h := jbn c6 h
          refine g_aload_n K 0 dX7_locked_44 rfl rfl ?_
          refine g_get (v := .ref (X.ad 141)) K (e_ControlRegisterModel kd_132) ltN_132 rfl 10 (by decide) rfl fw_X7_34 u_X7 dX7_locked_45 ?_
          refine g_iconst (v := 4) K dX7_locked_48 ic_4 ?_
          refine g_iload K 6 dX7_locked_49 rfl ?_
          refine g_iadd K dX7_locked_51 ?_
          refine g_iload K 4 dX7_locked_52 rfl ?_
          refine g_csi (As := [.int (4 + x6), .int x4]) (rest := [.ref (X.ad 141), .int x5]) K (m_X7_at (4 + x6) x4 σ) yv_X7_at ml_X7_78 rfl rfl rfl ⟨Nat.le_trans (Nat.le_of_ble_eq_true rfl) hR.1, Nat.le_trans (Nat.le_of_ble_eq_true rfl) hR.2⟩ (Nat.le_of_ble_eq_true rfl) dX7_locked_54 ?_
          obtain ⟨g7, h⟩ := ogb h
          refine g_iald K kd_141 ltN_141 g7 dX7_locked_57 ?_
          refine g_goto (tgt := 62) K dX7_locked_58 (by decide) ?_
          exact tail_4 _ h
def L_X7_locked_15 (x1 : Int32) (x2 : Int32) (σ : Sg) : Nat → Int32 → Int32 → Option (Int32 × Int32)
  | 0, _, _ => none
  | n + 1, x3, x4 =>
    if 5 ≤ x4 then
    (some (x3, x4))
    else
    (Option.bind (L_X7_locked_27 x1 x2 x3 x4 σ FU 0 0) (fun o2 =>
    jn (if x3 = 0 then (0) else (if (f_X7_has x2 x4) = 0 then (1) else (if o2.1 = 100 then (1) else (0))) : Int32) (fun v8 =>
    L_X7_locked_15 x1 x2 σ n v8 (x4 + 1))))
set_option maxRecDepth 20000 in
set_option maxHeartbeats 4000000 in
theorem l_X7_locked_15 {X : Ctx} (K : Cok X cX7_locked 7 RX7) (hR : 1 ≤ X.R.frames ∧ 21 ≤ X.R.locals) {x1 : Int32} {x2 : Int32} {σ : Sg}  :
    ∀ (n : Nat) (x3 : Int32) (x4 : Int32) (o : (Int32 × Int32)), L_X7_locked_15 x1 x2 σ n x3 x4 = some o → G X 7 103 [(0, .ref (X.ad 132)), (1, .int x1), (2, .int x2), (3, .int o.1), (4, .int o.2)] [] σ → G X 7 15 [(0, .ref (X.ad 132)), (1, .int x1), (2, .int x2), (3, .int x3), (4, .int x4)] [] σ := by
  intro n
  induction n with
  | zero => intro x3 x4 o h; exact absurd h (by unfold L_X7_locked_15; intro h; cases h)
  | succ n ih =>
    intro x3 x4 o h hexit
    unfold L_X7_locked_15 at h
    refine g_iload K 4 dX7_locked_15 rfl ?_
    refine g_iconst (v := 5) K dX7_locked_17 ic_5 ?_
    refine g_icmp_ge (tgt := 103) K dX7_locked_18 (by decide) (fun c1 => ?_) (fun c1 => ?_)
    · replace h := bp c1 h
      refine g_sub [0, 1, 2, 3, 4] rfl ?_
      obtain rfl := Option.some.inj h
      exact hexit
    · replace h := bn c1 h
      refine g_iconst (v := 0) K dX7_locked_21 ic_0 ?_
      refine g_istore (lv' := [(5, .int 0), (0, .ref (X.ad 132)), (1, .int x1), (2, .int x2), (3, .int x3), (4, .int x4)]) K dX7_locked_22 (by decide) rfl ?_
      refine g_iconst (v := 0) K dX7_locked_24 ic_0 ?_
      refine g_istore (lv' := [(6, .int 0), (5, .int 0), (0, .ref (X.ad 132)), (1, .int x1), (2, .int x2), (3, .int x3), (4, .int x4)]) K dX7_locked_25 (by decide) rfl ?_
      obtain ⟨o2, e3, h⟩ := ob h
      refine g_sub [2, 3, 4, 5, 6, 1, 0] rfl ?_
      refine l_X7_locked_27 K hR _ _ _ _ e3 ?_
      refine g_iload_n K 3 dX7_locked_71 rfl rfl ?_
      refine jn_cut h (P := (fun v8 => G X 7 96 [(0, .ref (X.ad 132)), (1, .int x1), (2, .int x2), (3, .int x3), (4, .int x4), (5, .int o2.1), (6, .int o2.2)] [.int v8] σ)) (fun v8 h => ?_) (fun tail_7 => ?_)
      · refine g_istore_n (lv' := [(3, .int v8), (0, .ref (X.ad 132)), (1, .int x1), (2, .int x2), (4, .int x4), (5, .int o2.1), (6, .int o2.2)]) K dX7_locked_96 rfl (by decide) rfl ?_
        refine g_iinc (lv' := [(4, .int (x4 + 1)), (3, .int v8), (0, .ref (X.ad 132)), (1, .int x1), (2, .int x2), (5, .int o2.1), (6, .int o2.2)]) K 4 dX7_locked_97 rfl (by rw [ic_1]) (by decide) rfl ?_
        refine g_goto (tgt := 15) K dX7_locked_100 (by decide) ?_
        refine g_sub [2, 3, 4, 1, 0] rfl ?_
        exact ih _ _ _ h hexit
      · refine g_if_eq (tgt := 95) K dX7_locked_72 (by decide) (fun c9 => ?_) (fun c9 => ?_)
        · replace h := jpp c9 h
          refine g_iconst (v := 0) K dX7_locked_95 ic_0 ?_
          exact tail_7 _ h
        · replace h := jpn c9 h
          refine g_iload_n K 2 dX7_locked_75 rfl rfl ?_
          refine g_iload K 4 dX7_locked_76 rfl ?_
          refine g_csi (As := [.int x2, .int x4]) (rest := []) K (m_X7_has x2 x4 σ) yv_X7_has ml_X7_117 rfl rfl rfl ⟨Nat.le_trans (Nat.le_of_ble_eq_true rfl) hR.1, Nat.le_trans (Nat.le_of_ble_eq_true rfl) hR.2⟩ (Nat.le_of_ble_eq_true rfl) dX7_locked_78 ?_
          refine g_if_eq (tgt := 91) K dX7_locked_81 (by decide) (fun c10 => ?_) (fun c10 => ?_)
          · replace h := jpp c10 h
            refine g_iconst (v := 1) K dX7_locked_91 ic_1 ?_
            refine g_goto (tgt := 96) K dX7_locked_92 (by decide) ?_
            exact tail_7 _ h
          · replace h := jpn c10 h
            refine g_iload K 5 dX7_locked_84 rfl ?_
            refine g_bipush (v := 100) K dX7_locked_86 bp_100 ?_
            refine g_icmp_ne (tgt := 95) K dX7_locked_88 (by decide) (fun c11 => ?_) (fun c11 => ?_)
            · replace h := jpn c11 h
              refine g_iconst (v := 0) K dX7_locked_95 ic_0 ?_
              exact tail_7 _ h
            · replace h := jpp c11 h
              refine g_iconst (v := 1) K dX7_locked_91 ic_1 ?_
              refine g_goto (tgt := 96) K dX7_locked_92 (by decide) ?_
              exact tail_7 _ h
def L_X7_locked_4 (σ : Sg) : Nat → Int32 → Int32 → Option (Int32 × Int32)
  | 0, _, _ => none
  | n + 1, x1, x2 =>
    if 32 ≤ x2 then
    (some (x1, x2))
    else
    (Option.bind (L_X7_locked_15 x1 x2 σ FU 1 0) (fun o2 =>
    jn (if o2.1 = 0 then (0) else (x2) : Int32) (fun v6 =>
    L_X7_locked_4 σ n (x1 ||| v6) (x2 + 1))))
set_option maxRecDepth 20000 in
set_option maxHeartbeats 4000000 in
theorem l_X7_locked_4 {X : Ctx} (K : Cok X cX7_locked 7 RX7) (hR : 1 ≤ X.R.frames ∧ 21 ≤ X.R.locals) {σ : Sg}  :
    ∀ (n : Nat) (x1 : Int32) (x2 : Int32) (o : (Int32 × Int32)), L_X7_locked_4 σ n x1 x2 = some o → G X 7 121 [(0, .ref (X.ad 132)), (1, .int o.1), (2, .int o.2)] [] σ → G X 7 4 [(0, .ref (X.ad 132)), (1, .int x1), (2, .int x2)] [] σ := by
  intro n
  induction n with
  | zero => intro x1 x2 o h; exact absurd h (by unfold L_X7_locked_4; intro h; cases h)
  | succ n ih =>
    intro x1 x2 o h hexit
    unfold L_X7_locked_4 at h
    refine g_iload_n K 2 dX7_locked_4 rfl rfl ?_
    refine g_bipush (v := 32) K dX7_locked_5 bp_32 ?_
    refine g_icmp_ge (tgt := 121) K dX7_locked_7 (by decide) (fun c1 => ?_) (fun c1 => ?_)
    · replace h := bp c1 h
      refine g_sub [0, 1, 2] rfl ?_
      obtain rfl := Option.some.inj h
      exact hexit
    · replace h := bn c1 h
      refine g_iconst (v := 1) K dX7_locked_10 ic_1 ?_
      refine g_istore_n (lv' := [(3, .int 1), (0, .ref (X.ad 132)), (1, .int x1), (2, .int x2)]) K dX7_locked_11 rfl (by decide) rfl ?_
      refine g_iconst (v := 0) K dX7_locked_12 ic_0 ?_
      refine g_istore (lv' := [(4, .int 0), (3, .int 1), (0, .ref (X.ad 132)), (1, .int x1), (2, .int x2)]) K dX7_locked_13 (by decide) rfl ?_
      obtain ⟨o2, e3, h⟩ := ob h
      refine g_sub [2, 3, 4, 1, 0] rfl ?_
      refine l_X7_locked_15 K hR _ _ _ _ e3 ?_
      refine g_iload_n K 1 dX7_locked_103 rfl rfl ?_
      refine g_iload_n K 3 dX7_locked_104 rfl rfl ?_
      refine jn_cut h (P := (fun v6 => G X 7 113 [(0, .ref (X.ad 132)), (1, .int x1), (2, .int x2), (3, .int o2.1), (4, .int o2.2)] [.int v6, .int x1] σ)) (fun v6 h => ?_) (fun tail_5 => ?_)
      · refine g_ior K dX7_locked_113 ?_
        refine g_istore_n (lv' := [(1, .int (x1 ||| v6)), (0, .ref (X.ad 132)), (2, .int x2), (3, .int o2.1), (4, .int o2.2)]) K dX7_locked_114 rfl (by decide) rfl ?_
        refine g_iinc (lv' := [(2, .int (x2 + 1)), (1, .int (x1 ||| v6)), (0, .ref (X.ad 132)), (3, .int o2.1), (4, .int o2.2)]) K 2 dX7_locked_115 rfl (by rw [ic_1]) (by decide) rfl ?_
        refine g_goto (tgt := 4) K dX7_locked_118 (by decide) ?_
        refine g_sub [2, 1, 0] rfl ?_
        exact ih _ _ _ h hexit
      · refine g_if_eq (tgt := 112) K dX7_locked_105 (by decide) (fun c7 => ?_) (fun c7 => ?_)
        · replace h := jpp c7 h
          refine g_iconst (v := 0) K dX7_locked_112 ic_0 ?_
          exact tail_5 _ h
        · replace h := jpn c7 h
          refine g_iload_n K 2 dX7_locked_108 rfl rfl ?_
          refine g_goto (tgt := 113) K dX7_locked_109 (by decide) ?_
          exact tail_5 _ h
def f_X7_locked  (σ : Sg) : Option Int32 :=
  Option.bind (L_X7_locked_4 σ FU 0 1) (fun o1 =>
  some o1.1)
set_option maxRecDepth 20000 in
set_option maxHeartbeats 4000000 in
theorem w_X7_locked {X : Ctx} (K : Cok X cX7_locked 7 RX7) (hR : 1 ≤ X.R.frames ∧ 21 ≤ X.R.locals)  {σ : Sg}  {r : Int32} (h : f_X7_locked σ = some r) (hr : RI X cX7_locked 7 (r, σ)) : G X 7 0 [(0, .ref (X.ad 132))] [] σ := by
  unfold f_X7_locked at h
  refine g_iconst (v := 0) K dX7_locked_0 ic_0 ?_
  refine g_istore_n (lv' := [(1, .int 0), (0, .ref (X.ad 132))]) K dX7_locked_1 rfl (by decide) rfl ?_
  refine g_iconst (v := 1) K dX7_locked_2 ic_1 ?_
  refine g_istore_n (lv' := [(2, .int 1), (1, .int 0), (0, .ref (X.ad 132))]) K dX7_locked_3 rfl (by decide) rfl ?_
  obtain ⟨o1, e2, h⟩ := ob h
  refine g_sub [2, 1, 0] rfl ?_
  refine l_X7_locked_4 K hR _ _ _ _ e2 ?_
  refine g_iload_n K 1 dX7_locked_121 rfl rfl ?_
  exact hr _ _ _ _ dX7_locked_122 (rt1 h)
theorem m_X7_locked  {σ : Sg}  {r : Int32} (h : f_X7_locked σ = some r) : CI yX7_locked cX7_locked 7 (some .int) 1 21 (fun ad => [.ref (ad 132)]) σ r σ :=
  CI.of (by decide) (fun _ => Nat.le_of_ble_eq_true rfl) (fun X K hR hr => w_X7_locked K hR h hr)
def L_X7_layRows_14 (x1 : Int32) (x2 : Int32) : Nat → Int32 → Sg → Option (Int32 × Sg)
  | 0, _, _ => none
  | n + 1, x3, σ =>
    if 5 ≤ x3 then
    (some (x3, σ))
    else
    (Option.bind (if x2 = x3 then (some 100) else (if (f_X7_has x1 x2) = 0 then (if inb (f_X7_at (4 + x3) x2) 50 then (some (Int32.toInt64 (-(σ.1 141 (f_X7_at (4 + x3) x2).toNatClampNeg)))) else none) else (some 0)) : Option Int64) (fun v6 =>
    if inb ((5 * x2) + x3) 25 then
    (jn (setL σ 146 (vp_updL (σ.2 146) ((5 * x2) + x3).toNatClampNeg v6)) (fun σ11 =>
    L_X7_layRows_14 x1 x2 n (x3 + 1) σ11))
    else none))
set_option maxRecDepth 20000 in
set_option maxHeartbeats 4000000 in
theorem l_X7_layRows_14 {X : Ctx} (K : Cok X cX7_layRows 4 RX7) (hR : 2 ≤ X.R.frames ∧ 47 ≤ X.R.locals) {x1 : Int32} {x2 : Int32}  :
    ∀ (n : Nat) (x3 : Int32) (σ : Sg) (o : (Int32 × Sg)), L_X7_layRows_14 x1 x2 n x3 σ = some o → G X 4 72 [(0, .ref (X.ad 132)), (1, .int x1), (2, .int x2), (3, .int o.1)] [] o.2 → G X 4 14 [(0, .ref (X.ad 132)), (1, .int x1), (2, .int x2), (3, .int x3)] [] σ := by
  intro n
  induction n with
  | zero => intro x3 σ o h; exact absurd h (by unfold L_X7_layRows_14; intro h; cases h)
  | succ n ih =>
    intro x3 σ o h hexit
    unfold L_X7_layRows_14 at h
    refine g_iload_n K 3 dX7_layRows_14 rfl rfl ?_
    refine g_iconst (v := 5) K dX7_layRows_15 ic_5 ?_
    refine g_icmp_ge (tgt := 72) K dX7_layRows_16 (by decide) (fun c1 => ?_) (fun c1 => ?_)
    · replace h := bp c1 h
      refine g_sub [0, 1, 2, 3] rfl ?_
      obtain rfl := Option.some.inj h
      exact hexit
    · replace h := bn c1 h
      refine g_aload_n K 0 dX7_layRows_19 rfl rfl ?_
      refine g_get (v := .ref (X.ad 146)) K (e_ControlRegisterModel kd_132) ltN_132 rfl 20 (by decide) rfl fw_X7_50 u_X7 dX7_layRows_20 ?_
      refine g_iconst (v := 5) K dX7_layRows_23 ic_5 ?_
      refine g_iload_n K 2 dX7_layRows_24 rfl rfl ?_
      refine g_imul K dX7_layRows_25 ?_
      refine g_iload_n K 3 dX7_layRows_26 rfl rfl ?_
      refine g_iadd K dX7_layRows_27 ?_
      refine g_iload_n K 2 dX7_layRows_28 rfl rfl ?_
      refine g_iload_n K 3 dX7_layRows_29 rfl rfl ?_
      refine bd_cut h (P := (fun v6 => G X 4 65 [(0, .ref (X.ad 132)), (1, .int x1), (2, .int x2), (3, .int x3)] [.long v6, .int ((5 * x2) + x3), .ref (X.ad 146)] σ)) (fun v6 h => ?_) (fun tail_5 => ?_)
      · obtain ⟨g10, h⟩ := og h
        refine g_last K kd_146 ltN_146 g10 dX7_layRows_65 (fun σ11 s12 => ?_)
        replace h := jn_at s12 h
        refine g_iinc (lv' := [(3, .int (x3 + 1)), (0, .ref (X.ad 132)), (1, .int x1), (2, .int x2)]) K 3 dX7_layRows_66 rfl (by rw [ic_1]) (by decide) rfl ?_
        refine g_goto (tgt := 14) K dX7_layRows_69 (by decide) ?_
        refine g_sub [1, 2, 3, 0] rfl ?_
        exact ih _ _ _ h hexit
      · refine g_icmp_ne (tgt := 39) K dX7_layRows_30 (by decide) (fun c7 => ?_) (fun c7 => ?_)
        · replace h := jbn c7 h
          refine g_iload_n K 1 dX7_layRows_39 rfl rfl ?_
          refine g_iload_n K 2 dX7_layRows_40 rfl rfl ?_
          refine g_csi (As := [.int x1, .int x2]) (rest := [.int ((5 * x2) + x3), .ref (X.ad 146)]) K (m_X7_has x1 x2 σ) yv_X7_has ml_X7_117 rfl rfl rfl ⟨Nat.le_trans (Nat.le_of_ble_eq_true rfl) hR.1, Nat.le_trans (Nat.le_of_ble_eq_true rfl) hR.2⟩ (Nat.le_of_ble_eq_true rfl) dX7_layRows_41 ?_
          refine g_if_eq (tgt := 51) K dX7_layRows_44 (by decide) (fun c8 => ?_) (fun c8 => ?_)
          · replace h := jbp c8 h
            refine g_aload_n K 0 dX7_layRows_51 rfl rfl ?_
            refine g_get (v := .ref (X.ad 141)) K (e_ControlRegisterModel kd_132) ltN_132 rfl 10 (by decide) rfl fw_X7_34 u_X7 dX7_layRows_52 ?_
            refine g_iconst (v := 4) K dX7_layRows_55 ic_4 ?_
            refine g_iload_n K 3 dX7_layRows_56 rfl rfl ?_
            refine g_iadd K dX7_layRows_57 ?_
            refine g_iload_n K 2 dX7_layRows_58 rfl rfl ?_
            refine g_csi (As := [.int (4 + x3), .int x2]) (rest := [.ref (X.ad 141), .int ((5 * x2) + x3), .ref (X.ad 146)]) K (m_X7_at (4 + x3) x2 σ) yv_X7_at ml_X7_78 rfl rfl rfl ⟨Nat.le_trans (Nat.le_of_ble_eq_true rfl) hR.1, Nat.le_trans (Nat.le_of_ble_eq_true rfl) hR.2⟩ (Nat.le_of_ble_eq_true rfl) dX7_layRows_59 ?_
            obtain ⟨g9, h⟩ := ogb h
            refine g_iald K kd_141 ltN_141 g9 dX7_layRows_62 ?_
            refine g_ineg K dX7_layRows_63 ?_
            refine g_i2l K dX7_layRows_64 ?_
            exact tail_5 _ h
          · replace h := jbn c8 h
            refine g_lconst (v := 0) K dX7_layRows_47 lc_0 ?_
            refine g_goto (tgt := 65) K dX7_layRows_48 (by decide) ?_
            exact tail_5 _ h
        · replace h := jbp c7 h
          refine g_ldc2 (v := 100) K cl_X7_172 dX7_layRows_33 ?_
          refine g_goto (tgt := 65) K dX7_layRows_36 (by decide) ?_
          exact tail_5 _ h
def L_X7_layRows_7 (x1 : Int32) : Nat → Int32 → Sg → Option (Int32 × Sg)
  | 0, _, _ => none
  | n + 1, x2, σ =>
    if 5 ≤ x2 then
    (some (x2, σ))
    else
    (Option.bind (L_X7_layRows_14 x1 x2 FU 0 σ) (fun o2 =>
    L_X7_layRows_7 x1 n (x2 + 1) o2.2))
set_option maxRecDepth 20000 in
set_option maxHeartbeats 4000000 in
theorem l_X7_layRows_7 {X : Ctx} (K : Cok X cX7_layRows 4 RX7) (hR : 2 ≤ X.R.frames ∧ 47 ≤ X.R.locals) {x1 : Int32}  :
    ∀ (n : Nat) (x2 : Int32) (σ : Sg) (o : (Int32 × Sg)), L_X7_layRows_7 x1 n x2 σ = some o → G X 4 78 [(0, .ref (X.ad 132)), (1, .int x1), (2, .int o.1)] [] o.2 → G X 4 7 [(0, .ref (X.ad 132)), (1, .int x1), (2, .int x2)] [] σ := by
  intro n
  induction n with
  | zero => intro x2 σ o h; exact absurd h (by unfold L_X7_layRows_7; intro h; cases h)
  | succ n ih =>
    intro x2 σ o h hexit
    unfold L_X7_layRows_7 at h
    refine g_iload_n K 2 dX7_layRows_7 rfl rfl ?_
    refine g_iconst (v := 5) K dX7_layRows_8 ic_5 ?_
    refine g_icmp_ge (tgt := 78) K dX7_layRows_9 (by decide) (fun c1 => ?_) (fun c1 => ?_)
    · replace h := bp c1 h
      refine g_sub [0, 1, 2] rfl ?_
      obtain rfl := Option.some.inj h
      exact hexit
    · replace h := bn c1 h
      refine g_iconst (v := 0) K dX7_layRows_12 ic_0 ?_
      refine g_istore_n (lv' := [(3, .int 0), (0, .ref (X.ad 132)), (1, .int x1), (2, .int x2)]) K dX7_layRows_13 rfl (by decide) rfl ?_
      obtain ⟨o2, e3, h⟩ := ob h
      refine g_sub [1, 2, 3, 0] rfl ?_
      refine l_X7_layRows_14 K hR _ _ _ _ e3 ?_
      refine g_iinc (lv' := [(2, .int (x2 + 1)), (0, .ref (X.ad 132)), (1, .int x1), (3, .int o2.1)]) K 2 dX7_layRows_72 rfl (by rw [ic_1]) (by decide) rfl ?_
      refine g_goto (tgt := 7) K dX7_layRows_75 (by decide) ?_
      refine g_sub [1, 2, 0] rfl ?_
      exact ih _ _ _ h hexit
def f_X7_layRows  (σ : Sg) : Option Sg :=
  Option.bind (f_X7_locked σ) (fun r1 =>
  Option.bind (L_X7_layRows_7 r1 FU 0 σ) (fun o3 =>
  some o3.2))
set_option maxRecDepth 20000 in
set_option maxHeartbeats 4000000 in
theorem w_X7_layRows {X : Ctx} (K : Cok X cX7_layRows 4 RX7) (hR : 2 ≤ X.R.frames ∧ 47 ≤ X.R.locals)  {σ : Sg}  {r : Sg} (h : f_X7_layRows σ = some r) (hr : RV X cX7_layRows 4 r) : G X 4 0 [(0, .ref (X.ad 132))] [] σ := by
  unfold f_X7_layRows at h
  refine g_aload_n K 0 dX7_layRows_0 rfl rfl ?_
  obtain ⟨r1, e2, h⟩ := ob h
  refine g_cvi (As := []) (rest := []) K (m_X7_locked e2) yv_X7_locked ml_X7_169 rfl rfl rfl (e_ControlRegisterModel kd_132) ltN_132 rfl rfl ⟨Nat.le_trans (Nat.le_of_ble_eq_true rfl) hR.1, Nat.le_trans (Nat.le_of_ble_eq_true rfl) hR.2⟩ (Nat.le_of_ble_eq_true rfl) dX7_layRows_1 ?_
  refine g_istore_n (lv' := [(1, .int r1), (0, .ref (X.ad 132))]) K dX7_layRows_4 rfl (by decide) rfl ?_
  refine g_iconst (v := 0) K dX7_layRows_5 ic_0 ?_
  refine g_istore_n (lv' := [(2, .int 0), (1, .int r1), (0, .ref (X.ad 132))]) K dX7_layRows_6 rfl (by decide) rfl ?_
  obtain ⟨o3, e4, h⟩ := ob h
  refine g_sub [2, 1, 0] rfl ?_
  refine l_X7_layRows_7 K hR _ _ _ _ e4 ?_
  exact hr _ _ _ dX7_layRows_78 (rt2 h)
theorem m_X7_layRows  {σ : Sg}  {r : Sg} (h : f_X7_layRows σ = some r) : CV yX7_layRows cX7_layRows 4 none 2 47 (fun ad => [.ref (ad 132)]) σ r :=
  CV.of (by decide) (fun _ => Nat.le_of_ble_eq_true rfl) (fun X K hR hr => w_X7_layRows K hR h hr)
def f_X7_over (x0 : Int32) (x1 : Int32) : Int32 :=
  if x0 ≤ x1 then
  (0)
  else
  (1)
set_option maxRecDepth 20000 in
set_option maxHeartbeats 4000000 in
theorem w_X7_over {X : Ctx} (K : Cok X cX7_over 2 RX7) (hR : 0 ≤ X.R.frames ∧ 0 ≤ X.R.locals) {x0 : Int32} {x1 : Int32} {σ : Sg}  {r : Int32} (h : f_X7_over x0 x1 = r) (hr : RI X cX7_over 2 (r, σ)) : G X 2 0 [(0, .int x0), (1, .int x1)] [] σ := by
  unfold f_X7_over at h
  refine g_iload_n K 0 dX7_over_0 rfl rfl ?_
  refine g_iload_n K 1 dX7_over_1 rfl rfl ?_
  refine g_icmp_le (tgt := 9) K dX7_over_2 (by decide) (fun c1 => ?_) (fun c1 => ?_)
  · replace h := bp c1 h
    refine g_iconst (v := 0) K dX7_over_9 ic_0 ?_
    exact hr _ _ _ _ dX7_over_10 (rt0 h)
  · replace h := bn c1 h
    refine g_iconst (v := 1) K dX7_over_5 ic_1 ?_
    refine g_goto (tgt := 10) K dX7_over_6 (by decide) ?_
    exact hr _ _ _ _ dX7_over_10 (rt0 h)
theorem m_X7_over (x0 : Int32) (x1 : Int32) (σ : Sg)  : CI yX7_over cX7_over 2 (some .int) 0 0 (fun ad => [.int x0, .int x1]) σ (f_X7_over x0 x1) σ :=
  CI.of (by decide) (fun _ => Nat.le_of_ble_eq_true rfl) (fun X K hR hr => w_X7_over K hR rfl hr)
def L_X7_determinant_4 (σ : Sg) : Nat → Int64 → Int32 → Option (Int64 × Int32)
  | 0, _, _ => none
  | n + 1, x1, x3 =>
    if 3125 ≤ x3 then
    (some (x1, x3))
    else
    (if (((((1 <<< ((x3 / 625) &&& 31)) ||| (1 <<< (((x3 / 125) - (x3 / 125) / 5 * 5) &&& 31))) ||| (1 <<< (((x3 / 25) - (x3 / 25) / 5 * 5) &&& 31))) ||| (1 <<< (((x3 / 5) - (x3 / 5) / 5 * 5) &&& 31))) ||| (1 <<< ((x3 - x3 / 5 * 5) &&& 31))) = 31 then
    (if inb (x3 / 625) 25 then
    (if inb (5 + ((x3 / 125) - (x3 / 125) / 5 * 5)) 25 then
    (if inb (10 + ((x3 / 25) - (x3 / 25) / 5 * 5)) 25 then
    (if inb (15 + ((x3 / 5) - (x3 / 5) / 5 * 5)) 25 then
    (if inb (20 + (x3 - x3 / 5 * 5)) 25 then
    (jn (if (((((((((((f_X7_over (x3 / 625) ((x3 / 125) - (x3 / 125) / 5 * 5)) + (f_X7_over (x3 / 625) ((x3 / 25) - (x3 / 25) / 5 * 5))) + (f_X7_over (x3 / 625) ((x3 / 5) - (x3 / 5) / 5 * 5))) + (f_X7_over (x3 / 625) (x3 - x3 / 5 * 5))) + (f_X7_over ((x3 / 125) - (x3 / 125) / 5 * 5) ((x3 / 25) - (x3 / 25) / 5 * 5))) + (f_X7_over ((x3 / 125) - (x3 / 125) / 5 * 5) ((x3 / 5) - (x3 / 5) / 5 * 5))) + (f_X7_over ((x3 / 125) - (x3 / 125) / 5 * 5) (x3 - x3 / 5 * 5))) + (f_X7_over ((x3 / 25) - (x3 / 25) / 5 * 5) ((x3 / 5) - (x3 / 5) / 5 * 5))) + (f_X7_over ((x3 / 25) - (x3 / 25) / 5 * 5) (x3 - x3 / 5 * 5))) + (f_X7_over ((x3 / 5) - (x3 / 5) / 5 * 5) (x3 - x3 / 5 * 5))) - ((((((((((f_X7_over (x3 / 625) ((x3 / 125) - (x3 / 125) / 5 * 5)) + (f_X7_over (x3 / 625) ((x3 / 25) - (x3 / 25) / 5 * 5))) + (f_X7_over (x3 / 625) ((x3 / 5) - (x3 / 5) / 5 * 5))) + (f_X7_over (x3 / 625) (x3 - x3 / 5 * 5))) + (f_X7_over ((x3 / 125) - (x3 / 125) / 5 * 5) ((x3 / 25) - (x3 / 25) / 5 * 5))) + (f_X7_over ((x3 / 125) - (x3 / 125) / 5 * 5) ((x3 / 5) - (x3 / 5) / 5 * 5))) + (f_X7_over ((x3 / 125) - (x3 / 125) / 5 * 5) (x3 - x3 / 5 * 5))) + (f_X7_over ((x3 / 25) - (x3 / 25) / 5 * 5) ((x3 / 5) - (x3 / 5) / 5 * 5))) + (f_X7_over ((x3 / 25) - (x3 / 25) / 5 * 5) (x3 - x3 / 5 * 5))) + (f_X7_over ((x3 / 5) - (x3 / 5) / 5 * 5) (x3 - x3 / 5 * 5))) / 2 * 2) = 0 then ((((((σ.2 146 (x3 / 625).toNatClampNeg) * (σ.2 146 (5 + ((x3 / 125) - (x3 / 125) / 5 * 5)).toNatClampNeg)) * (σ.2 146 (10 + ((x3 / 25) - (x3 / 25) / 5 * 5)).toNatClampNeg)) * (σ.2 146 (15 + ((x3 / 5) - (x3 / 5) / 5 * 5)).toNatClampNeg)) * (σ.2 146 (20 + (x3 - x3 / 5 * 5)).toNatClampNeg))) else ((-(((((σ.2 146 (x3 / 625).toNatClampNeg) * (σ.2 146 (5 + ((x3 / 125) - (x3 / 125) / 5 * 5)).toNatClampNeg)) * (σ.2 146 (10 + ((x3 / 25) - (x3 / 25) / 5 * 5)).toNatClampNeg)) * (σ.2 146 (15 + ((x3 / 5) - (x3 / 5) / 5 * 5)).toNatClampNeg)) * (σ.2 146 (20 + (x3 - x3 / 5 * 5)).toNatClampNeg)))) : Int64) (fun v19 =>
    L_X7_determinant_4 σ n (x1 + v19) (x3 + 1)))
    else none)
    else none)
    else none)
    else none)
    else none)
    else
    (L_X7_determinant_4 σ n x1 (x3 + 1)))
set_option maxRecDepth 20000 in
set_option maxHeartbeats 4000000 in
theorem l_X7_determinant_4 {X : Ctx} (K : Cok X cX7_determinant 12 RX7) (hR : 1 ≤ X.R.frames ∧ 21 ≤ X.R.locals) {σ : Sg}  :
    ∀ (n : Nat) (x1 : Int64) (x3 : Int32) (o : (Int64 × Int32)), L_X7_determinant_4 σ n x1 x3 = some o → G X 12 232 [(0, .ref (X.ad 132)), (1, .long o.1), (3, .int o.2)] [] σ → G X 12 4 [(0, .ref (X.ad 132)), (1, .long x1), (3, .int x3)] [] σ := by
  intro n
  induction n with
  | zero => intro x1 x3 o h; exact absurd h (by unfold L_X7_determinant_4; intro h; cases h)
  | succ n ih =>
    intro x1 x3 o h hexit
    unfold L_X7_determinant_4 at h
    refine g_iload_n K 2 dX7_determinant_4 rfl rfl ?_
    refine g_sipush (v := 3125) K dX7_determinant_5 sp_3125 ?_
    refine g_icmp_ge (tgt := 232) K dX7_determinant_8 (by decide) (fun c1 => ?_) (fun c1 => ?_)
    · replace h := bp c1 h
      refine g_sub [0, 1, 2] rfl ?_
      obtain rfl := Option.some.inj h
      exact hexit
    · replace h := bn c1 h
      refine g_iload_n K 2 dX7_determinant_11 rfl rfl ?_
      refine g_sipush (v := 625) K dX7_determinant_12 sp_625 ?_
      refine g_idiv K dX7_determinant_15 nz_625 ?_
      refine g_istore (lv' := [(4, .int (x3 / 625)), (0, .ref (X.ad 132)), (1, .long x1), (3, .int x3)]) K dX7_determinant_16 (by decide) rfl ?_
      refine g_iload_n K 3 dX7_determinant_18 rfl rfl ?_
      refine g_bipush (v := 125) K dX7_determinant_19 bp_125 ?_
      refine g_idiv K dX7_determinant_21 nz_125 ?_
      refine g_iconst (v := 5) K dX7_determinant_22 ic_5 ?_
      refine g_irem K dX7_determinant_23 nz_5 ?_
      refine g_istore (lv' := [(5, .int ((x3 / 125) - (x3 / 125) / 5 * 5)), (4, .int (x3 / 625)), (0, .ref (X.ad 132)), (1, .long x1), (3, .int x3)]) K dX7_determinant_24 (by decide) rfl ?_
      refine g_iload_n K 4 dX7_determinant_26 rfl rfl ?_
      refine g_bipush (v := 25) K dX7_determinant_27 bp_25 ?_
      refine g_idiv K dX7_determinant_29 nz_25 ?_
      refine g_iconst (v := 5) K dX7_determinant_30 ic_5 ?_
      refine g_irem K dX7_determinant_31 nz_5 ?_
      refine g_istore (lv' := [(6, .int ((x3 / 25) - (x3 / 25) / 5 * 5)), (5, .int ((x3 / 125) - (x3 / 125) / 5 * 5)), (4, .int (x3 / 625)), (0, .ref (X.ad 132)), (1, .long x1), (3, .int x3)]) K dX7_determinant_32 (by decide) rfl ?_
      refine g_iload_n K 5 dX7_determinant_34 rfl rfl ?_
      refine g_iconst (v := 5) K dX7_determinant_35 ic_5 ?_
      refine g_idiv K dX7_determinant_36 nz_5 ?_
      refine g_iconst (v := 5) K dX7_determinant_37 ic_5 ?_
      refine g_irem K dX7_determinant_38 nz_5 ?_
      refine g_istore (lv' := [(7, .int ((x3 / 5) - (x3 / 5) / 5 * 5)), (6, .int ((x3 / 25) - (x3 / 25) / 5 * 5)), (5, .int ((x3 / 125) - (x3 / 125) / 5 * 5)), (4, .int (x3 / 625)), (0, .ref (X.ad 132)), (1, .long x1), (3, .int x3)]) K dX7_determinant_39 (by decide) rfl ?_
      refine g_iload_n K 6 dX7_determinant_41 rfl rfl ?_
      refine g_iconst (v := 5) K dX7_determinant_42 ic_5 ?_
      refine g_irem K dX7_determinant_43 nz_5 ?_
      refine g_istore (lv' := [(8, .int (x3 - x3 / 5 * 5)), (7, .int ((x3 / 5) - (x3 / 5) / 5 * 5)), (6, .int ((x3 / 25) - (x3 / 25) / 5 * 5)), (5, .int ((x3 / 125) - (x3 / 125) / 5 * 5)), (4, .int (x3 / 625)), (0, .ref (X.ad 132)), (1, .long x1), (3, .int x3)]) K dX7_determinant_44 (by decide) rfl ?_
      refine g_iconst (v := 1) K dX7_determinant_46 ic_1 ?_
      refine g_iload K 4 dX7_determinant_47 rfl ?_
      refine g_ishl K dX7_determinant_49 ?_
      refine g_iconst (v := 1) K dX7_determinant_50 ic_1 ?_
      refine g_iload K 3 dX7_determinant_51 rfl ?_
      refine g_ishl K dX7_determinant_53 ?_
      refine g_ior K dX7_determinant_54 ?_
      refine g_iconst (v := 1) K dX7_determinant_55 ic_1 ?_
      refine g_iload K 2 dX7_determinant_56 rfl ?_
      refine g_ishl K dX7_determinant_58 ?_
      refine g_ior K dX7_determinant_59 ?_
      refine g_iconst (v := 1) K dX7_determinant_60 ic_1 ?_
      refine g_iload K 1 dX7_determinant_61 rfl ?_
      refine g_ishl K dX7_determinant_63 ?_
      refine g_ior K dX7_determinant_64 ?_
      refine g_iconst (v := 1) K dX7_determinant_65 ic_1 ?_
      refine g_iload K 0 dX7_determinant_66 rfl ?_
      refine g_ishl K dX7_determinant_68 ?_
      refine g_ior K dX7_determinant_69 ?_
      refine g_bipush (v := 31) K dX7_determinant_70 bp_31 ?_
      refine g_icmp_ne (tgt := 226) K dX7_determinant_72 (by decide) (fun c10 => ?_) (fun c10 => ?_)
      · replace h := bn c10 h
        refine g_iinc (lv' := [(3, .int (x3 + 1)), (8, .int (x3 - x3 / 5 * 5)), (7, .int ((x3 / 5) - (x3 / 5) / 5 * 5)), (6, .int ((x3 / 25) - (x3 / 25) / 5 * 5)), (5, .int ((x3 / 125) - (x3 / 125) / 5 * 5)), (4, .int (x3 / 625)), (0, .ref (X.ad 132)), (1, .long x1)]) K 7 dX7_determinant_226 rfl (by rw [ic_1]) (by decide) rfl ?_
        refine g_goto (tgt := 4) K dX7_determinant_229 (by decide) ?_
        refine g_sub [6, 7, 0] rfl ?_
        exact ih _ _ _ h hexit
      · replace h := bp c10 h
        refine g_iload K 4 dX7_determinant_75 rfl ?_
        refine g_iload K 3 dX7_determinant_77 rfl ?_
        refine g_csi (As := [.int (x3 / 625), .int ((x3 / 125) - (x3 / 125) / 5 * 5)]) (rest := []) K (m_X7_over (x3 / 625) ((x3 / 125) - (x3 / 125) / 5 * 5) σ) yv_X7_over ml_X7_166 rfl rfl rfl ⟨Nat.le_trans (Nat.le_of_ble_eq_true rfl) hR.1, Nat.le_trans (Nat.le_of_ble_eq_true rfl) hR.2⟩ (Nat.le_of_ble_eq_true rfl) dX7_determinant_79 ?_
        refine g_iload K 4 dX7_determinant_82 rfl ?_
        refine g_iload K 2 dX7_determinant_84 rfl ?_
        refine g_csi (As := [.int (x3 / 625), .int ((x3 / 25) - (x3 / 25) / 5 * 5)]) (rest := [.int (f_X7_over (x3 / 625) ((x3 / 125) - (x3 / 125) / 5 * 5))]) K (m_X7_over (x3 / 625) ((x3 / 25) - (x3 / 25) / 5 * 5) σ) yv_X7_over ml_X7_166 rfl rfl rfl ⟨Nat.le_trans (Nat.le_of_ble_eq_true rfl) hR.1, Nat.le_trans (Nat.le_of_ble_eq_true rfl) hR.2⟩ (Nat.le_of_ble_eq_true rfl) dX7_determinant_86 ?_
        refine g_iadd K dX7_determinant_89 ?_
        refine g_iload K 4 dX7_determinant_90 rfl ?_
        refine g_iload K 1 dX7_determinant_92 rfl ?_
        refine g_csi (As := [.int (x3 / 625), .int ((x3 / 5) - (x3 / 5) / 5 * 5)]) (rest := [.int ((f_X7_over (x3 / 625) ((x3 / 125) - (x3 / 125) / 5 * 5)) + (f_X7_over (x3 / 625) ((x3 / 25) - (x3 / 25) / 5 * 5)))]) K (m_X7_over (x3 / 625) ((x3 / 5) - (x3 / 5) / 5 * 5) σ) yv_X7_over ml_X7_166 rfl rfl rfl ⟨Nat.le_trans (Nat.le_of_ble_eq_true rfl) hR.1, Nat.le_trans (Nat.le_of_ble_eq_true rfl) hR.2⟩ (Nat.le_of_ble_eq_true rfl) dX7_determinant_94 ?_
        refine g_iadd K dX7_determinant_97 ?_
        refine g_iload K 4 dX7_determinant_98 rfl ?_
        refine g_iload K 0 dX7_determinant_100 rfl ?_
        refine g_csi (As := [.int (x3 / 625), .int (x3 - x3 / 5 * 5)]) (rest := [.int (((f_X7_over (x3 / 625) ((x3 / 125) - (x3 / 125) / 5 * 5)) + (f_X7_over (x3 / 625) ((x3 / 25) - (x3 / 25) / 5 * 5))) + (f_X7_over (x3 / 625) ((x3 / 5) - (x3 / 5) / 5 * 5)))]) K (m_X7_over (x3 / 625) (x3 - x3 / 5 * 5) σ) yv_X7_over ml_X7_166 rfl rfl rfl ⟨Nat.le_trans (Nat.le_of_ble_eq_true rfl) hR.1, Nat.le_trans (Nat.le_of_ble_eq_true rfl) hR.2⟩ (Nat.le_of_ble_eq_true rfl) dX7_determinant_102 ?_
        refine g_iadd K dX7_determinant_105 ?_
        refine g_iload K 3 dX7_determinant_106 rfl ?_
        refine g_iload K 2 dX7_determinant_108 rfl ?_
        refine g_csi (As := [.int ((x3 / 125) - (x3 / 125) / 5 * 5), .int ((x3 / 25) - (x3 / 25) / 5 * 5)]) (rest := [.int ((((f_X7_over (x3 / 625) ((x3 / 125) - (x3 / 125) / 5 * 5)) + (f_X7_over (x3 / 625) ((x3 / 25) - (x3 / 25) / 5 * 5))) + (f_X7_over (x3 / 625) ((x3 / 5) - (x3 / 5) / 5 * 5))) + (f_X7_over (x3 / 625) (x3 - x3 / 5 * 5)))]) K (m_X7_over ((x3 / 125) - (x3 / 125) / 5 * 5) ((x3 / 25) - (x3 / 25) / 5 * 5) σ) yv_X7_over ml_X7_166 rfl rfl rfl ⟨Nat.le_trans (Nat.le_of_ble_eq_true rfl) hR.1, Nat.le_trans (Nat.le_of_ble_eq_true rfl) hR.2⟩ (Nat.le_of_ble_eq_true rfl) dX7_determinant_110 ?_
        refine g_iadd K dX7_determinant_113 ?_
        refine g_iload K 3 dX7_determinant_114 rfl ?_
        refine g_iload K 1 dX7_determinant_116 rfl ?_
        refine g_csi (As := [.int ((x3 / 125) - (x3 / 125) / 5 * 5), .int ((x3 / 5) - (x3 / 5) / 5 * 5)]) (rest := [.int (((((f_X7_over (x3 / 625) ((x3 / 125) - (x3 / 125) / 5 * 5)) + (f_X7_over (x3 / 625) ((x3 / 25) - (x3 / 25) / 5 * 5))) + (f_X7_over (x3 / 625) ((x3 / 5) - (x3 / 5) / 5 * 5))) + (f_X7_over (x3 / 625) (x3 - x3 / 5 * 5))) + (f_X7_over ((x3 / 125) - (x3 / 125) / 5 * 5) ((x3 / 25) - (x3 / 25) / 5 * 5)))]) K (m_X7_over ((x3 / 125) - (x3 / 125) / 5 * 5) ((x3 / 5) - (x3 / 5) / 5 * 5) σ) yv_X7_over ml_X7_166 rfl rfl rfl ⟨Nat.le_trans (Nat.le_of_ble_eq_true rfl) hR.1, Nat.le_trans (Nat.le_of_ble_eq_true rfl) hR.2⟩ (Nat.le_of_ble_eq_true rfl) dX7_determinant_118 ?_
        refine g_iadd K dX7_determinant_121 ?_
        refine g_iload K 3 dX7_determinant_122 rfl ?_
        refine g_iload K 0 dX7_determinant_124 rfl ?_
        refine g_csi (As := [.int ((x3 / 125) - (x3 / 125) / 5 * 5), .int (x3 - x3 / 5 * 5)]) (rest := [.int ((((((f_X7_over (x3 / 625) ((x3 / 125) - (x3 / 125) / 5 * 5)) + (f_X7_over (x3 / 625) ((x3 / 25) - (x3 / 25) / 5 * 5))) + (f_X7_over (x3 / 625) ((x3 / 5) - (x3 / 5) / 5 * 5))) + (f_X7_over (x3 / 625) (x3 - x3 / 5 * 5))) + (f_X7_over ((x3 / 125) - (x3 / 125) / 5 * 5) ((x3 / 25) - (x3 / 25) / 5 * 5))) + (f_X7_over ((x3 / 125) - (x3 / 125) / 5 * 5) ((x3 / 5) - (x3 / 5) / 5 * 5)))]) K (m_X7_over ((x3 / 125) - (x3 / 125) / 5 * 5) (x3 - x3 / 5 * 5) σ) yv_X7_over ml_X7_166 rfl rfl rfl ⟨Nat.le_trans (Nat.le_of_ble_eq_true rfl) hR.1, Nat.le_trans (Nat.le_of_ble_eq_true rfl) hR.2⟩ (Nat.le_of_ble_eq_true rfl) dX7_determinant_126 ?_
        refine g_iadd K dX7_determinant_129 ?_
        refine g_iload K 2 dX7_determinant_130 rfl ?_
        refine g_iload K 1 dX7_determinant_132 rfl ?_
        refine g_csi (As := [.int ((x3 / 25) - (x3 / 25) / 5 * 5), .int ((x3 / 5) - (x3 / 5) / 5 * 5)]) (rest := [.int (((((((f_X7_over (x3 / 625) ((x3 / 125) - (x3 / 125) / 5 * 5)) + (f_X7_over (x3 / 625) ((x3 / 25) - (x3 / 25) / 5 * 5))) + (f_X7_over (x3 / 625) ((x3 / 5) - (x3 / 5) / 5 * 5))) + (f_X7_over (x3 / 625) (x3 - x3 / 5 * 5))) + (f_X7_over ((x3 / 125) - (x3 / 125) / 5 * 5) ((x3 / 25) - (x3 / 25) / 5 * 5))) + (f_X7_over ((x3 / 125) - (x3 / 125) / 5 * 5) ((x3 / 5) - (x3 / 5) / 5 * 5))) + (f_X7_over ((x3 / 125) - (x3 / 125) / 5 * 5) (x3 - x3 / 5 * 5)))]) K (m_X7_over ((x3 / 25) - (x3 / 25) / 5 * 5) ((x3 / 5) - (x3 / 5) / 5 * 5) σ) yv_X7_over ml_X7_166 rfl rfl rfl ⟨Nat.le_trans (Nat.le_of_ble_eq_true rfl) hR.1, Nat.le_trans (Nat.le_of_ble_eq_true rfl) hR.2⟩ (Nat.le_of_ble_eq_true rfl) dX7_determinant_134 ?_
        refine g_iadd K dX7_determinant_137 ?_
        refine g_iload K 2 dX7_determinant_138 rfl ?_
        refine g_iload K 0 dX7_determinant_140 rfl ?_
        refine g_csi (As := [.int ((x3 / 25) - (x3 / 25) / 5 * 5), .int (x3 - x3 / 5 * 5)]) (rest := [.int ((((((((f_X7_over (x3 / 625) ((x3 / 125) - (x3 / 125) / 5 * 5)) + (f_X7_over (x3 / 625) ((x3 / 25) - (x3 / 25) / 5 * 5))) + (f_X7_over (x3 / 625) ((x3 / 5) - (x3 / 5) / 5 * 5))) + (f_X7_over (x3 / 625) (x3 - x3 / 5 * 5))) + (f_X7_over ((x3 / 125) - (x3 / 125) / 5 * 5) ((x3 / 25) - (x3 / 25) / 5 * 5))) + (f_X7_over ((x3 / 125) - (x3 / 125) / 5 * 5) ((x3 / 5) - (x3 / 5) / 5 * 5))) + (f_X7_over ((x3 / 125) - (x3 / 125) / 5 * 5) (x3 - x3 / 5 * 5))) + (f_X7_over ((x3 / 25) - (x3 / 25) / 5 * 5) ((x3 / 5) - (x3 / 5) / 5 * 5)))]) K (m_X7_over ((x3 / 25) - (x3 / 25) / 5 * 5) (x3 - x3 / 5 * 5) σ) yv_X7_over ml_X7_166 rfl rfl rfl ⟨Nat.le_trans (Nat.le_of_ble_eq_true rfl) hR.1, Nat.le_trans (Nat.le_of_ble_eq_true rfl) hR.2⟩ (Nat.le_of_ble_eq_true rfl) dX7_determinant_142 ?_
        refine g_iadd K dX7_determinant_145 ?_
        refine g_iload K 1 dX7_determinant_146 rfl ?_
        refine g_iload K 0 dX7_determinant_148 rfl ?_
        refine g_csi (As := [.int ((x3 / 5) - (x3 / 5) / 5 * 5), .int (x3 - x3 / 5 * 5)]) (rest := [.int (((((((((f_X7_over (x3 / 625) ((x3 / 125) - (x3 / 125) / 5 * 5)) + (f_X7_over (x3 / 625) ((x3 / 25) - (x3 / 25) / 5 * 5))) + (f_X7_over (x3 / 625) ((x3 / 5) - (x3 / 5) / 5 * 5))) + (f_X7_over (x3 / 625) (x3 - x3 / 5 * 5))) + (f_X7_over ((x3 / 125) - (x3 / 125) / 5 * 5) ((x3 / 25) - (x3 / 25) / 5 * 5))) + (f_X7_over ((x3 / 125) - (x3 / 125) / 5 * 5) ((x3 / 5) - (x3 / 5) / 5 * 5))) + (f_X7_over ((x3 / 125) - (x3 / 125) / 5 * 5) (x3 - x3 / 5 * 5))) + (f_X7_over ((x3 / 25) - (x3 / 25) / 5 * 5) ((x3 / 5) - (x3 / 5) / 5 * 5))) + (f_X7_over ((x3 / 25) - (x3 / 25) / 5 * 5) (x3 - x3 / 5 * 5)))]) K (m_X7_over ((x3 / 5) - (x3 / 5) / 5 * 5) (x3 - x3 / 5 * 5) σ) yv_X7_over ml_X7_166 rfl rfl rfl ⟨Nat.le_trans (Nat.le_of_ble_eq_true rfl) hR.1, Nat.le_trans (Nat.le_of_ble_eq_true rfl) hR.2⟩ (Nat.le_of_ble_eq_true rfl) dX7_determinant_150 ?_
        refine g_iadd K dX7_determinant_153 ?_
        refine g_istore (lv' := [(9, .int ((((((((((f_X7_over (x3 / 625) ((x3 / 125) - (x3 / 125) / 5 * 5)) + (f_X7_over (x3 / 625) ((x3 / 25) - (x3 / 25) / 5 * 5))) + (f_X7_over (x3 / 625) ((x3 / 5) - (x3 / 5) / 5 * 5))) + (f_X7_over (x3 / 625) (x3 - x3 / 5 * 5))) + (f_X7_over ((x3 / 125) - (x3 / 125) / 5 * 5) ((x3 / 25) - (x3 / 25) / 5 * 5))) + (f_X7_over ((x3 / 125) - (x3 / 125) / 5 * 5) ((x3 / 5) - (x3 / 5) / 5 * 5))) + (f_X7_over ((x3 / 125) - (x3 / 125) / 5 * 5) (x3 - x3 / 5 * 5))) + (f_X7_over ((x3 / 25) - (x3 / 25) / 5 * 5) ((x3 / 5) - (x3 / 5) / 5 * 5))) + (f_X7_over ((x3 / 25) - (x3 / 25) / 5 * 5) (x3 - x3 / 5 * 5))) + (f_X7_over ((x3 / 5) - (x3 / 5) / 5 * 5) (x3 - x3 / 5 * 5)))), (8, .int (x3 - x3 / 5 * 5)), (7, .int ((x3 / 5) - (x3 / 5) / 5 * 5)), (6, .int ((x3 / 25) - (x3 / 25) / 5 * 5)), (5, .int ((x3 / 125) - (x3 / 125) / 5 * 5)), (4, .int (x3 / 625)), (0, .ref (X.ad 132)), (1, .long x1), (3, .int x3)]) K dX7_determinant_154 (by decide) rfl ?_
        refine g_aload_n K 6 dX7_determinant_156 rfl rfl ?_
        refine g_get (v := .ref (X.ad 146)) K (e_ControlRegisterModel kd_132) ltN_132 rfl 20 (by decide) rfl fw_X7_50 u_X7 dX7_determinant_157 ?_
        refine g_iload K 5 dX7_determinant_160 rfl ?_
        obtain ⟨g11, h⟩ := og h
        refine g_lald K kd_146 ltN_146 g11 dX7_determinant_162 ?_
        refine g_aload_n K 6 dX7_determinant_163 rfl rfl ?_
        refine g_get (v := .ref (X.ad 146)) K (e_ControlRegisterModel kd_132) ltN_132 rfl 20 (by decide) rfl fw_X7_50 u_X7 dX7_determinant_164 ?_
        refine g_iconst (v := 5) K dX7_determinant_167 ic_5 ?_
        refine g_iload K 4 dX7_determinant_168 rfl ?_
        refine g_iadd K dX7_determinant_170 ?_
        obtain ⟨g12, h⟩ := og h
        refine g_lald K kd_146 ltN_146 g12 dX7_determinant_171 ?_
        refine g_lmul K dX7_determinant_172 ?_
        refine g_aload_n K 6 dX7_determinant_173 rfl rfl ?_
        refine g_get (v := .ref (X.ad 146)) K (e_ControlRegisterModel kd_132) ltN_132 rfl 20 (by decide) rfl fw_X7_50 u_X7 dX7_determinant_174 ?_
        refine g_bipush (v := 10) K dX7_determinant_177 bp_10 ?_
        refine g_iload K 3 dX7_determinant_179 rfl ?_
        refine g_iadd K dX7_determinant_181 ?_
        obtain ⟨g13, h⟩ := og h
        refine g_lald K kd_146 ltN_146 g13 dX7_determinant_182 ?_
        refine g_lmul K dX7_determinant_183 ?_
        refine g_aload_n K 6 dX7_determinant_184 rfl rfl ?_
        refine g_get (v := .ref (X.ad 146)) K (e_ControlRegisterModel kd_132) ltN_132 rfl 20 (by decide) rfl fw_X7_50 u_X7 dX7_determinant_185 ?_
        refine g_bipush (v := 15) K dX7_determinant_188 bp_15 ?_
        refine g_iload K 2 dX7_determinant_190 rfl ?_
        refine g_iadd K dX7_determinant_192 ?_
        obtain ⟨g14, h⟩ := og h
        refine g_lald K kd_146 ltN_146 g14 dX7_determinant_193 ?_
        refine g_lmul K dX7_determinant_194 ?_
        refine g_aload_n K 6 dX7_determinant_195 rfl rfl ?_
        refine g_get (v := .ref (X.ad 146)) K (e_ControlRegisterModel kd_132) ltN_132 rfl 20 (by decide) rfl fw_X7_50 u_X7 dX7_determinant_196 ?_
        refine g_bipush (v := 20) K dX7_determinant_199 bp_20 ?_
        refine g_iload K 1 dX7_determinant_201 rfl ?_
        refine g_iadd K dX7_determinant_203 ?_
        obtain ⟨g15, h⟩ := og h
        refine g_lald K kd_146 ltN_146 g15 dX7_determinant_204 ?_
        refine g_lmul K dX7_determinant_205 ?_
        refine g_lstore (lv' := [(10, .long (((((σ.2 146 (x3 / 625).toNatClampNeg) * (σ.2 146 (5 + ((x3 / 125) - (x3 / 125) / 5 * 5)).toNatClampNeg)) * (σ.2 146 (10 + ((x3 / 25) - (x3 / 25) / 5 * 5)).toNatClampNeg)) * (σ.2 146 (15 + ((x3 / 5) - (x3 / 5) / 5 * 5)).toNatClampNeg)) * (σ.2 146 (20 + (x3 - x3 / 5 * 5)).toNatClampNeg))), (9, .int ((((((((((f_X7_over (x3 / 625) ((x3 / 125) - (x3 / 125) / 5 * 5)) + (f_X7_over (x3 / 625) ((x3 / 25) - (x3 / 25) / 5 * 5))) + (f_X7_over (x3 / 625) ((x3 / 5) - (x3 / 5) / 5 * 5))) + (f_X7_over (x3 / 625) (x3 - x3 / 5 * 5))) + (f_X7_over ((x3 / 125) - (x3 / 125) / 5 * 5) ((x3 / 25) - (x3 / 25) / 5 * 5))) + (f_X7_over ((x3 / 125) - (x3 / 125) / 5 * 5) ((x3 / 5) - (x3 / 5) / 5 * 5))) + (f_X7_over ((x3 / 125) - (x3 / 125) / 5 * 5) (x3 - x3 / 5 * 5))) + (f_X7_over ((x3 / 25) - (x3 / 25) / 5 * 5) ((x3 / 5) - (x3 / 5) / 5 * 5))) + (f_X7_over ((x3 / 25) - (x3 / 25) / 5 * 5) (x3 - x3 / 5 * 5))) + (f_X7_over ((x3 / 5) - (x3 / 5) / 5 * 5) (x3 - x3 / 5 * 5)))), (8, .int (x3 - x3 / 5 * 5)), (7, .int ((x3 / 5) - (x3 / 5) / 5 * 5)), (6, .int ((x3 / 25) - (x3 / 25) / 5 * 5)), (5, .int ((x3 / 125) - (x3 / 125) / 5 * 5)), (4, .int (x3 / 625)), (0, .ref (X.ad 132)), (1, .long x1), (3, .int x3)]) K dX7_determinant_206 (by decide) rfl ?_
        refine g_lload_n K 8 dX7_determinant_208 rfl rfl ?_
        refine g_iload K 1 dX7_determinant_209 rfl ?_
        refine g_iconst (v := 2) K dX7_determinant_211 ic_2 ?_
        refine g_irem K dX7_determinant_212 nz_2 ?_
        refine jn_cut h (P := (fun v19 => G X 12 224 [(10, .long (((((σ.2 146 (x3 / 625).toNatClampNeg) * (σ.2 146 (5 + ((x3 / 125) - (x3 / 125) / 5 * 5)).toNatClampNeg)) * (σ.2 146 (10 + ((x3 / 25) - (x3 / 25) / 5 * 5)).toNatClampNeg)) * (σ.2 146 (15 + ((x3 / 5) - (x3 / 5) / 5 * 5)).toNatClampNeg)) * (σ.2 146 (20 + (x3 - x3 / 5 * 5)).toNatClampNeg))), (9, .int ((((((((((f_X7_over (x3 / 625) ((x3 / 125) - (x3 / 125) / 5 * 5)) + (f_X7_over (x3 / 625) ((x3 / 25) - (x3 / 25) / 5 * 5))) + (f_X7_over (x3 / 625) ((x3 / 5) - (x3 / 5) / 5 * 5))) + (f_X7_over (x3 / 625) (x3 - x3 / 5 * 5))) + (f_X7_over ((x3 / 125) - (x3 / 125) / 5 * 5) ((x3 / 25) - (x3 / 25) / 5 * 5))) + (f_X7_over ((x3 / 125) - (x3 / 125) / 5 * 5) ((x3 / 5) - (x3 / 5) / 5 * 5))) + (f_X7_over ((x3 / 125) - (x3 / 125) / 5 * 5) (x3 - x3 / 5 * 5))) + (f_X7_over ((x3 / 25) - (x3 / 25) / 5 * 5) ((x3 / 5) - (x3 / 5) / 5 * 5))) + (f_X7_over ((x3 / 25) - (x3 / 25) / 5 * 5) (x3 - x3 / 5 * 5))) + (f_X7_over ((x3 / 5) - (x3 / 5) / 5 * 5) (x3 - x3 / 5 * 5)))), (8, .int (x3 - x3 / 5 * 5)), (7, .int ((x3 / 5) - (x3 / 5) / 5 * 5)), (6, .int ((x3 / 25) - (x3 / 25) / 5 * 5)), (5, .int ((x3 / 125) - (x3 / 125) / 5 * 5)), (4, .int (x3 / 625)), (0, .ref (X.ad 132)), (1, .long x1), (3, .int x3)] [.long v19, .long x1] σ)) (fun v19 h => ?_) (fun tail_18 => ?_)
        · refine g_ladd K dX7_determinant_224 ?_
          refine g_lstore_n (lv' := [(1, .long (x1 + v19)), (10, .long (((((σ.2 146 (x3 / 625).toNatClampNeg) * (σ.2 146 (5 + ((x3 / 125) - (x3 / 125) / 5 * 5)).toNatClampNeg)) * (σ.2 146 (10 + ((x3 / 25) - (x3 / 25) / 5 * 5)).toNatClampNeg)) * (σ.2 146 (15 + ((x3 / 5) - (x3 / 5) / 5 * 5)).toNatClampNeg)) * (σ.2 146 (20 + (x3 - x3 / 5 * 5)).toNatClampNeg))), (9, .int ((((((((((f_X7_over (x3 / 625) ((x3 / 125) - (x3 / 125) / 5 * 5)) + (f_X7_over (x3 / 625) ((x3 / 25) - (x3 / 25) / 5 * 5))) + (f_X7_over (x3 / 625) ((x3 / 5) - (x3 / 5) / 5 * 5))) + (f_X7_over (x3 / 625) (x3 - x3 / 5 * 5))) + (f_X7_over ((x3 / 125) - (x3 / 125) / 5 * 5) ((x3 / 25) - (x3 / 25) / 5 * 5))) + (f_X7_over ((x3 / 125) - (x3 / 125) / 5 * 5) ((x3 / 5) - (x3 / 5) / 5 * 5))) + (f_X7_over ((x3 / 125) - (x3 / 125) / 5 * 5) (x3 - x3 / 5 * 5))) + (f_X7_over ((x3 / 25) - (x3 / 25) / 5 * 5) ((x3 / 5) - (x3 / 5) / 5 * 5))) + (f_X7_over ((x3 / 25) - (x3 / 25) / 5 * 5) (x3 - x3 / 5 * 5))) + (f_X7_over ((x3 / 5) - (x3 / 5) / 5 * 5) (x3 - x3 / 5 * 5)))), (8, .int (x3 - x3 / 5 * 5)), (7, .int ((x3 / 5) - (x3 / 5) / 5 * 5)), (6, .int ((x3 / 25) - (x3 / 25) / 5 * 5)), (5, .int ((x3 / 125) - (x3 / 125) / 5 * 5)), (4, .int (x3 / 625)), (0, .ref (X.ad 132)), (3, .int x3)]) K dX7_determinant_225 rfl (by decide) rfl ?_
          refine g_iinc (lv' := [(3, .int (x3 + 1)), (1, .long (x1 + v19)), (10, .long (((((σ.2 146 (x3 / 625).toNatClampNeg) * (σ.2 146 (5 + ((x3 / 125) - (x3 / 125) / 5 * 5)).toNatClampNeg)) * (σ.2 146 (10 + ((x3 / 25) - (x3 / 25) / 5 * 5)).toNatClampNeg)) * (σ.2 146 (15 + ((x3 / 5) - (x3 / 5) / 5 * 5)).toNatClampNeg)) * (σ.2 146 (20 + (x3 - x3 / 5 * 5)).toNatClampNeg))), (9, .int ((((((((((f_X7_over (x3 / 625) ((x3 / 125) - (x3 / 125) / 5 * 5)) + (f_X7_over (x3 / 625) ((x3 / 25) - (x3 / 25) / 5 * 5))) + (f_X7_over (x3 / 625) ((x3 / 5) - (x3 / 5) / 5 * 5))) + (f_X7_over (x3 / 625) (x3 - x3 / 5 * 5))) + (f_X7_over ((x3 / 125) - (x3 / 125) / 5 * 5) ((x3 / 25) - (x3 / 25) / 5 * 5))) + (f_X7_over ((x3 / 125) - (x3 / 125) / 5 * 5) ((x3 / 5) - (x3 / 5) / 5 * 5))) + (f_X7_over ((x3 / 125) - (x3 / 125) / 5 * 5) (x3 - x3 / 5 * 5))) + (f_X7_over ((x3 / 25) - (x3 / 25) / 5 * 5) ((x3 / 5) - (x3 / 5) / 5 * 5))) + (f_X7_over ((x3 / 25) - (x3 / 25) / 5 * 5) (x3 - x3 / 5 * 5))) + (f_X7_over ((x3 / 5) - (x3 / 5) / 5 * 5) (x3 - x3 / 5 * 5)))), (8, .int (x3 - x3 / 5 * 5)), (7, .int ((x3 / 5) - (x3 / 5) / 5 * 5)), (6, .int ((x3 / 25) - (x3 / 25) / 5 * 5)), (5, .int ((x3 / 125) - (x3 / 125) / 5 * 5)), (4, .int (x3 / 625)), (0, .ref (X.ad 132))]) K 9 dX7_determinant_226 rfl (by rw [ic_1]) (by decide) rfl ?_
          refine g_goto (tgt := 4) K dX7_determinant_229 (by decide) ?_
          refine g_sub [9, 1, 0] rfl ?_
          exact ih _ _ _ h hexit
        · refine g_if_ne (tgt := 221) K dX7_determinant_213 (by decide) (fun c20 => ?_) (fun c20 => ?_)
          · replace h := jpn c20 h
            refine g_lload K 0 dX7_determinant_221 rfl ?_
            refine g_lneg K dX7_determinant_223 ?_
            exact tail_18 _ h
          · replace h := jpp c20 h
            refine g_lload K 0 dX7_determinant_216 rfl ?_
            refine g_goto (tgt := 224) K dX7_determinant_218 (by decide) ?_
            exact tail_18 _ h
def f_X7_determinant  (σ : Sg) : Option Int64 :=
  Option.bind (L_X7_determinant_4 σ FU 0 0) (fun o1 =>
  some o1.1)
set_option maxRecDepth 20000 in
set_option maxHeartbeats 4000000 in
theorem w_X7_determinant {X : Ctx} (K : Cok X cX7_determinant 12 RX7) (hR : 1 ≤ X.R.frames ∧ 21 ≤ X.R.locals)  {σ : Sg}  {r : Int64} (h : f_X7_determinant σ = some r) (hr : RLg X cX7_determinant 12 (r, σ)) : G X 12 0 [(0, .ref (X.ad 132))] [] σ := by
  unfold f_X7_determinant at h
  refine g_lconst (v := 0) K dX7_determinant_0 lc_0 ?_
  refine g_lstore_n (lv' := [(1, .long 0), (0, .ref (X.ad 132))]) K dX7_determinant_1 rfl (by decide) rfl ?_
  refine g_iconst (v := 0) K dX7_determinant_2 ic_0 ?_
  refine g_istore_n (lv' := [(3, .int 0), (1, .long 0), (0, .ref (X.ad 132))]) K dX7_determinant_3 rfl (by decide) rfl ?_
  obtain ⟨o1, e2, h⟩ := ob h
  refine g_sub [2, 1, 0] rfl ?_
  refine l_X7_determinant_4 K hR _ _ _ _ e2 ?_
  refine g_lload_n K 1 dX7_determinant_232 rfl rfl ?_
  exact hr _ _ _ _ dX7_determinant_233 (rt1 h)
theorem m_X7_determinant  {σ : Sg}  {r : Int64} (h : f_X7_determinant σ = some r) : CL yX7_determinant cX7_determinant 12 (some .long) 1 21 (fun ad => [.ref (ad 132)]) σ r σ :=
  CL.of (by decide) (fun _ => Nat.le_of_ble_eq_true rfl) (fun X K hR hr => w_X7_determinant K hR h hr)
def L_X7_upper_12 (x1 : Int32) (x2 : Int32) (x3 : Int32) : Nat → Int32 → Sg → Option (Int32 × Sg)
  | 0, _, _ => none
  | n + 1, x4, σ =>
    if 5 ≤ x4 then
    (some (x4, σ))
    else
    (Option.bind (if (f_X7_has x3 x4) = 0 then (if inb (f_X7_at x1 x4) 50 then (some (Int32.toInt64 (σ.1 141 (f_X7_at x1 x4).toNatClampNeg))) else none) else (some 0) : Option Int64) (fun v5 =>
    if inb ((5 * x4) + x2) 25 then
    (jn (setL σ 146 (vp_updL (σ.2 146) ((5 * x4) + x2).toNatClampNeg v5)) (fun σ9 =>
    L_X7_upper_12 x1 x2 x3 n (x4 + 1) σ9))
    else none))
set_option maxRecDepth 20000 in
set_option maxHeartbeats 4000000 in
theorem l_X7_upper_12 {X : Ctx} (K : Cok X cX7_upper 5 RX7) (hR : 3 ≤ X.R.frames ∧ 70 ≤ X.R.locals) {x1 : Int32} {x2 : Int32} {x3 : Int32}  :
    ∀ (n : Nat) (x4 : Int32) (σ : Sg) (o : (Int32 × Sg)), L_X7_upper_12 x1 x2 x3 n x4 σ = some o → G X 5 60 [(0, .ref (X.ad 132)), (1, .int x1), (2, .int x2), (3, .int x3), (4, .int o.1)] [] o.2 → G X 5 12 [(0, .ref (X.ad 132)), (1, .int x1), (2, .int x2), (3, .int x3), (4, .int x4)] [] σ := by
  intro n
  induction n with
  | zero => intro x4 σ o h; exact absurd h (by unfold L_X7_upper_12; intro h; cases h)
  | succ n ih =>
    intro x4 σ o h hexit
    unfold L_X7_upper_12 at h
    refine g_iload K 4 dX7_upper_12 rfl ?_
    refine g_iconst (v := 5) K dX7_upper_14 ic_5 ?_
    refine g_icmp_ge (tgt := 60) K dX7_upper_15 (by decide) (fun c1 => ?_) (fun c1 => ?_)
    · replace h := bp c1 h
      refine g_sub [0, 1, 2, 3, 4] rfl ?_
      obtain rfl := Option.some.inj h
      exact hexit
    · replace h := bn c1 h
      refine g_aload_n K 0 dX7_upper_18 rfl rfl ?_
      refine g_get (v := .ref (X.ad 146)) K (e_ControlRegisterModel kd_132) ltN_132 rfl 20 (by decide) rfl fw_X7_50 u_X7 dX7_upper_19 ?_
      refine g_iconst (v := 5) K dX7_upper_22 ic_5 ?_
      refine g_iload K 4 dX7_upper_23 rfl ?_
      refine g_imul K dX7_upper_25 ?_
      refine g_iload_n K 2 dX7_upper_26 rfl rfl ?_
      refine g_iadd K dX7_upper_27 ?_
      refine g_iload_n K 3 dX7_upper_28 rfl rfl ?_
      refine g_iload K 4 dX7_upper_29 rfl ?_
      refine g_csi (As := [.int x3, .int x4]) (rest := [.int ((5 * x4) + x2), .ref (X.ad 146)]) K (m_X7_has x3 x4 σ) yv_X7_has ml_X7_117 rfl rfl rfl ⟨Nat.le_trans (Nat.le_of_ble_eq_true rfl) hR.1, Nat.le_trans (Nat.le_of_ble_eq_true rfl) hR.2⟩ (Nat.le_of_ble_eq_true rfl) dX7_upper_31 ?_
      refine bd_cut h (P := (fun v5 => G X 5 53 [(0, .ref (X.ad 132)), (1, .int x1), (2, .int x2), (3, .int x3), (4, .int x4)] [.long v5, .int ((5 * x4) + x2), .ref (X.ad 146)] σ)) (fun v5 h => ?_) (fun tail_4 => ?_)
      · obtain ⟨g8, h⟩ := og h
        refine g_last K kd_146 ltN_146 g8 dX7_upper_53 (fun σ9 s10 => ?_)
        replace h := jn_at s10 h
        refine g_iinc (lv' := [(4, .int (x4 + 1)), (0, .ref (X.ad 132)), (1, .int x1), (2, .int x2), (3, .int x3)]) K 4 dX7_upper_54 rfl (by rw [ic_1]) (by decide) rfl ?_
        refine g_goto (tgt := 12) K dX7_upper_57 (by decide) ?_
        refine g_sub [1, 2, 3, 4, 0] rfl ?_
        exact ih _ _ _ h hexit
      · refine g_if_eq (tgt := 41) K dX7_upper_34 (by decide) (fun c6 => ?_) (fun c6 => ?_)
        · replace h := jbp c6 h
          refine g_aload_n K 0 dX7_upper_41 rfl rfl ?_
          refine g_get (v := .ref (X.ad 141)) K (e_ControlRegisterModel kd_132) ltN_132 rfl 10 (by decide) rfl fw_X7_34 u_X7 dX7_upper_42 ?_
          refine g_iload_n K 1 dX7_upper_45 rfl rfl ?_
          refine g_iload K 4 dX7_upper_46 rfl ?_
          refine g_csi (As := [.int x1, .int x4]) (rest := [.ref (X.ad 141), .int ((5 * x4) + x2), .ref (X.ad 146)]) K (m_X7_at x1 x4 σ) yv_X7_at ml_X7_78 rfl rfl rfl ⟨Nat.le_trans (Nat.le_of_ble_eq_true rfl) hR.1, Nat.le_trans (Nat.le_of_ble_eq_true rfl) hR.2⟩ (Nat.le_of_ble_eq_true rfl) dX7_upper_48 ?_
          obtain ⟨g7, h⟩ := ogb h
          refine g_iald K kd_141 ltN_141 g7 dX7_upper_51 ?_
          refine g_i2l K dX7_upper_52 ?_
          exact tail_4 _ h
        · replace h := jbn c6 h
          refine g_lconst (v := 0) K dX7_upper_37 lc_0 ?_
          refine g_goto (tgt := 53) K dX7_upper_38 (by decide) ?_
          exact tail_4 _ h
def f_X7_upper (x1 : Int32) (x2 : Int32) (σ : Sg) : Option (Int64 × Sg) :=
  Option.bind (f_X7_layRows σ) (fun q1 =>
  Option.bind (f_X7_locked q1) (fun r3 =>
  Option.bind (L_X7_upper_12 x1 x2 r3 FU 0 q1) (fun o5 =>
  Option.bind (f_X7_determinant o5.2) (fun r7 =>
  some (r7, o5.2)))))
set_option maxRecDepth 20000 in
set_option maxHeartbeats 4000000 in
theorem w_X7_upper {X : Ctx} (K : Cok X cX7_upper 5 RX7) (hR : 3 ≤ X.R.frames ∧ 70 ≤ X.R.locals) {x1 : Int32} {x2 : Int32} {σ : Sg}  {r : Int64 × Sg} (h : f_X7_upper x1 x2 σ = some r) (hr : RLg X cX7_upper 5 r) : G X 5 0 [(0, .ref (X.ad 132)), (1, .int x1), (2, .int x2)] [] σ := by
  unfold f_X7_upper at h
  refine g_aload_n K 0 dX7_upper_0 rfl rfl ?_
  obtain ⟨q1, e2, h⟩ := ob h
  refine g_cvv (As := []) (rest := []) K (m_X7_layRows e2) yv_X7_layRows ml_X7_174 rfl rfl rfl (e_ControlRegisterModel kd_132) ltN_132 rfl rfl ⟨Nat.le_trans (Nat.le_of_ble_eq_true rfl) hR.1, Nat.le_trans (Nat.le_of_ble_eq_true rfl) hR.2⟩ (Nat.le_of_ble_eq_true rfl) dX7_upper_1 ?_
  refine g_aload_n K 0 dX7_upper_4 rfl rfl ?_
  obtain ⟨r3, e4, h⟩ := ob h
  refine g_cvi (As := []) (rest := []) K (m_X7_locked e4) yv_X7_locked ml_X7_169 rfl rfl rfl (e_ControlRegisterModel kd_132) ltN_132 rfl rfl ⟨Nat.le_trans (Nat.le_of_ble_eq_true rfl) hR.1, Nat.le_trans (Nat.le_of_ble_eq_true rfl) hR.2⟩ (Nat.le_of_ble_eq_true rfl) dX7_upper_5 ?_
  refine g_istore_n (lv' := [(3, .int r3), (0, .ref (X.ad 132)), (1, .int x1), (2, .int x2)]) K dX7_upper_8 rfl (by decide) rfl ?_
  refine g_iconst (v := 0) K dX7_upper_9 ic_0 ?_
  refine g_istore (lv' := [(4, .int 0), (3, .int r3), (0, .ref (X.ad 132)), (1, .int x1), (2, .int x2)]) K dX7_upper_10 (by decide) rfl ?_
  obtain ⟨o5, e6, h⟩ := ob h
  refine g_sub [2, 3, 4, 1, 0] rfl ?_
  refine l_X7_upper_12 K hR _ _ _ _ e6 ?_
  refine g_aload_n K 0 dX7_upper_60 rfl rfl ?_
  obtain ⟨r7, e8, h⟩ := ob h
  refine g_cvl (As := []) (rest := []) K (m_X7_determinant e8) yv_X7_determinant ml_X7_177 rfl rfl rfl (e_ControlRegisterModel kd_132) ltN_132 rfl rfl ⟨Nat.le_trans (Nat.le_of_ble_eq_true rfl) hR.1, Nat.le_trans (Nat.le_of_ble_eq_true rfl) hR.2⟩ (Nat.le_of_ble_eq_true rfl) dX7_upper_61 ?_
  exact hr _ _ _ _ dX7_upper_64 (rt2 h)
theorem m_X7_upper {x1 : Int32} {x2 : Int32} {σ : Sg}  {r : Int64 × Sg} (h : f_X7_upper x1 x2 σ = some r) : CL yX7_upper cX7_upper 5 (some .long) 3 70 (fun ad => [.ref (ad 132), .int x1, .int x2]) σ r.1 r.2 :=
  CL.of (by decide) (fun _ => Nat.le_of_ble_eq_true rfl) (fun X K hR hr => w_X7_upper K hR h hr)
def f_X7_lower  (σ : Sg) : Option (Int64 × Sg) :=
  Option.bind (f_X7_layRows σ) (fun q1 =>
  Option.bind (f_X7_determinant q1) (fun r3 =>
  some (r3, q1)))
set_option maxRecDepth 20000 in
set_option maxHeartbeats 4000000 in
theorem w_X7_lower {X : Ctx} (K : Cok X cX7_lower 1 RX7) (hR : 3 ≤ X.R.frames ∧ 70 ≤ X.R.locals)  {σ : Sg}  {r : Int64 × Sg} (h : f_X7_lower σ = some r) (hr : RLg X cX7_lower 1 r) : G X 1 0 [(0, .ref (X.ad 132))] [] σ := by
  unfold f_X7_lower at h
  refine g_aload_n K 0 dX7_lower_0 rfl rfl ?_
  obtain ⟨q1, e2, h⟩ := ob h
  refine g_cvv (As := []) (rest := []) K (m_X7_layRows e2) yv_X7_layRows ml_X7_174 rfl rfl rfl (e_ControlRegisterModel kd_132) ltN_132 rfl rfl ⟨Nat.le_trans (Nat.le_of_ble_eq_true rfl) hR.1, Nat.le_trans (Nat.le_of_ble_eq_true rfl) hR.2⟩ (Nat.le_of_ble_eq_true rfl) dX7_lower_1 ?_
  refine g_aload_n K 0 dX7_lower_4 rfl rfl ?_
  obtain ⟨r3, e4, h⟩ := ob h
  refine g_cvl (As := []) (rest := []) K (m_X7_determinant e4) yv_X7_determinant ml_X7_177 rfl rfl rfl (e_ControlRegisterModel kd_132) ltN_132 rfl rfl ⟨Nat.le_trans (Nat.le_of_ble_eq_true rfl) hR.1, Nat.le_trans (Nat.le_of_ble_eq_true rfl) hR.2⟩ (Nat.le_of_ble_eq_true rfl) dX7_lower_5 ?_
  exact hr _ _ _ _ dX7_lower_8 (rt2 h)
theorem m_X7_lower  {σ : Sg}  {r : Int64 × Sg} (h : f_X7_lower σ = some r) : CL yX7_lower cX7_lower 1 (some .long) 3 70 (fun ad => [.ref (ad 132)]) σ r.1 r.2 :=
  CL.of (by decide) (fun _ => Nat.le_of_ble_eq_true rfl) (fun X K hR hr => w_X7_lower K hR h hr)
def L_X7_part_9 (x0 : Int64) (x2 : Int64) (x4 : Int32) : Nat → Int64 → Int64 → Int32 → Option (Int64 × Int64 × Int32)
  | 0, _, _, _ => none
  | n + 1, x5, x7, x9 =>
    if 100 ≤ x9 then
    (some (x5, x7, x9))
    else
    (if (lg_cmp x7 0) = 0 then
    (some (x5, x7, x9))
    else
    (if ¬ x7 = 0 then
    (L_X7_part_9 x0 x2 x4 n x7 (x5 - x5 / x7 * x7) (x9 + 1))
    else none))
set_option maxRecDepth 20000 in
set_option maxHeartbeats 4000000 in
theorem l_X7_part_9 {X : Ctx} (K : Cok X cX7_part 12 RX7) (hR : 0 ≤ X.R.frames ∧ 0 ≤ X.R.locals) {x0 : Int64} {x2 : Int64} {x4 : Int32} {σ : Sg}  :
    ∀ (n : Nat) (x5 : Int64) (x7 : Int64) (x9 : Int32) (o : (Int64 × Int64 × Int32)), L_X7_part_9 x0 x2 x4 n x5 x7 x9 = some o → G X 12 44 [(0, .long x0), (2, .long x2), (4, .int x4), (5, .long o.1), (7, .long o.2.1), (9, .int o.2.2)] [] σ → G X 12 9 [(0, .long x0), (2, .long x2), (4, .int x4), (5, .long x5), (7, .long x7), (9, .int x9)] [] σ := by
  intro n
  induction n with
  | zero => intro x5 x7 x9 o h; exact absurd h (by unfold L_X7_part_9; intro h; cases h)
  | succ n ih =>
    intro x5 x7 x9 o h hexit
    unfold L_X7_part_9 at h
    refine g_iload K 5 dX7_part_9 rfl ?_
    refine g_bipush (v := 100) K dX7_part_11 bp_100 ?_
    refine g_icmp_ge (tgt := 44) K dX7_part_13 (by decide) (fun c1 => ?_) (fun c1 => ?_)
    · replace h := bp c1 h
      refine g_sub [0, 1, 2, 3, 4, 5] rfl ?_
      obtain rfl := Option.some.inj h
      exact hexit
    · replace h := bn c1 h
      refine g_lload K 4 dX7_part_16 rfl ?_
      refine g_lconst (v := 0) K dX7_part_18 lc_0 ?_
      refine g_lcmp K dX7_part_19 ?_
      refine g_if_eq (tgt := 44) K dX7_part_20 (by decide) (fun c2 => ?_) (fun c2 => ?_)
      · replace h := bp c2 h
        refine g_sub [0, 1, 2, 3, 4, 5] rfl ?_
        obtain rfl := Option.some.inj h
        exact hexit
      · replace h := bn c2 h
        refine g_lload K 3 dX7_part_23 rfl ?_
        refine g_lload K 4 dX7_part_25 rfl ?_
        obtain ⟨z3, h⟩ := og h
        refine g_lrem K dX7_part_27 z3 ?_
        refine g_lstore (lv' := [(10, .long (x5 - x5 / x7 * x7)), (0, .long x0), (2, .long x2), (4, .int x4), (5, .long x5), (7, .long x7), (9, .int x9)]) K dX7_part_28 (by decide) rfl ?_
        refine g_lload K 5 dX7_part_30 rfl ?_
        refine g_lstore (lv' := [(5, .long x7), (10, .long (x5 - x5 / x7 * x7)), (0, .long x0), (2, .long x2), (4, .int x4), (7, .long x7), (9, .int x9)]) K dX7_part_32 (by decide) rfl ?_
        refine g_lload K 1 dX7_part_34 rfl ?_
        refine g_lstore (lv' := [(7, .long (x5 - x5 / x7 * x7)), (5, .long x7), (10, .long (x5 - x5 / x7 * x7)), (0, .long x0), (2, .long x2), (4, .int x4), (9, .int x9)]) K dX7_part_36 (by decide) rfl ?_
        refine g_iinc (lv' := [(9, .int (x9 + 1)), (7, .long (x5 - x5 / x7 * x7)), (5, .long x7), (10, .long (x5 - x5 / x7 * x7)), (0, .long x0), (2, .long x2), (4, .int x4)]) K 6 dX7_part_38 rfl (by rw [ic_1]) (by decide) rfl ?_
        refine g_goto (tgt := 9) K dX7_part_41 (by decide) ?_
        refine g_sub [4, 5, 6, 2, 1, 0] rfl ?_
        exact ih _ _ _ _ h hexit
def f_X7_part (x0 : Int64) (x2 : Int64) (x4 : Int32) (σ : Sg) : Option Int64 :=
  Option.bind (L_X7_part_9 x0 x2 x4 FU x0 x2 0) (fun o1 =>
  if x4 = 0 then
  (if ¬ o1.1 = 0 then
  (some (x0 / o1.1))
  else none)
  else
  (if ¬ o1.1 = 0 then
  (some (x2 / o1.1))
  else none))
set_option maxRecDepth 20000 in
set_option maxHeartbeats 4000000 in
theorem w_X7_part {X : Ctx} (K : Cok X cX7_part 12 RX7) (hR : 0 ≤ X.R.frames ∧ 0 ≤ X.R.locals) {x0 : Int64} {x2 : Int64} {x4 : Int32} {σ : Sg}  {r : Int64} (h : f_X7_part x0 x2 x4 σ = some r) (hr : RLg X cX7_part 12 (r, σ)) : G X 12 0 [(0, .long x0), (2, .long x2), (4, .int x4)] [] σ := by
  unfold f_X7_part at h
  refine g_lload_n K 0 dX7_part_0 rfl rfl ?_
  refine g_lstore (lv' := [(5, .long x0), (0, .long x0), (2, .long x2), (4, .int x4)]) K dX7_part_1 (by decide) rfl ?_
  refine g_lload_n K 2 dX7_part_3 rfl rfl ?_
  refine g_lstore (lv' := [(7, .long x2), (5, .long x0), (0, .long x0), (2, .long x2), (4, .int x4)]) K dX7_part_4 (by decide) rfl ?_
  refine g_iconst (v := 0) K dX7_part_6 ic_0 ?_
  refine g_istore (lv' := [(9, .int 0), (7, .long x2), (5, .long x0), (0, .long x0), (2, .long x2), (4, .int x4)]) K dX7_part_7 (by decide) rfl ?_
  obtain ⟨o1, e2, h⟩ := ob h
  refine g_sub [3, 4, 5, 2, 1, 0] rfl ?_
  refine l_X7_part_9 K hR _ _ _ _ _ e2 ?_
  refine g_iload K 2 dX7_part_44 rfl ?_
  refine g_if_ne (tgt := 56) K dX7_part_46 (by decide) (fun c3 => ?_) (fun c3 => ?_)
  · replace h := bn c3 h
    refine g_lload_n K 1 dX7_part_56 rfl rfl ?_
    refine g_lload K 3 dX7_part_57 rfl ?_
    obtain ⟨z4, h⟩ := og h
    refine g_ldiv K dX7_part_59 z4 ?_
    exact hr _ _ _ _ dX7_part_60 (rt1 h)
  · replace h := bp c3 h
    refine g_lload_n K 0 dX7_part_49 rfl rfl ?_
    refine g_lload K 3 dX7_part_50 rfl ?_
    obtain ⟨z5, h⟩ := og h
    refine g_ldiv K dX7_part_52 z5 ?_
    refine g_goto (tgt := 60) K dX7_part_53 (by decide) ?_
    exact hr _ _ _ _ dX7_part_60 (rt1 h)
theorem m_X7_part {x0 : Int64} {x2 : Int64} {x4 : Int32} {σ : Sg}  {r : Int64} (h : f_X7_part x0 x2 x4 σ = some r) : CL yX7_part cX7_part 12 (some .long) 0 0 (fun ad => [.long x0, .long x2, .int x4]) σ r σ :=
  CL.of (by decide) (fun _ => Nat.le_of_ble_eq_true rfl) (fun X K hR hr => w_X7_part K hR h hr)
