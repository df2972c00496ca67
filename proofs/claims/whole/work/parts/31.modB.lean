def f_X7_rule (x1 : Int32) (x2 : Int32) (σ : Sg) : Option (Int32 × Sg) :=
  if (f_X7_in x1 0 2) = 0 then
  (some ((-2), σ))
  else
  (if (f_X7_in x2 1 99) = 0 then
  (some ((-2), σ))
  else
  (if inb x1 3 then
  (if inb x1 3 then
  (jn (setR σ 139 (upd (σ.1 139) x1.toNatClampNeg x2)) (fun σ5 =>
  some ((σ.1 139 x1.toNatClampNeg), σ5)))
  else none)
  else none))
set_option maxRecDepth 20000 in
set_option maxHeartbeats 4000000 in
theorem w_X7_rule {X : Ctx} (K : Cok X cX7_rule 4 RX7) (hR : 1 ≤ X.R.frames ∧ 22 ≤ X.R.locals) {x1 : Int32} {x2 : Int32} {σ : Sg}  {r : Int32 × Sg} (h : f_X7_rule x1 x2 σ = some r) (hr : RI X cX7_rule 4 r) : G X 4 0 [(0, .ref (X.ad 132)), (1, .int x1), (2, .int x2)] [] σ := by
  unfold f_X7_rule at h
  refine g_iload_n K 1 dX7_rule_0 rfl rfl ?_
  refine g_iconst (v := 0) K dX7_rule_1 ic_0 ?_
  refine g_iconst (v := 2) K dX7_rule_2 ic_2 ?_
  refine g_csi (As := [.int x1, .int 0, .int 2]) (rest := []) K (m_X7_in x1 0 2 σ) yv_X7_in ml_X7_66 rfl rfl rfl ⟨Nat.le_trans (Nat.le_of_ble_eq_true rfl) hR.1, Nat.le_trans (Nat.le_of_ble_eq_true rfl) hR.2⟩ (Nat.le_of_ble_eq_true rfl) dX7_rule_3 ?_
  refine g_if_eq (tgt := 19) K dX7_rule_6 (by decide) (fun c1 => ?_) (fun c1 => ?_)
  · replace h := bp c1 h
    refine g_bipush (v := (-2)) K dX7_rule_19 bp_m2 ?_
    exact hr _ _ _ _ dX7_rule_21 (rt2 h)
  · replace h := bn c1 h
    refine g_iload_n K 2 dX7_rule_9 rfl rfl ?_
    refine g_iconst (v := 1) K dX7_rule_10 ic_1 ?_
    refine g_bipush (v := 99) K dX7_rule_11 bp_99 ?_
    refine g_csi (As := [.int x2, .int 1, .int 99]) (rest := []) K (m_X7_in x2 1 99 σ) yv_X7_in ml_X7_66 rfl rfl rfl ⟨Nat.le_trans (Nat.le_of_ble_eq_true rfl) hR.1, Nat.le_trans (Nat.le_of_ble_eq_true rfl) hR.2⟩ (Nat.le_of_ble_eq_true rfl) dX7_rule_13 ?_
    refine g_if_ne (tgt := 22) K dX7_rule_16 (by decide) (fun c2 => ?_) (fun c2 => ?_)
    · replace h := bn c2 h
      refine g_aload_n K 0 dX7_rule_22 rfl rfl ?_
      refine g_get (v := .ref (X.ad 139)) K (e_ControlRegisterModel kd_132) ltN_132 rfl 8 (by decide) rfl fw_X7_28 u_X7 dX7_rule_23 ?_
      refine g_iload_n K 1 dX7_rule_26 rfl rfl ?_
      obtain ⟨g3, h⟩ := og h
      refine g_iald K kd_139 ltN_139 g3 dX7_rule_27 ?_
      refine g_istore_n (lv' := [(3, .int (σ.1 139 x1.toNatClampNeg)), (0, .ref (X.ad 132)), (1, .int x1), (2, .int x2)]) K dX7_rule_28 rfl (by decide) rfl ?_
      refine g_aload_n K 1 dX7_rule_29 rfl rfl ?_
      refine g_get (v := .ref (X.ad 139)) K (e_ControlRegisterModel kd_132) ltN_132 rfl 8 (by decide) rfl fw_X7_28 u_X7 dX7_rule_30 ?_
      refine g_iload_n K 2 dX7_rule_33 rfl rfl ?_
      refine g_iload_n K 3 dX7_rule_34 rfl rfl ?_
      obtain ⟨g4, h⟩ := og h
      refine g_iast K kd_139 ltN_139 g4 dX7_rule_35 (fun σ5 s6 => ?_)
      replace h := jn_at s6 h
      refine g_iload_n K 0 dX7_rule_36 rfl rfl ?_
      exact hr _ _ _ _ dX7_rule_37 (rt2 h)
    · replace h := bp c2 h
      refine g_bipush (v := (-2)) K dX7_rule_19 bp_m2 ?_
      exact hr _ _ _ _ dX7_rule_21 (rt2 h)
theorem m_X7_rule {x1 : Int32} {x2 : Int32} {σ : Sg}  {r : Int32 × Sg} (h : f_X7_rule x1 x2 σ = some r) : CI yX7_rule cX7_rule 4 (some .int) 1 22 (fun ad => [.ref (ad 132), .int x1, .int x2]) σ r.1 r.2 :=
  CI.of (by decide) (fun _ => Nat.le_of_ble_eq_true rfl) (fun X K hR hr => w_X7_rule K hR h hr)
def f_X7_holds (x1 : Int32) (x2 : Int32) (x3 : Int32) (σ : Sg) : Option (Int32 × Sg) :=
  if (f_X7_in x1 0 9) = 0 then
  (some ((-1), σ))
  else
  (if (f_X7_isFirm x2) = 0 then
  (some ((-1), σ))
  else
  (if (f_X7_in x3 0 2) = 0 then
  (some ((-2), σ))
  else
  (Option.bind (f_X7_lay (σ.1 132 7) (-6) σ) (fun q4 =>
  if x3 = 0 then
  (if inb (f_X7_at x1 x2) 50 then
  (some ((q4.2.1 141 (f_X7_at x1 x2).toNatClampNeg), q4.2))
  else none)
  else
  (if x3 = 1 then
  (if inb (f_X7_at x1 x2) 50 then
  (some ((q4.2.1 142 (f_X7_at x1 x2).toNatClampNeg), q4.2))
  else none)
  else
  (if inb (f_X7_at x1 x2) 50 then
  (if (q4.2.1 143 (f_X7_at x1 x2).toNatClampNeg) = 0 then
  (some (0, q4.2))
  else
  (some (1, q4.2)))
  else none))))))
set_option maxRecDepth 20000 in
set_option maxHeartbeats 4000000 in
theorem w_X7_holds {X : Ctx} (K : Cok X cX7_holds 5 RX7) (hR : 3 ≤ X.R.frames ∧ 68 ≤ X.R.locals) {x1 : Int32} {x2 : Int32} {x3 : Int32} {σ : Sg}  {r : Int32 × Sg} (h : f_X7_holds x1 x2 x3 σ = some r) (hr : RI X cX7_holds 5 r) : G X 5 0 [(0, .ref (X.ad 132)), (1, .int x1), (2, .int x2), (3, .int x3)] [] σ := by
  unfold f_X7_holds at h
  refine g_iload_n K 1 dX7_holds_0 rfl rfl ?_
  refine g_iconst (v := 0) K dX7_holds_1 ic_0 ?_
  refine g_bipush (v := 9) K dX7_holds_2 bp_9 ?_
  refine g_csi (As := [.int x1, .int 0, .int 9]) (rest := []) K (m_X7_in x1 0 9 σ) yv_X7_in ml_X7_66 rfl rfl rfl ⟨Nat.le_trans (Nat.le_of_ble_eq_true rfl) hR.1, Nat.le_trans (Nat.le_of_ble_eq_true rfl) hR.2⟩ (Nat.le_of_ble_eq_true rfl) dX7_holds_4 ?_
  refine g_if_eq (tgt := 17) K dX7_holds_7 (by decide) (fun c1 => ?_) (fun c1 => ?_)
  · replace h := bp c1 h
    refine g_iconst (v := (-1)) K dX7_holds_17 ic_m1 ?_
    exact hr _ _ _ _ dX7_holds_18 (rt2 h)
  · replace h := bn c1 h
    refine g_iload_n K 2 dX7_holds_10 rfl rfl ?_
    refine g_csi (As := [.int x2]) (rest := []) K (m_X7_isFirm x2 σ) yv_X7_isFirm ml_X7_93 rfl rfl rfl ⟨Nat.le_trans (Nat.le_of_ble_eq_true rfl) hR.1, Nat.le_trans (Nat.le_of_ble_eq_true rfl) hR.2⟩ (Nat.le_of_ble_eq_true rfl) dX7_holds_11 ?_
    refine g_if_ne (tgt := 19) K dX7_holds_14 (by decide) (fun c2 => ?_) (fun c2 => ?_)
    · replace h := bn c2 h
      refine g_iload_n K 3 dX7_holds_19 rfl rfl ?_
      refine g_iconst (v := 0) K dX7_holds_20 ic_0 ?_
      refine g_iconst (v := 2) K dX7_holds_21 ic_2 ?_
      refine g_csi (As := [.int x3, .int 0, .int 2]) (rest := []) K (m_X7_in x3 0 2 σ) yv_X7_in ml_X7_66 rfl rfl rfl ⟨Nat.le_trans (Nat.le_of_ble_eq_true rfl) hR.1, Nat.le_trans (Nat.le_of_ble_eq_true rfl) hR.2⟩ (Nat.le_of_ble_eq_true rfl) dX7_holds_22 ?_
      refine g_if_ne (tgt := 31) K dX7_holds_25 (by decide) (fun c3 => ?_) (fun c3 => ?_)
      · replace h := bn c3 h
        refine g_aload_n K 0 dX7_holds_31 rfl rfl ?_
        refine g_aload_n K 0 dX7_holds_32 rfl rfl ?_
        refine g_get (v := .int (σ.1 132 7)) K (e_ControlRegisterModel kd_132) ltN_132 rfl 7 (by decide) rfl fw_X7_114 u_X7 dX7_holds_33 ?_
        refine g_bipush (v := (-6)) K dX7_holds_36 bp_m6 ?_
        obtain ⟨q4, e5, h⟩ := ob h
        refine g_cvi (As := [.int (σ.1 132 7), .int (-6)]) (rest := []) K (m_X7_lay e5) yv_X7_lay ml_X7_89 rfl rfl rfl (e_ControlRegisterModel kd_132) ltN_132 rfl rfl ⟨Nat.le_trans (Nat.le_of_ble_eq_true rfl) hR.1, Nat.le_trans (Nat.le_of_ble_eq_true rfl) hR.2⟩ (Nat.le_of_ble_eq_true rfl) dX7_holds_38 ?_
        refine g_pop K dX7_holds_41 rfl ?_
        refine g_iload_n K 1 dX7_holds_42 rfl rfl ?_
        refine g_iload_n K 2 dX7_holds_43 rfl rfl ?_
        refine g_csi (As := [.int x1, .int x2]) (rest := []) K (m_X7_at x1 x2 q4.2) yv_X7_at ml_X7_78 rfl rfl rfl ⟨Nat.le_trans (Nat.le_of_ble_eq_true rfl) hR.1, Nat.le_trans (Nat.le_of_ble_eq_true rfl) hR.2⟩ (Nat.le_of_ble_eq_true rfl) dX7_holds_44 ?_
        refine g_istore (lv' := [(4, .int (f_X7_at x1 x2)), (0, .ref (X.ad 132)), (1, .int x1), (2, .int x2), (3, .int x3)]) K dX7_holds_47 (by decide) rfl ?_
        refine g_iload_n K 4 dX7_holds_49 rfl rfl ?_
        refine g_if_ne (tgt := 63) K dX7_holds_50 (by decide) (fun c6 => ?_) (fun c6 => ?_)
        · replace h := bn c6 h
          refine g_iload_n K 4 dX7_holds_63 rfl rfl ?_
          refine g_iconst (v := 1) K dX7_holds_64 ic_1 ?_
          refine g_icmp_ne (tgt := 78) K dX7_holds_65 (by decide) (fun c7 => ?_) (fun c7 => ?_)
          · replace h := bn c7 h
            refine g_aload_n K 1 dX7_holds_78 rfl rfl ?_
            refine g_get (v := .ref (X.ad 143)) K (e_ControlRegisterModel kd_132) ltN_132 rfl 12 (by decide) rfl fw_X7_40 u_X7 dX7_holds_79 ?_
            refine g_iload K 0 dX7_holds_82 rfl ?_
            obtain ⟨g8, h⟩ := og h
            refine g_zald K kd_143 ltN_143 g8 dX7_holds_84 ?_
            refine g_if_eq (tgt := 92) K dX7_holds_85 (by decide) (fun c9 => ?_) (fun c9 => ?_)
            · replace h := bp c9 h
              refine g_iconst (v := 0) K dX7_holds_92 ic_0 ?_
              exact hr _ _ _ _ dX7_holds_93 (rt2 h)
            · replace h := bn c9 h
              refine g_iconst (v := 1) K dX7_holds_88 ic_1 ?_
              refine g_goto (tgt := 93) K dX7_holds_89 (by decide) ?_
              exact hr _ _ _ _ dX7_holds_93 (rt2 h)
          · replace h := bp c7 h
            refine g_aload_n K 1 dX7_holds_68 rfl rfl ?_
            refine g_get (v := .ref (X.ad 142)) K (e_ControlRegisterModel kd_132) ltN_132 rfl 11 (by decide) rfl fw_X7_37 u_X7 dX7_holds_69 ?_
            refine g_iload K 0 dX7_holds_72 rfl ?_
            obtain ⟨g10, h⟩ := og h
            refine g_iald K kd_142 ltN_142 g10 dX7_holds_74 ?_
            refine g_goto (tgt := 93) K dX7_holds_75 (by decide) ?_
            exact hr _ _ _ _ dX7_holds_93 (rt2 h)
        · replace h := bp c6 h
          refine g_aload_n K 1 dX7_holds_53 rfl rfl ?_
          refine g_get (v := .ref (X.ad 141)) K (e_ControlRegisterModel kd_132) ltN_132 rfl 10 (by decide) rfl fw_X7_34 u_X7 dX7_holds_54 ?_
          refine g_iload K 0 dX7_holds_57 rfl ?_
          obtain ⟨g11, h⟩ := og h
          refine g_iald K kd_141 ltN_141 g11 dX7_holds_59 ?_
          refine g_goto (tgt := 93) K dX7_holds_60 (by decide) ?_
          exact hr _ _ _ _ dX7_holds_93 (rt2 h)
      · replace h := bp c3 h
        refine g_bipush (v := (-2)) K dX7_holds_28 bp_m2 ?_
        exact hr _ _ _ _ dX7_holds_30 (rt2 h)
    · replace h := bp c2 h
      refine g_iconst (v := (-1)) K dX7_holds_17 ic_m1 ?_
      exact hr _ _ _ _ dX7_holds_18 (rt2 h)
theorem m_X7_holds {x1 : Int32} {x2 : Int32} {x3 : Int32} {σ : Sg}  {r : Int32 × Sg} (h : f_X7_holds x1 x2 x3 σ = some r) : CI yX7_holds cX7_holds 5 (some .int) 3 68 (fun ad => [.ref (ad 132), .int x1, .int x2, .int x3]) σ r.1 r.2 :=
  CI.of (by decide) (fun _ => Nat.le_of_ble_eq_true rfl) (fun X K hR hr => w_X7_holds K hR h hr)
def f_X7_has (x0 : Int32) (x1 : Int32) : Int32 :=
  if ((x0 >>> (x1 &&& 31)) &&& 1) = 1 then
  (1)
  else
  (0)
set_option maxRecDepth 20000 in
set_option maxHeartbeats 4000000 in
theorem w_X7_has {X : Ctx} (K : Cok X cX7_has 2 RX7) (hR : 0 ≤ X.R.frames ∧ 0 ≤ X.R.locals) {x0 : Int32} {x1 : Int32} {σ : Sg}  {r : Int32} (h : f_X7_has x0 x1 = r) (hr : RZ X cX7_has 2 (r, σ)) : G X 2 0 [(0, .int x0), (1, .int x1)] [] σ := by
  unfold f_X7_has at h
  refine g_iload_n K 0 dX7_has_0 rfl rfl ?_
  refine g_iload_n K 1 dX7_has_1 rfl rfl ?_
  refine g_ishr K dX7_has_2 ?_
  refine g_iconst (v := 1) K dX7_has_3 ic_1 ?_
  refine g_iand K dX7_has_4 ?_
  refine g_iconst (v := 1) K dX7_has_5 ic_1 ?_
  refine g_icmp_ne (tgt := 13) K dX7_has_6 (by decide) (fun c1 => ?_) (fun c1 => ?_)
  · replace h := bn c1 h
    refine g_iconst (v := 0) K dX7_has_13 ic_0 ?_
    exact hr _ _ _ _ dX7_has_14 (rt0 h) nb_0
  · replace h := bp c1 h
    refine g_iconst (v := 1) K dX7_has_9 ic_1 ?_
    refine g_goto (tgt := 14) K dX7_has_10 (by decide) ?_
    exact hr _ _ _ _ dX7_has_14 (rt0 h) nb_1
theorem m_X7_has (x0 : Int32) (x1 : Int32) (σ : Sg)  : CI yX7_has cX7_has 2 (some .boolean) 0 0 (fun ad => [.int x0, .int x1]) σ (f_X7_has x0 x1) σ :=
  CZ.of (by decide) (fun _ => Nat.le_of_ble_eq_true rfl) (fun X K hR hr => w_X7_has K hR rfl hr)
theorem nz_X7_has (x0 : Int32) (x1 : Int32) : narrow .boolean (.int (f_X7_has x0 x1)) = .int (f_X7_has x0 x1) := by
  unfold f_X7_has
  (repeat' split) <;> first | rfl | exact nz_X7_in _ _ _
def f_X7_isWith (x0 : Int32) (x1 : Int32) (x2 : Int32) : Int32 :=
  if x0 = x1 then
  (1)
  else
  (if x0 < 4 then
  (0)
  else
  (if (f_X7_has x2 (x0 - 4)) = 0 then
  (0)
  else
  (1)))
set_option maxRecDepth 20000 in
set_option maxHeartbeats 4000000 in
theorem w_X7_isWith {X : Ctx} (K : Cok X cX7_isWith 3 RX7) (hR : 1 ≤ X.R.frames ∧ 21 ≤ X.R.locals) {x0 : Int32} {x1 : Int32} {x2 : Int32} {σ : Sg}  {r : Int32} (h : f_X7_isWith x0 x1 x2 = r) (hr : RZ X cX7_isWith 3 (r, σ)) : G X 3 0 [(0, .int x0), (1, .int x1), (2, .int x2)] [] σ := by
  unfold f_X7_isWith at h
  refine g_iload_n K 0 dX7_isWith_0 rfl rfl ?_
  refine g_iload_n K 1 dX7_isWith_1 rfl rfl ?_
  refine g_icmp_eq (tgt := 20) K dX7_isWith_2 (by decide) (fun c1 => ?_) (fun c1 => ?_)
  · replace h := bp c1 h
    refine g_iconst (v := 1) K dX7_isWith_20 ic_1 ?_
    refine g_goto (tgt := 25) K dX7_isWith_21 (by decide) ?_
    exact hr _ _ _ _ dX7_isWith_25 (rt0 h) nb_1
  · replace h := bn c1 h
    refine g_iload_n K 0 dX7_isWith_5 rfl rfl ?_
    refine g_iconst (v := 4) K dX7_isWith_6 ic_4 ?_
    refine g_icmp_lt (tgt := 24) K dX7_isWith_7 (by decide) (fun c2 => ?_) (fun c2 => ?_)
    · replace h := bp c2 h
      refine g_iconst (v := 0) K dX7_isWith_24 ic_0 ?_
      exact hr _ _ _ _ dX7_isWith_25 (rt0 h) nb_0
    · replace h := bn c2 h
      refine g_iload_n K 2 dX7_isWith_10 rfl rfl ?_
      refine g_iload_n K 0 dX7_isWith_11 rfl rfl ?_
      refine g_iconst (v := 4) K dX7_isWith_12 ic_4 ?_
      refine g_isub K dX7_isWith_13 ?_
      refine g_csi (As := [.int x2, .int (x0 - 4)]) (rest := []) K (m_X7_has x2 (x0 - 4) σ) yv_X7_has ml_X7_117 rfl rfl rfl ⟨Nat.le_trans (Nat.le_of_ble_eq_true rfl) hR.1, Nat.le_trans (Nat.le_of_ble_eq_true rfl) hR.2⟩ (Nat.le_of_ble_eq_true rfl) dX7_isWith_14 ?_
      refine g_if_eq (tgt := 24) K dX7_isWith_17 (by decide) (fun c3 => ?_) (fun c3 => ?_)
      · replace h := bp c3 h
        refine g_iconst (v := 0) K dX7_isWith_24 ic_0 ?_
        exact hr _ _ _ _ dX7_isWith_25 (rt0 h) nb_0
      · replace h := bn c3 h
        refine g_iconst (v := 1) K dX7_isWith_20 ic_1 ?_
        refine g_goto (tgt := 25) K dX7_isWith_21 (by decide) ?_
        exact hr _ _ _ _ dX7_isWith_25 (rt0 h) nb_1
theorem m_X7_isWith (x0 : Int32) (x1 : Int32) (x2 : Int32) (σ : Sg)  : CI yX7_isWith cX7_isWith 3 (some .boolean) 1 21 (fun ad => [.int x0, .int x1, .int x2]) σ (f_X7_isWith x0 x1 x2) σ :=
  CZ.of (by decide) (fun _ => Nat.le_of_ble_eq_true rfl) (fun X K hR hr => w_X7_isWith K hR rfl hr)
theorem nz_X7_isWith (x0 : Int32) (x1 : Int32) (x2 : Int32) : narrow .boolean (.int (f_X7_isWith x0 x1 x2)) = .int (f_X7_isWith x0 x1 x2) := by
  unfold f_X7_isWith
  (repeat' split) <;> first | rfl | exact nz_X7_in _ _ _
def L_X7_block_6 (x1 : Int32) (x2 : Int32) (x3 : Int32) (σ : Sg) : Nat → Int32 → Int32 → Option (Int32 × Int32)
  | 0, _, _ => none
  | n + 1, x4, x5 =>
    if 9 ≤ x5 then
    (some (x4, x5))
    else
    (Option.bind (if (f_X7_isWith x5 x1 x3) = 0 then (some 0) else (if inb (f_X7_at x5 x2) 50 then (some (σ.1 142 (f_X7_at x5 x2).toNatClampNeg)) else none) : Option Int32) (fun v5 =>
    L_X7_block_6 x1 x2 x3 σ n (x4 + v5) (x5 + 1)))
set_option maxRecDepth 20000 in
set_option maxHeartbeats 4000000 in
theorem l_X7_block_6 {X : Ctx} (K : Cok X cX7_block 6 RX7) (hR : 2 ≤ X.R.frames ∧ 43 ≤ X.R.locals) {x1 : Int32} {x2 : Int32} {x3 : Int32} {σ : Sg}  :
    ∀ (n : Nat) (x4 : Int32) (x5 : Int32) (o : (Int32 × Int32)), L_X7_block_6 x1 x2 x3 σ n x4 x5 = some o → G X 6 49 [(0, .ref (X.ad 132)), (1, .int x1), (2, .int x2), (3, .int x3), (4, .int o.1), (5, .int o.2)] [] σ → G X 6 6 [(0, .ref (X.ad 132)), (1, .int x1), (2, .int x2), (3, .int x3), (4, .int x4), (5, .int x5)] [] σ := by
  intro n
  induction n with
  | zero => intro x4 x5 o h; exact absurd h (by unfold L_X7_block_6; intro h; cases h)
  | succ n ih =>
    intro x4 x5 o h hexit
    unfold L_X7_block_6 at h
    refine g_iload K 5 dX7_block_6 rfl ?_
    refine g_bipush (v := 9) K dX7_block_8 bp_9 ?_
    refine g_icmp_ge (tgt := 49) K dX7_block_10 (by decide) (fun c1 => ?_) (fun c1 => ?_)
    · replace h := bp c1 h
      refine g_sub [0, 1, 2, 3, 4, 5] rfl ?_
      obtain rfl := Option.some.inj h
      exact hexit
    · replace h := bn c1 h
      refine g_iload K 4 dX7_block_13 rfl ?_
      refine g_iload K 5 dX7_block_15 rfl ?_
      refine g_iload_n K 1 dX7_block_17 rfl rfl ?_
      refine g_iload_n K 3 dX7_block_18 rfl rfl ?_
      refine g_csi (As := [.int x5, .int x1, .int x3]) (rest := [.int x4]) K (m_X7_isWith x5 x1 x3 σ) yv_X7_isWith ml_X7_120 rfl rfl rfl ⟨Nat.le_trans (Nat.le_of_ble_eq_true rfl) hR.1, Nat.le_trans (Nat.le_of_ble_eq_true rfl) hR.2⟩ (Nat.le_of_ble_eq_true rfl) dX7_block_19 ?_
      refine bd_cut h (P := (fun v5 => G X 6 40 [(0, .ref (X.ad 132)), (1, .int x1), (2, .int x2), (3, .int x3), (4, .int x4), (5, .int x5)] [.int v5, .int x4] σ)) (fun v5 h => ?_) (fun tail_4 => ?_)
      · refine g_iadd K dX7_block_40 ?_
        refine g_istore (lv' := [(4, .int (x4 + v5)), (0, .ref (X.ad 132)), (1, .int x1), (2, .int x2), (3, .int x3), (5, .int x5)]) K dX7_block_41 (by decide) rfl ?_
        refine g_iinc (lv' := [(5, .int (x5 + 1)), (4, .int (x4 + v5)), (0, .ref (X.ad 132)), (1, .int x1), (2, .int x2), (3, .int x3)]) K 5 dX7_block_43 rfl (by rw [ic_1]) (by decide) rfl ?_
        refine g_goto (tgt := 6) K dX7_block_46 (by decide) ?_
        refine g_sub [2, 3, 4, 5, 1, 0] rfl ?_
        exact ih _ _ _ h hexit
      · refine g_if_eq (tgt := 39) K dX7_block_22 (by decide) (fun c6 => ?_) (fun c6 => ?_)
        · replace h := jbp c6 h
          refine g_iconst (v := 0) K dX7_block_39 ic_0 ?_
          exact tail_4 _ h
        · replace h := jbn c6 h
          refine g_aload_n K 0 dX7_block_25 rfl rfl ?_
          refine g_get (v := .ref (X.ad 142)) K (e_ControlRegisterModel kd_132) ltN_132 rfl 11 (by decide) rfl fw_X7_37 u_X7 dX7_block_26 ?_
          refine g_iload K 5 dX7_block_29 rfl ?_
          refine g_iload_n K 2 dX7_block_31 rfl rfl ?_
          refine g_csi (As := [.int x5, .int x2]) (rest := [.ref (X.ad 142), .int x4]) K (m_X7_at x5 x2 σ) yv_X7_at ml_X7_78 rfl rfl rfl ⟨Nat.le_trans (Nat.le_of_ble_eq_true rfl) hR.1, Nat.le_trans (Nat.le_of_ble_eq_true rfl) hR.2⟩ (Nat.le_of_ble_eq_true rfl) dX7_block_32 ?_
          obtain ⟨g7, h⟩ := ogb h
          refine g_iald K kd_142 ltN_142 g7 dX7_block_35 ?_
          refine g_goto (tgt := 40) K dX7_block_36 (by decide) ?_
          exact tail_4 _ h
def f_X7_block (x1 : Int32) (x2 : Int32) (x3 : Int32) (σ : Sg) : Option Int32 :=
  Option.bind (L_X7_block_6 x1 x2 x3 σ FU 0 0) (fun o1 =>
  some o1.1)
set_option maxRecDepth 20000 in
set_option maxHeartbeats 4000000 in
theorem w_X7_block {X : Ctx} (K : Cok X cX7_block 6 RX7) (hR : 2 ≤ X.R.frames ∧ 43 ≤ X.R.locals) {x1 : Int32} {x2 : Int32} {x3 : Int32} {σ : Sg}  {r : Int32} (h : f_X7_block x1 x2 x3 σ = some r) (hr : RI X cX7_block 6 (r, σ)) : G X 6 0 [(0, .ref (X.ad 132)), (1, .int x1), (2, .int x2), (3, .int x3)] [] σ := by
  unfold f_X7_block at h
  refine g_iconst (v := 0) K dX7_block_0 ic_0 ?_
  refine g_istore (lv' := [(4, .int 0), (0, .ref (X.ad 132)), (1, .int x1), (2, .int x2), (3, .int x3)]) K dX7_block_1 (by decide) rfl ?_
  refine g_iconst (v := 0) K dX7_block_3 ic_0 ?_
  refine g_istore (lv' := [(5, .int 0), (4, .int 0), (0, .ref (X.ad 132)), (1, .int x1), (2, .int x2), (3, .int x3)]) K dX7_block_4 (by decide) rfl ?_
  obtain ⟨o1, e2, h⟩ := ob h
  refine g_sub [2, 3, 4, 5, 1, 0] rfl ?_
  refine l_X7_block_6 K hR _ _ _ _ e2 ?_
  refine g_iload K 4 dX7_block_49 rfl ?_
  exact hr _ _ _ _ dX7_block_51 (rt1 h)
theorem m_X7_block {x1 : Int32} {x2 : Int32} {x3 : Int32} {σ : Sg}  {r : Int32} (h : f_X7_block x1 x2 x3 σ = some r) : CI yX7_block cX7_block 6 (some .int) 2 43 (fun ad => [.ref (ad 132), .int x1, .int x2, .int x3]) σ r σ :=
  CI.of (by decide) (fun _ => Nat.le_of_ble_eq_true rfl) (fun X K hR hr => w_X7_block K hR h hr)
def L_X7_falls_33 (x1 : Int32) (x2 : Int32) (x3 : Int32) (x4 : Int32) (σ : Sg) : Nat → Int32 → Int32 → Int32 → Option (Int32 × Int32 × Int32)
  | 0, _, _, _ => none
  | n + 1, x5, x6, x7 =>
    if 9 ≤ x7 then
    (some (x5, x6, x7))
    else
    (if (f_X7_isWith x7 x1 x3) = 0 then
    (Option.bind (if x6 = 0 then (some 0) else (if inb (f_X7_at x7 x2) 50 then (if (σ.1 143 (f_X7_at x7 x2).toNatClampNeg) = 0 then (some 1) else (some 0)) else none) : Option Int32) (fun v7 =>
    Option.bind (if x5 = 0 then (some 0) else (if inb (f_X7_at x7 x2) 50 then (if x4 ≤ (σ.1 142 (f_X7_at x7 x2).toNatClampNeg) then (some 0) else (some 1)) else none) : Option Int32) (fun v15 =>
    L_X7_falls_33 x1 x2 x3 x4 σ n v15 v7 (x7 + 1))))
    else
    (L_X7_falls_33 x1 x2 x3 x4 σ n x5 x6 (x7 + 1)))
set_option maxRecDepth 20000 in
set_option maxHeartbeats 4000000 in
theorem l_X7_falls_33 {X : Ctx} (K : Cok X cX7_falls 8 RX7) (hR : 3 ≤ X.R.frames ∧ 68 ≤ X.R.locals) {x1 : Int32} {x2 : Int32} {x3 : Int32} {x4 : Int32} {σ : Sg}  :
    ∀ (n : Nat) (x5 : Int32) (x6 : Int32) (x7 : Int32) (o : (Int32 × Int32 × Int32)), L_X7_falls_33 x1 x2 x3 x4 σ n x5 x6 x7 = some o → G X 8 110 [(0, .ref (X.ad 132)), (1, .int x1), (2, .int x2), (3, .int x3), (4, .int x4), (5, .int o.1), (6, .int o.2.1), (7, .int o.2.2)] [] σ → G X 8 33 [(0, .ref (X.ad 132)), (1, .int x1), (2, .int x2), (3, .int x3), (4, .int x4), (5, .int x5), (6, .int x6), (7, .int x7)] [] σ := by
  intro n
  induction n with
  | zero => intro x5 x6 x7 o h; exact absurd h (by unfold L_X7_falls_33; intro h; cases h)
  | succ n ih =>
    intro x5 x6 x7 o h hexit
    unfold L_X7_falls_33 at h
    refine g_iload K 7 dX7_falls_33 rfl ?_
    refine g_bipush (v := 9) K dX7_falls_35 bp_9 ?_
    refine g_icmp_ge (tgt := 110) K dX7_falls_37 (by decide) (fun c1 => ?_) (fun c1 => ?_)
    · replace h := bp c1 h
      refine g_sub [0, 1, 2, 3, 4, 5, 6, 7] rfl ?_
      obtain rfl := Option.some.inj h
      exact hexit
    · replace h := bn c1 h
      refine g_iload K 7 dX7_falls_40 rfl ?_
      refine g_iload_n K 1 dX7_falls_42 rfl rfl ?_
      refine g_iload_n K 3 dX7_falls_43 rfl rfl ?_
      refine g_csi (As := [.int x7, .int x1, .int x3]) (rest := []) K (m_X7_isWith x7 x1 x3 σ) yv_X7_isWith ml_X7_120 rfl rfl rfl ⟨Nat.le_trans (Nat.le_of_ble_eq_true rfl) hR.1, Nat.le_trans (Nat.le_of_ble_eq_true rfl) hR.2⟩ (Nat.le_of_ble_eq_true rfl) dX7_falls_44 ?_
      refine g_if_ne (tgt := 104) K dX7_falls_47 (by decide) (fun c2 => ?_) (fun c2 => ?_)
      · replace h := bn c2 h
        refine g_iinc (lv' := [(7, .int (x7 + 1)), (0, .ref (X.ad 132)), (1, .int x1), (2, .int x2), (3, .int x3), (4, .int x4), (5, .int x5), (6, .int x6)]) K 7 dX7_falls_104 rfl (by rw [ic_1]) (by decide) rfl ?_
        refine g_goto (tgt := 33) K dX7_falls_107 (by decide) ?_
        refine g_sub [1, 2, 3, 4, 5, 6, 7, 0] rfl ?_
        exact ih _ _ _ _ h hexit
      · replace h := bp c2 h
        refine g_iload K 6 dX7_falls_50 rfl ?_
        refine bd_cut h (P := (fun v7 => G X 8 74 [(0, .ref (X.ad 132)), (1, .int x1), (2, .int x2), (3, .int x3), (4, .int x4), (5, .int x5), (6, .int x6), (7, .int x7)] [.int v7] σ)) (fun v7 h => ?_) (fun tail_6 => ?_)
        · refine g_istore (lv' := [(6, .int v7), (0, .ref (X.ad 132)), (1, .int x1), (2, .int x2), (3, .int x3), (4, .int x4), (5, .int x5), (7, .int x7)]) K dX7_falls_74 (by decide) rfl ?_
          refine g_iload K 6 dX7_falls_76 rfl ?_
          refine bd_cut h (P := (fun v15 => G X 8 102 [(6, .int v7), (0, .ref (X.ad 132)), (1, .int x1), (2, .int x2), (3, .int x3), (4, .int x4), (5, .int x5), (7, .int x7)] [.int v15] σ)) (fun v15 h => ?_) (fun tail_14 => ?_)
          · refine g_istore (lv' := [(5, .int v15), (6, .int v7), (0, .ref (X.ad 132)), (1, .int x1), (2, .int x2), (3, .int x3), (4, .int x4), (7, .int x7)]) K dX7_falls_102 (by decide) rfl ?_
            refine g_iinc (lv' := [(7, .int (x7 + 1)), (5, .int v15), (6, .int v7), (0, .ref (X.ad 132)), (1, .int x1), (2, .int x2), (3, .int x3), (4, .int x4)]) K 7 dX7_falls_104 rfl (by rw [ic_1]) (by decide) rfl ?_
            refine g_goto (tgt := 33) K dX7_falls_107 (by decide) ?_
            refine g_sub [3, 4, 5, 6, 7, 1, 2, 0] rfl ?_
            exact ih _ _ _ _ h hexit
          · refine g_if_eq (tgt := 101) K dX7_falls_78 (by decide) (fun c16 => ?_) (fun c16 => ?_)
            · replace h := jbp c16 h
              refine g_iconst (v := 0) K dX7_falls_101 ic_0 ?_
              exact tail_14 _ h
            · replace h := jbn c16 h
              refine g_iload K 5 dX7_falls_81 rfl ?_
              refine g_aload_n K 1 dX7_falls_83 rfl rfl ?_
              refine g_get (v := .ref (X.ad 142)) K (e_ControlRegisterModel kd_132) ltN_132 rfl 11 (by decide) rfl fw_X7_37 u_X7 dX7_falls_84 ?_
              refine g_iload K 7 dX7_falls_87 rfl ?_
              refine g_iload_n K 3 dX7_falls_89 rfl rfl ?_
              refine g_csi (As := [.int x7, .int x2]) (rest := [.ref (X.ad 142), .int x4]) K (m_X7_at x7 x2 σ) yv_X7_at ml_X7_78 rfl rfl rfl ⟨Nat.le_trans (Nat.le_of_ble_eq_true rfl) hR.1, Nat.le_trans (Nat.le_of_ble_eq_true rfl) hR.2⟩ (Nat.le_of_ble_eq_true rfl) dX7_falls_90 ?_
              obtain ⟨g17, h⟩ := ogb h
              refine g_iald K kd_142 ltN_142 g17 dX7_falls_93 ?_
              refine g_icmp_le (tgt := 101) K dX7_falls_94 (by decide) (fun c18 => ?_) (fun c18 => ?_)
              · replace h := jbp c18 h
                refine g_iconst (v := 0) K dX7_falls_101 ic_0 ?_
                exact tail_14 _ h
              · replace h := jbn c18 h
                refine g_iconst (v := 1) K dX7_falls_97 ic_1 ?_
                refine g_goto (tgt := 102) K dX7_falls_98 (by decide) ?_
                exact tail_14 _ h
        · refine g_if_eq (tgt := 73) K dX7_falls_52 (by decide) (fun c8 => ?_) (fun c8 => ?_)
          · replace h := jbp c8 h
            refine g_iconst (v := 0) K dX7_falls_73 ic_0 ?_
            exact tail_6 _ h
          · replace h := jbn c8 h
            refine g_aload_n K 0 dX7_falls_55 rfl rfl ?_
            refine g_get (v := .ref (X.ad 143)) K (e_ControlRegisterModel kd_132) ltN_132 rfl 12 (by decide) rfl fw_X7_40 u_X7 dX7_falls_56 ?_
            refine g_iload K 7 dX7_falls_59 rfl ?_
            refine g_iload_n K 2 dX7_falls_61 rfl rfl ?_
            refine g_csi (As := [.int x7, .int x2]) (rest := [.ref (X.ad 143)]) K (m_X7_at x7 x2 σ) yv_X7_at ml_X7_78 rfl rfl rfl ⟨Nat.le_trans (Nat.le_of_ble_eq_true rfl) hR.1, Nat.le_trans (Nat.le_of_ble_eq_true rfl) hR.2⟩ (Nat.le_of_ble_eq_true rfl) dX7_falls_62 ?_
            obtain ⟨g9, h⟩ := ogb h
            refine g_zald K kd_143 ltN_143 g9 dX7_falls_65 ?_
            refine g_if_ne (tgt := 73) K dX7_falls_66 (by decide) (fun c10 => ?_) (fun c10 => ?_)
            · replace h := jbn c10 h
              refine g_iconst (v := 0) K dX7_falls_73 ic_0 ?_
              exact tail_6 _ h
            · replace h := jbp c10 h
              refine g_iconst (v := 1) K dX7_falls_69 ic_1 ?_
              refine g_goto (tgt := 74) K dX7_falls_70 (by decide) ?_
              exact tail_6 _ h
def f_X7_falls (x1 : Int32) (x2 : Int32) (x3 : Int32) (σ : Sg) : Option Int32 :=
  Option.bind (f_X7_block x1 x2 x3 σ) (fun r1 =>
  if inb 1 3 then
  (jn (if r1 < (σ.1 139 (1 : Int32).toNatClampNeg) then (0) else (1) : Int32) (fun v6 =>
  Option.bind (L_X7_falls_33 x1 x2 x3 r1 σ FU v6 1 0) (fun o8 =>
  if o8.2.1 = 0 then
  (some 0)
  else
  (if inb 0 3 then
  (if (σ.1 139 (0 : Int32).toNatClampNeg) < r1 then
  (some 1)
  else
  (if o8.1 = 0 then
  (some 0)
  else
  (some 1)))
  else none))))
  else none)
set_option maxRecDepth 20000 in
set_option maxHeartbeats 4000000 in
theorem w_X7_falls {X : Ctx} (K : Cok X cX7_falls 8 RX7) (hR : 3 ≤ X.R.frames ∧ 68 ≤ X.R.locals) {x1 : Int32} {x2 : Int32} {x3 : Int32} {σ : Sg}  {r : Int32} (h : f_X7_falls x1 x2 x3 σ = some r) (hr : RZ X cX7_falls 8 (r, σ)) : G X 8 0 [(0, .ref (X.ad 132)), (1, .int x1), (2, .int x2), (3, .int x3)] [] σ := by
  unfold f_X7_falls at h
  refine g_aload_n K 0 dX7_falls_0 rfl rfl ?_
  refine g_iload_n K 1 dX7_falls_1 rfl rfl ?_
  refine g_iload_n K 2 dX7_falls_2 rfl rfl ?_
  refine g_iload_n K 3 dX7_falls_3 rfl rfl ?_
  obtain ⟨r1, e2, h⟩ := ob h
  refine g_cvi (As := [.int x1, .int x2, .int x3]) (rest := []) K (m_X7_block e2) yv_X7_block ml_X7_123 rfl rfl rfl (e_ControlRegisterModel kd_132) ltN_132 rfl rfl ⟨Nat.le_trans (Nat.le_of_ble_eq_true rfl) hR.1, Nat.le_trans (Nat.le_of_ble_eq_true rfl) hR.2⟩ (Nat.le_of_ble_eq_true rfl) dX7_falls_4 ?_
  refine g_istore (lv' := [(4, .int r1), (0, .ref (X.ad 132)), (1, .int x1), (2, .int x2), (3, .int x3)]) K dX7_falls_7 (by decide) rfl ?_
  refine g_iload K 0 dX7_falls_9 rfl ?_
  refine g_aload_n K 1 dX7_falls_11 rfl rfl ?_
  refine g_get (v := .ref (X.ad 139)) K (e_ControlRegisterModel kd_132) ltN_132 rfl 8 (by decide) rfl fw_X7_28 u_X7 dX7_falls_12 ?_
  refine g_iconst (v := 1) K dX7_falls_15 ic_1 ?_
  obtain ⟨g3, h⟩ := og h
  refine g_iald K kd_139 ltN_139 g3 dX7_falls_16 ?_
  refine jn_cut h (P := (fun v6 => G X 8 25 [(4, .int r1), (0, .ref (X.ad 132)), (1, .int x1), (2, .int x2), (3, .int x3)] [.int v6] σ)) (fun v6 h => ?_) (fun tail_5 => ?_)
  · refine g_istore (lv' := [(5, .int v6), (4, .int r1), (0, .ref (X.ad 132)), (1, .int x1), (2, .int x2), (3, .int x3)]) K dX7_falls_25 (by decide) rfl ?_
    refine g_iconst (v := 1) K dX7_falls_27 ic_1 ?_
    refine g_istore (lv' := [(6, .int 1), (5, .int v6), (4, .int r1), (0, .ref (X.ad 132)), (1, .int x1), (2, .int x2), (3, .int x3)]) K dX7_falls_28 (by decide) rfl ?_
    refine g_iconst (v := 0) K dX7_falls_30 ic_0 ?_
    refine g_istore (lv' := [(7, .int 0), (6, .int 1), (5, .int v6), (4, .int r1), (0, .ref (X.ad 132)), (1, .int x1), (2, .int x2), (3, .int x3)]) K dX7_falls_31 (by decide) rfl ?_
    obtain ⟨o8, e9, h⟩ := ob h
    refine g_sub [4, 5, 6, 7, 3, 2, 1, 0] rfl ?_
    refine l_X7_falls_33 K hR _ _ _ _ _ e9 ?_
    refine g_iload K 6 dX7_falls_110 rfl ?_
    refine g_if_eq (tgt := 135) K dX7_falls_112 (by decide) (fun c10 => ?_) (fun c10 => ?_)
    · replace h := bp c10 h
      refine g_iconst (v := 0) K dX7_falls_135 ic_0 ?_
      exact hr _ _ _ _ dX7_falls_136 (rt1 h) nb_0
    · replace h := bn c10 h
      refine g_iload K 4 dX7_falls_115 rfl ?_
      refine g_aload_n K 0 dX7_falls_117 rfl rfl ?_
      refine g_get (v := .ref (X.ad 139)) K (e_ControlRegisterModel kd_132) ltN_132 rfl 8 (by decide) rfl fw_X7_28 u_X7 dX7_falls_118 ?_
      refine g_iconst (v := 0) K dX7_falls_121 ic_0 ?_
      obtain ⟨g11, h⟩ := og h
      refine g_iald K kd_139 ltN_139 g11 dX7_falls_122 ?_
      refine g_icmp_gt (tgt := 131) K dX7_falls_123 (by decide) (fun c12 => ?_) (fun c12 => ?_)
      · replace h := bp c12 h
        refine g_iconst (v := 1) K dX7_falls_131 ic_1 ?_
        refine g_goto (tgt := 136) K dX7_falls_132 (by decide) ?_
        exact hr _ _ _ _ dX7_falls_136 (rt1 h) nb_1
      · replace h := bn c12 h
        refine g_iload K 5 dX7_falls_126 rfl ?_
        refine g_if_eq (tgt := 135) K dX7_falls_128 (by decide) (fun c13 => ?_) (fun c13 => ?_)
        · replace h := bp c13 h
          refine g_iconst (v := 0) K dX7_falls_135 ic_0 ?_
          exact hr _ _ _ _ dX7_falls_136 (rt1 h) nb_0
        · replace h := bn c13 h
          refine g_iconst (v := 1) K dX7_falls_131 ic_1 ?_
          refine g_goto (tgt := 136) K dX7_falls_132 (by decide) ?_
          exact hr _ _ _ _ dX7_falls_136 (rt1 h) nb_1
  · refine g_icmp_lt (tgt := 24) K dX7_falls_17 (by decide) (fun c7 => ?_) (fun c7 => ?_)
    · replace h := jpp c7 h
      refine g_iconst (v := 0) K dX7_falls_24 ic_0 ?_
      exact tail_5 _ h
    · replace h := jpn c7 h
      refine g_iconst (v := 1) K dX7_falls_20 ic_1 ?_
      refine g_goto (tgt := 25) K dX7_falls_21 (by decide) ?_
      exact tail_5 _ h
theorem m_X7_falls {x1 : Int32} {x2 : Int32} {x3 : Int32} {σ : Sg}  {r : Int32} (h : f_X7_falls x1 x2 x3 σ = some r) : CI yX7_falls cX7_falls 8 (some .boolean) 3 68 (fun ad => [.ref (ad 132), .int x1, .int x2, .int x3]) σ r σ :=
  CZ.of (by decide) (fun _ => Nat.le_of_ble_eq_true rfl) (fun X K hR hr => w_X7_falls K hR h hr)
def L_X7_control_9 (x1 : Int32) (x2 : Int32) : Nat → Int32 → Sg → Option (Int32 × Sg)
  | 0, _, _ => none
  | n + 1, x3, σ =>
    if 5 ≤ x3 then
    (some (x3, σ))
    else
    (if inb x3 5 then
    (jn (setR σ 144 (upd (σ.1 144) x3.toNatClampNeg (-6))) (fun σ3 =>
    L_X7_control_9 x1 x2 n (x3 + 1) σ3))
    else none)
set_option maxRecDepth 20000 in
set_option maxHeartbeats 4000000 in
theorem l_X7_control_9 {X : Ctx} (K : Cok X cX7_control 6 RX7) (hR : 4 ≤ X.R.frames ∧ 95 ≤ X.R.locals) {x1 : Int32} {x2 : Int32}  :
    ∀ (n : Nat) (x3 : Int32) (σ : Sg) (o : (Int32 × Sg)), L_X7_control_9 x1 x2 n x3 σ = some o → G X 6 28 [(0, .ref (X.ad 132)), (1, .int x1), (2, .int x2), (3, .int o.1)] [] o.2 → G X 6 9 [(0, .ref (X.ad 132)), (1, .int x1), (2, .int x2), (3, .int x3)] [] σ := by
  intro n
  induction n with
  | zero => intro x3 σ o h; exact absurd h (by unfold L_X7_control_9; intro h; cases h)
  | succ n ih =>
    intro x3 σ o h hexit
    unfold L_X7_control_9 at h
    refine g_iload_n K 3 dX7_control_9 rfl rfl ?_
    refine g_iconst (v := 5) K dX7_control_10 ic_5 ?_
    refine g_icmp_ge (tgt := 28) K dX7_control_11 (by decide) (fun c1 => ?_) (fun c1 => ?_)
    · replace h := bp c1 h
      refine g_sub [0, 1, 2, 3] rfl ?_
      obtain rfl := Option.some.inj h
      exact hexit
    · replace h := bn c1 h
      refine g_aload_n K 0 dX7_control_14 rfl rfl ?_
      refine g_get (v := .ref (X.ad 144)) K (e_ControlRegisterModel kd_132) ltN_132 rfl 13 (by decide) rfl fw_X7_44 u_X7 dX7_control_15 ?_
      refine g_iload_n K 3 dX7_control_18 rfl rfl ?_
      refine g_bipush (v := (-6)) K dX7_control_19 bp_m6 ?_
      obtain ⟨g2, h⟩ := og h
      refine g_iast K kd_144 ltN_144 g2 dX7_control_21 (fun σ3 s4 => ?_)
      replace h := jn_at s4 h
      refine g_iinc (lv' := [(3, .int (x3 + 1)), (0, .ref (X.ad 132)), (1, .int x1), (2, .int x2)]) K 3 dX7_control_22 rfl (by rw [ic_1]) (by decide) rfl ?_
      refine g_goto (tgt := 9) K dX7_control_25 (by decide) ?_
      refine g_sub [1, 2, 3, 0] rfl ?_
      exact ih _ _ _ h hexit
def L_X7_control_41 (x1 : Int32) (x2 : Int32) (x3 : Int32) : Nat → Int32 → Int32 → Sg → Option (Int32 × Int32 × Sg)
  | 0, _, _, _ => none
  | n + 1, x4, x5, σ =>
    if 5 ≤ x5 then
    (some (x4, x5, σ))
    else
    (if (f_X7_has x2 x5) = 0 then
    (Option.bind (f_X7_falls x1 x5 x2 σ) (fun r3 =>
    if r3 = 0 then
    (L_X7_control_41 x1 x2 x3 n x4 (x5 + 1) σ)
    else
    (if inb x5 5 then
    (jn (setR σ 144 (upd (σ.1 144) x5.toNatClampNeg x3)) (fun σ7 =>
    jn (setR σ7 132 (upd (σ7.1 132) 14 x3)) (fun σ9 =>
    L_X7_control_41 x1 x2 x3 n (x4 ||| (1 <<< (x5 &&& 31))) (x5 + 1) σ9)))
    else none)))
    else
    (L_X7_control_41 x1 x2 x3 n x4 (x5 + 1) σ))
set_option maxRecDepth 20000 in
set_option maxHeartbeats 4000000 in
theorem l_X7_control_41 {X : Ctx} (K : Cok X cX7_control 6 RX7) (hR : 4 ≤ X.R.frames ∧ 95 ≤ X.R.locals) {x1 : Int32} {x2 : Int32} {x3 : Int32}  :
    ∀ (n : Nat) (x4 : Int32) (x5 : Int32) (σ : Sg) (o : (Int32 × Int32 × Sg)), L_X7_control_41 x1 x2 x3 n x4 x5 σ = some o → G X 6 95 [(0, .ref (X.ad 132)), (1, .int x1), (2, .int x2), (3, .int x3), (4, .int o.1), (5, .int o.2.1)] [] o.2.2 → G X 6 41 [(0, .ref (X.ad 132)), (1, .int x1), (2, .int x2), (3, .int x3), (4, .int x4), (5, .int x5)] [] σ := by
  intro n
  induction n with
  | zero => intro x4 x5 σ o h; exact absurd h (by unfold L_X7_control_41; intro h; cases h)
  | succ n ih =>
    intro x4 x5 σ o h hexit
    unfold L_X7_control_41 at h
    refine g_iload K 5 dX7_control_41 rfl ?_
    refine g_iconst (v := 5) K dX7_control_43 ic_5 ?_
    refine g_icmp_ge (tgt := 95) K dX7_control_44 (by decide) (fun c1 => ?_) (fun c1 => ?_)
    · replace h := bp c1 h
      refine g_sub [0, 1, 2, 3, 4, 5] rfl ?_
      obtain rfl := Option.some.inj h
      exact hexit
    · replace h := bn c1 h
      refine g_iload_n K 2 dX7_control_47 rfl rfl ?_
      refine g_iload K 5 dX7_control_48 rfl ?_
      refine g_csi (As := [.int x2, .int x5]) (rest := []) K (m_X7_has x2 x5 σ) yv_X7_has ml_X7_117 rfl rfl rfl ⟨Nat.le_trans (Nat.le_of_ble_eq_true rfl) hR.1, Nat.le_trans (Nat.le_of_ble_eq_true rfl) hR.2⟩ (Nat.le_of_ble_eq_true rfl) dX7_control_50 ?_
      refine g_if_ne (tgt := 89) K dX7_control_53 (by decide) (fun c2 => ?_) (fun c2 => ?_)
      · replace h := bn c2 h
        refine g_iinc (lv' := [(5, .int (x5 + 1)), (0, .ref (X.ad 132)), (1, .int x1), (2, .int x2), (3, .int x3), (4, .int x4)]) K 5 dX7_control_89 rfl (by rw [ic_1]) (by decide) rfl ?_
        refine g_goto (tgt := 41) K dX7_control_92 (by decide) ?_
        refine g_sub [1, 2, 3, 4, 5, 0] rfl ?_
        exact ih _ _ _ _ h hexit
      · replace h := bp c2 h
        refine g_aload_n K 0 dX7_control_56 rfl rfl ?_
        refine g_iload_n K 1 dX7_control_57 rfl rfl ?_
        refine g_iload K 5 dX7_control_58 rfl ?_
        refine g_iload_n K 2 dX7_control_60 rfl rfl ?_
        obtain ⟨r3, e4, h⟩ := ob h
        refine g_cvi (As := [.int x1, .int x5, .int x2]) (rest := []) K (m_X7_falls e4) yv_X7_falls ml_X7_130 rfl rfl rfl (e_ControlRegisterModel kd_132) ltN_132 rfl rfl ⟨Nat.le_trans (Nat.le_of_ble_eq_true rfl) hR.1, Nat.le_trans (Nat.le_of_ble_eq_true rfl) hR.2⟩ (Nat.le_of_ble_eq_true rfl) dX7_control_61 ?_
        refine g_if_eq (tgt := 89) K dX7_control_64 (by decide) (fun c5 => ?_) (fun c5 => ?_)
        · replace h := bp c5 h
          refine g_iinc (lv' := [(5, .int (x5 + 1)), (0, .ref (X.ad 132)), (1, .int x1), (2, .int x2), (3, .int x3), (4, .int x4)]) K 5 dX7_control_89 rfl (by rw [ic_1]) (by decide) rfl ?_
          refine g_goto (tgt := 41) K dX7_control_92 (by decide) ?_
          refine g_sub [1, 2, 3, 4, 5, 0] rfl ?_
          exact ih _ _ _ _ h hexit
        · replace h := bn c5 h
          refine g_iload K 4 dX7_control_67 rfl ?_
          refine g_iconst (v := 1) K dX7_control_69 ic_1 ?_
          refine g_iload K 5 dX7_control_70 rfl ?_
          refine g_ishl K dX7_control_72 ?_
          refine g_ior K dX7_control_73 ?_
          refine g_istore (lv' := [(4, .int (x4 ||| (1 <<< (x5 &&& 31)))), (0, .ref (X.ad 132)), (1, .int x1), (2, .int x2), (3, .int x3), (5, .int x5)]) K dX7_control_74 (by decide) rfl ?_
          refine g_aload_n K 1 dX7_control_76 rfl rfl ?_
          refine g_get (v := .ref (X.ad 144)) K (e_ControlRegisterModel kd_132) ltN_132 rfl 13 (by decide) rfl fw_X7_44 u_X7 dX7_control_77 ?_
          refine g_iload K 5 dX7_control_80 rfl ?_
          refine g_iload_n K 4 dX7_control_82 rfl rfl ?_
          obtain ⟨g6, h⟩ := og h
          refine g_iast K kd_144 ltN_144 g6 dX7_control_83 (fun σ7 s8 => ?_)
          replace h := jn_at s8 h
          refine g_aload_n K 1 dX7_control_84 rfl rfl ?_
          refine g_iload_n K 4 dX7_control_85 rfl rfl ?_
          refine g_put (f' := (upd (σ7.1 132) 14 x3)) K (e_ControlRegisterModel kd_132) ltN_132 rfl 14 (by decide) (e_ControlRegisterModel kd_132) tyX7 tyX7_ok nmX7 rfl (ty := .int) (by decide +kernel) rfl rfl (Nat.le_of_ble_eq_true rfl) fw_X7_127 u_X7 dX7_control_86 (fun σ9 s10 => ?_)
          replace h := jn_at s10 h
          refine g_iinc (lv' := [(5, .int (x5 + 1)), (4, .int (x4 ||| (1 <<< (x5 &&& 31)))), (0, .ref (X.ad 132)), (1, .int x1), (2, .int x2), (3, .int x3)]) K 5 dX7_control_89 rfl (by rw [ic_1]) (by decide) rfl ?_
          refine g_goto (tgt := 41) K dX7_control_92 (by decide) ?_
          refine g_sub [2, 3, 4, 5, 1, 0] rfl ?_
          exact ih _ _ _ _ h hexit
def L_X7_control_30 (x1 : Int32) : Nat → Int32 → Int32 → Sg → Option (Int32 × Int32 × Sg)
  | 0, _, _, _ => none
  | n + 1, x2, x3, σ =>
    if 5 < x3 then
    (some (x2, x3, σ))
    else
    (Option.bind (L_X7_control_41 x1 x2 x3 FU 0 0 σ) (fun o2 =>
    L_X7_control_30 x1 n (x2 ||| o2.1) (x3 + 1) o2.2.2))
set_option maxRecDepth 20000 in
set_option maxHeartbeats 4000000 in
theorem l_X7_control_30 {X : Ctx} (K : Cok X cX7_control 6 RX7) (hR : 4 ≤ X.R.frames ∧ 95 ≤ X.R.locals) {x1 : Int32}  :
    ∀ (n : Nat) (x2 : Int32) (x3 : Int32) (σ : Sg) (o : (Int32 × Int32 × Sg)), L_X7_control_30 x1 n x2 x3 σ = some o → G X 6 106 [(0, .ref (X.ad 132)), (1, .int x1), (2, .int o.1), (3, .int o.2.1)] [] o.2.2 → G X 6 30 [(0, .ref (X.ad 132)), (1, .int x1), (2, .int x2), (3, .int x3)] [] σ := by
  intro n
  induction n with
  | zero => intro x2 x3 σ o h; exact absurd h (by unfold L_X7_control_30; intro h; cases h)
  | succ n ih =>
    intro x2 x3 σ o h hexit
    unfold L_X7_control_30 at h
    refine g_iload_n K 3 dX7_control_30 rfl rfl ?_
    refine g_iconst (v := 5) K dX7_control_31 ic_5 ?_
    refine g_icmp_gt (tgt := 106) K dX7_control_32 (by decide) (fun c1 => ?_) (fun c1 => ?_)
    · replace h := bp c1 h
      refine g_sub [0, 1, 2, 3] rfl ?_
      obtain rfl := Option.some.inj h
      exact hexit
    · replace h := bn c1 h
      refine g_iconst (v := 0) K dX7_control_35 ic_0 ?_
      refine g_istore (lv' := [(4, .int 0), (0, .ref (X.ad 132)), (1, .int x1), (2, .int x2), (3, .int x3)]) K dX7_control_36 (by decide) rfl ?_
      refine g_iconst (v := 0) K dX7_control_38 ic_0 ?_
      refine g_istore (lv' := [(5, .int 0), (4, .int 0), (0, .ref (X.ad 132)), (1, .int x1), (2, .int x2), (3, .int x3)]) K dX7_control_39 (by decide) rfl ?_
      obtain ⟨o2, e3, h⟩ := ob h
      refine g_sub [2, 3, 4, 5, 1, 0] rfl ?_
      refine l_X7_control_41 K hR _ _ _ _ _ e3 ?_
      refine g_iload_n K 2 dX7_control_95 rfl rfl ?_
      refine g_iload K 4 dX7_control_96 rfl ?_
      refine g_ior K dX7_control_98 ?_
      refine g_istore_n (lv' := [(2, .int (x2 ||| o2.1)), (0, .ref (X.ad 132)), (1, .int x1), (3, .int x3), (4, .int o2.1), (5, .int o2.2.1)]) K dX7_control_99 rfl (by decide) rfl ?_
      refine g_iinc (lv' := [(3, .int (x3 + 1)), (2, .int (x2 ||| o2.1)), (0, .ref (X.ad 132)), (1, .int x1), (4, .int o2.1), (5, .int o2.2.1)]) K 3 dX7_control_100 rfl (by rw [ic_1]) (by decide) rfl ?_
      refine g_goto (tgt := 30) K dX7_control_103 (by decide) ?_
      refine g_sub [2, 3, 1, 0] rfl ?_
      exact ih _ _ _ _ h hexit
def f_X7_control (x1 : Int32) (σ : Sg) : Option (Int32 × Sg) :=
  jn (setR σ 132 (upd (σ.1 132) 14 0)) (fun σ1 =>
  Option.bind (L_X7_control_9 x1 0 FU 0 σ1) (fun o3 =>
  Option.bind (L_X7_control_30 x1 FU 0 1 o3.2) (fun o5 =>
  some (o5.1, o5.2.2))))
set_option maxRecDepth 20000 in
set_option maxHeartbeats 4000000 in
theorem w_X7_control {X : Ctx} (K : Cok X cX7_control 6 RX7) (hR : 4 ≤ X.R.frames ∧ 95 ≤ X.R.locals) {x1 : Int32} {σ : Sg}  {r : Int32 × Sg} (h : f_X7_control x1 σ = some r) (hr : RI X cX7_control 6 r) : G X 6 0 [(0, .ref (X.ad 132)), (1, .int x1)] [] σ := by
  unfold f_X7_control at h
  refine g_iconst (v := 0) K dX7_control_0 ic_0 ?_
  refine g_istore_n (lv' := [(2, .int 0), (0, .ref (X.ad 132)), (1, .int x1)]) K dX7_control_1 rfl (by decide) rfl ?_
  refine g_aload_n K 1 dX7_control_2 rfl rfl ?_
  refine g_iconst (v := 0) K dX7_control_3 ic_0 ?_
  refine g_put (f' := (upd (σ.1 132) 14 0)) K (e_ControlRegisterModel kd_132) ltN_132 rfl 14 (by decide) (e_ControlRegisterModel kd_132) tyX7 tyX7_ok nmX7 rfl (ty := .int) (by decide +kernel) rfl rfl (Nat.le_of_ble_eq_true rfl) fw_X7_127 u_X7 dX7_control_4 (fun σ1 s2 => ?_)
  replace h := jn_at s2 h
  refine g_iconst (v := 0) K dX7_control_7 ic_0 ?_
  refine g_istore_n (lv' := [(3, .int 0), (2, .int 0), (0, .ref (X.ad 132)), (1, .int x1)]) K dX7_control_8 rfl (by decide) rfl ?_
  obtain ⟨o3, e4, h⟩ := ob h
  refine g_sub [2, 3, 1, 0] rfl ?_
  refine l_X7_control_9 K hR _ _ _ _ e4 ?_
  refine g_iconst (v := 1) K dX7_control_28 ic_1 ?_
  refine g_istore_n (lv' := [(3, .int 1), (0, .ref (X.ad 132)), (1, .int x1), (2, .int 0)]) K dX7_control_29 rfl (by decide) rfl ?_
  obtain ⟨o5, e6, h⟩ := ob h
  refine g_sub [1, 2, 3, 0] rfl ?_
  refine l_X7_control_30 K hR _ _ _ _ _ e6 ?_
  refine g_iload_n K 2 dX7_control_106 rfl rfl ?_
  exact hr _ _ _ _ dX7_control_107 (rt2 h)
theorem m_X7_control {x1 : Int32} {σ : Sg}  {r : Int32 × Sg} (h : f_X7_control x1 σ = some r) : CI yX7_control cX7_control 6 (some .int) 4 95 (fun ad => [.ref (ad 132), .int x1]) σ r.1 r.2 :=
  CI.of (by decide) (fun _ => Nat.le_of_ble_eq_true rfl) (fun X K hR hr => w_X7_control K hR h hr)
def f_X7_controls (x1 : Int32) (σ : Sg) : Option (Int32 × Sg) :=
  if (f_X7_isOne x1) = 0 then
  (some ((-1), σ))
  else
  (Option.bind (f_X7_lay (σ.1 132 7) (-6) σ) (fun q2 =>
  Option.bind (f_X7_control x1 q2.2) (fun q4 =>
  some (q4.1, q4.2))))
set_option maxRecDepth 20000 in
set_option maxHeartbeats 4000000 in
theorem w_X7_controls {X : Ctx} (K : Cok X cX7_controls 2 RX7) (hR : 5 ≤ X.R.frames ∧ 120 ≤ X.R.locals) {x1 : Int32} {σ : Sg}  {r : Int32 × Sg} (h : f_X7_controls x1 σ = some r) (hr : RI X cX7_controls 2 r) : G X 2 0 [(0, .ref (X.ad 132)), (1, .int x1)] [] σ := by
  unfold f_X7_controls at h
  refine g_iload_n K 1 dX7_controls_0 rfl rfl ?_
  refine g_csi (As := [.int x1]) (rest := []) K (m_X7_isOne x1 σ) yv_X7_isOne ml_X7_108 rfl rfl rfl ⟨Nat.le_trans (Nat.le_of_ble_eq_true rfl) hR.1, Nat.le_trans (Nat.le_of_ble_eq_true rfl) hR.2⟩ (Nat.le_of_ble_eq_true rfl) dX7_controls_1 ?_
  refine g_if_ne (tgt := 9) K dX7_controls_4 (by decide) (fun c1 => ?_) (fun c1 => ?_)
  · replace h := bn c1 h
    refine g_aload_n K 0 dX7_controls_9 rfl rfl ?_
    refine g_aload_n K 0 dX7_controls_10 rfl rfl ?_
    refine g_get (v := .int (σ.1 132 7)) K (e_ControlRegisterModel kd_132) ltN_132 rfl 7 (by decide) rfl fw_X7_114 u_X7 dX7_controls_11 ?_
    refine g_bipush (v := (-6)) K dX7_controls_14 bp_m6 ?_
    obtain ⟨q2, e3, h⟩ := ob h
    refine g_cvi (As := [.int (σ.1 132 7), .int (-6)]) (rest := []) K (m_X7_lay e3) yv_X7_lay ml_X7_89 rfl rfl rfl (e_ControlRegisterModel kd_132) ltN_132 rfl rfl ⟨Nat.le_trans (Nat.le_of_ble_eq_true rfl) hR.1, Nat.le_trans (Nat.le_of_ble_eq_true rfl) hR.2⟩ (Nat.le_of_ble_eq_true rfl) dX7_controls_16 ?_
    refine g_pop K dX7_controls_19 rfl ?_
    refine g_aload_n K 0 dX7_controls_20 rfl rfl ?_
    refine g_iload_n K 1 dX7_controls_21 rfl rfl ?_
    obtain ⟨q4, e5, h⟩ := ob h
    refine g_cvi (As := [.int x1]) (rest := []) K (m_X7_control e5) yv_X7_control ml_X7_133 rfl rfl rfl (e_ControlRegisterModel kd_132) ltN_132 rfl rfl ⟨Nat.le_trans (Nat.le_of_ble_eq_true rfl) hR.1, Nat.le_trans (Nat.le_of_ble_eq_true rfl) hR.2⟩ (Nat.le_of_ble_eq_true rfl) dX7_controls_22 ?_
    exact hr _ _ _ _ dX7_controls_25 (rt2 h)
  · replace h := bp c1 h
    refine g_iconst (v := (-1)) K dX7_controls_7 ic_m1 ?_
    exact hr _ _ _ _ dX7_controls_8 (rt2 h)
theorem m_X7_controls {x1 : Int32} {σ : Sg}  {r : Int32 × Sg} (h : f_X7_controls x1 σ = some r) : CI yX7_controls cX7_controls 2 (some .int) 5 120 (fun ad => [.ref (ad 132), .int x1]) σ r.1 r.2 :=
  CI.of (by decide) (fun _ => Nat.le_of_ble_eq_true rfl) (fun X K hR hr => w_X7_controls K hR h hr)
def f_X7_areKnown (x0 : Int32) (x1 : Int32) : Int32 :=
  if (f_X7_isOne x0) = 0 then
  (0)
  else
  (if (f_X7_isFirm x1) = 0 then
  (0)
  else
  (1))
set_option maxRecDepth 20000 in
set_option maxHeartbeats 4000000 in
theorem w_X7_areKnown {X : Ctx} (K : Cok X cX7_areKnown 2 RX7) (hR : 2 ≤ X.R.frames ∧ 42 ≤ X.R.locals) {x0 : Int32} {x1 : Int32} {σ : Sg}  {r : Int32} (h : f_X7_areKnown x0 x1 = r) (hr : RZ X cX7_areKnown 2 (r, σ)) : G X 2 0 [(0, .int x0), (1, .int x1)] [] σ := by
  unfold f_X7_areKnown at h
  refine g_iload_n K 0 dX7_areKnown_0 rfl rfl ?_
  refine g_csi (As := [.int x0]) (rest := []) K (m_X7_isOne x0 σ) yv_X7_isOne ml_X7_108 rfl rfl rfl ⟨Nat.le_trans (Nat.le_of_ble_eq_true rfl) hR.1, Nat.le_trans (Nat.le_of_ble_eq_true rfl) hR.2⟩ (Nat.le_of_ble_eq_true rfl) dX7_areKnown_1 ?_
  refine g_if_eq (tgt := 18) K dX7_areKnown_4 (by decide) (fun c1 => ?_) (fun c1 => ?_)
  · replace h := bp c1 h
    refine g_iconst (v := 0) K dX7_areKnown_18 ic_0 ?_
    exact hr _ _ _ _ dX7_areKnown_19 (rt0 h) nb_0
  · replace h := bn c1 h
    refine g_iload_n K 1 dX7_areKnown_7 rfl rfl ?_
    refine g_csi (As := [.int x1]) (rest := []) K (m_X7_isFirm x1 σ) yv_X7_isFirm ml_X7_93 rfl rfl rfl ⟨Nat.le_trans (Nat.le_of_ble_eq_true rfl) hR.1, Nat.le_trans (Nat.le_of_ble_eq_true rfl) hR.2⟩ (Nat.le_of_ble_eq_true rfl) dX7_areKnown_8 ?_
    refine g_if_eq (tgt := 18) K dX7_areKnown_11 (by decide) (fun c2 => ?_) (fun c2 => ?_)
    · replace h := bp c2 h
      refine g_iconst (v := 0) K dX7_areKnown_18 ic_0 ?_
      exact hr _ _ _ _ dX7_areKnown_19 (rt0 h) nb_0
    · replace h := bn c2 h
      refine g_iconst (v := 1) K dX7_areKnown_14 ic_1 ?_
      refine g_goto (tgt := 19) K dX7_areKnown_15 (by decide) ?_
      exact hr _ _ _ _ dX7_areKnown_19 (rt0 h) nb_1
theorem m_X7_areKnown (x0 : Int32) (x1 : Int32) (σ : Sg)  : CI yX7_areKnown cX7_areKnown 2 (some .boolean) 2 42 (fun ad => [.int x0, .int x1]) σ (f_X7_areKnown x0 x1) σ :=
  CZ.of (by decide) (fun _ => Nat.le_of_ble_eq_true rfl) (fun X K hR hr => w_X7_areKnown K hR rfl hr)
theorem nz_X7_areKnown (x0 : Int32) (x1 : Int32) : narrow .boolean (.int (f_X7_areKnown x0 x1)) = .int (f_X7_areKnown x0 x1) := by
  unfold f_X7_areKnown
  (repeat' split) <;> first | rfl | exact nz_X7_in _ _ _
def L_X7_many_4 (x0 : Int32) : Nat → Int32 → Int32 → Option (Int32 × Int32)
  | 0, _, _ => none
  | n + 1, x1, x2 =>
    if 5 ≤ x2 then
    (some (x1, x2))
    else
    (L_X7_many_4 x0 n (x1 + ((x0 >>> (x2 &&& 31)) &&& 1)) (x2 + 1))
set_option maxRecDepth 20000 in
set_option maxHeartbeats 4000000 in
theorem l_X7_many_4 {X : Ctx} (K : Cok X cX7_many 3 RX7) (hR : 0 ≤ X.R.frames ∧ 0 ≤ X.R.locals) {x0 : Int32} {σ : Sg}  :
    ∀ (n : Nat) (x1 : Int32) (x2 : Int32) (o : (Int32 × Int32)), L_X7_many_4 x0 n x1 x2 = some o → G X 3 23 [(0, .int x0), (1, .int o.1), (2, .int o.2)] [] σ → G X 3 4 [(0, .int x0), (1, .int x1), (2, .int x2)] [] σ := by
  intro n
  induction n with
  | zero => intro x1 x2 o h; exact absurd h (by unfold L_X7_many_4; intro h; cases h)
  | succ n ih =>
    intro x1 x2 o h hexit
    unfold L_X7_many_4 at h
    refine g_iload_n K 2 dX7_many_4 rfl rfl ?_
    refine g_iconst (v := 5) K dX7_many_5 ic_5 ?_
    refine g_icmp_ge (tgt := 23) K dX7_many_6 (by decide) (fun c1 => ?_) (fun c1 => ?_)
    · replace h := bp c1 h
      refine g_sub [0, 1, 2] rfl ?_
      obtain rfl := Option.some.inj h
      exact hexit
    · replace h := bn c1 h
      refine g_iload_n K 1 dX7_many_9 rfl rfl ?_
      refine g_iload_n K 0 dX7_many_10 rfl rfl ?_
      refine g_iload_n K 2 dX7_many_11 rfl rfl ?_
      refine g_ishr K dX7_many_12 ?_
      refine g_iconst (v := 1) K dX7_many_13 ic_1 ?_
      refine g_iand K dX7_many_14 ?_
      refine g_iadd K dX7_many_15 ?_
      refine g_istore_n (lv' := [(1, .int (x1 + ((x0 >>> (x2 &&& 31)) &&& 1))), (0, .int x0), (2, .int x2)]) K dX7_many_16 rfl (by decide) rfl ?_
      refine g_iinc (lv' := [(2, .int (x2 + 1)), (1, .int (x1 + ((x0 >>> (x2 &&& 31)) &&& 1))), (0, .int x0)]) K 2 dX7_many_17 rfl (by rw [ic_1]) (by decide) rfl ?_
      refine g_goto (tgt := 4) K dX7_many_20 (by decide) ?_
      refine g_sub [2, 1, 0] rfl ?_
      exact ih _ _ _ h hexit
def f_X7_many (x0 : Int32) (σ : Sg) : Option Int32 :=
  Option.bind (L_X7_many_4 x0 FU 0 0) (fun o1 =>
  some o1.1)
set_option maxRecDepth 20000 in
set_option maxHeartbeats 4000000 in
theorem w_X7_many {X : Ctx} (K : Cok X cX7_many 3 RX7) (hR : 0 ≤ X.R.frames ∧ 0 ≤ X.R.locals) {x0 : Int32} {σ : Sg}  {r : Int32} (h : f_X7_many x0 σ = some r) (hr : RI X cX7_many 3 (r, σ)) : G X 3 0 [(0, .int x0)] [] σ := by
  unfold f_X7_many at h
  refine g_iconst (v := 0) K dX7_many_0 ic_0 ?_
  refine g_istore_n (lv' := [(1, .int 0), (0, .int x0)]) K dX7_many_1 rfl (by decide) rfl ?_
  refine g_iconst (v := 0) K dX7_many_2 ic_0 ?_
  refine g_istore_n (lv' := [(2, .int 0), (1, .int 0), (0, .int x0)]) K dX7_many_3 rfl (by decide) rfl ?_
  obtain ⟨o1, e2, h⟩ := ob h
  refine g_sub [2, 1, 0] rfl ?_
  refine l_X7_many_4 K hR _ _ _ _ e2 ?_
  refine g_iload_n K 1 dX7_many_23 rfl rfl ?_
  exact hr _ _ _ _ dX7_many_24 (rt1 h)
theorem m_X7_many {x0 : Int32} {σ : Sg}  {r : Int32} (h : f_X7_many x0 σ = some r) : CI yX7_many cX7_many 3 (some .int) 0 0 (fun ad => [.int x0]) σ r σ :=
  CI.of (by decide) (fun _ => Nat.le_of_ble_eq_true rfl) (fun X K hR hr => w_X7_many K hR h hr)
def L_X7_witness_5 (x1 : Int32) (x2 : Int32) (σ : Sg) : Nat → Int32 → Int32 → Option (Int32 × Int32)
  | 0, _, _ => none
  | n + 1, x3, x4 =>
    if 5 ≤ x4 then
    (some (x3, x4))
    else
    (if inb x4 5 then
    (Option.bind (if (σ.1 144 x4.toNatClampNeg) ≤ 0 then (some 0) else (if inb x4 5 then (if inb x2 5 then (if (σ.1 144 x2.toNatClampNeg) ≤ (σ.1 144 x4.toNatClampNeg) then (some 0) else (some (1 <<< (x4 &&& 31)))) else none) else none) : Option Int32) (fun v8 =>
    L_X7_witness_5 x1 x2 σ n (x3 ||| v8) (x4 + 1)))
    else none)
set_option maxRecDepth 20000 in
set_option maxHeartbeats 4000000 in
theorem l_X7_witness_5 {X : Ctx} (K : Cok X cX7_witness 6 RX7) (hR : 4 ≤ X.R.frames ∧ 95 ≤ X.R.locals) {x1 : Int32} {x2 : Int32} {σ : Sg}  :
    ∀ (n : Nat) (x3 : Int32) (x4 : Int32) (o : (Int32 × Int32)), L_X7_witness_5 x1 x2 σ n x3 x4 = some o → G X 6 54 [(0, .ref (X.ad 132)), (1, .int x1), (2, .int x2), (3, .int o.1), (4, .int o.2)] [] σ → G X 6 5 [(0, .ref (X.ad 132)), (1, .int x1), (2, .int x2), (3, .int x3), (4, .int x4)] [] σ := by
  intro n
  induction n with
  | zero => intro x3 x4 o h; exact absurd h (by unfold L_X7_witness_5; intro h; cases h)
  | succ n ih =>
    intro x3 x4 o h hexit
    unfold L_X7_witness_5 at h
    refine g_iload K 4 dX7_witness_5 rfl ?_
    refine g_iconst (v := 5) K dX7_witness_7 ic_5 ?_
    refine g_icmp_ge (tgt := 54) K dX7_witness_8 (by decide) (fun c1 => ?_) (fun c1 => ?_)
    · replace h := bp c1 h
      refine g_sub [0, 1, 2, 3, 4] rfl ?_
      obtain rfl := Option.some.inj h
      exact hexit
    · replace h := bn c1 h
      refine g_iload_n K 3 dX7_witness_11 rfl rfl ?_
      refine g_aload_n K 0 dX7_witness_12 rfl rfl ?_
      refine g_get (v := .ref (X.ad 144)) K (e_ControlRegisterModel kd_132) ltN_132 rfl 13 (by decide) rfl fw_X7_44 u_X7 dX7_witness_13 ?_
      refine g_iload K 4 dX7_witness_16 rfl ?_
      obtain ⟨g2, h⟩ := og h
      refine g_iald K kd_144 ltN_144 g2 dX7_witness_18 ?_
      refine bd_cut h (P := (fun v8 => G X 6 46 [(0, .ref (X.ad 132)), (1, .int x1), (2, .int x2), (3, .int x3), (4, .int x4)] [.int v8, .int x3] σ)) (fun v8 h => ?_) (fun tail_7 => ?_)
      · refine g_ior K dX7_witness_46 ?_
        refine g_istore_n (lv' := [(3, .int (x3 ||| v8)), (0, .ref (X.ad 132)), (1, .int x1), (2, .int x2), (4, .int x4)]) K dX7_witness_47 rfl (by decide) rfl ?_
        refine g_iinc (lv' := [(4, .int (x4 + 1)), (3, .int (x3 ||| v8)), (0, .ref (X.ad 132)), (1, .int x1), (2, .int x2)]) K 4 dX7_witness_48 rfl (by rw [ic_1]) (by decide) rfl ?_
        refine g_goto (tgt := 5) K dX7_witness_51 (by decide) ?_
        refine g_sub [2, 3, 4, 1, 0] rfl ?_
        exact ih _ _ _ h hexit
      · refine g_if_le (tgt := 45) K dX7_witness_19 (by decide) (fun c9 => ?_) (fun c9 => ?_)
        · replace h := jbp c9 h
          refine g_iconst (v := 0) K dX7_witness_45 ic_0 ?_
          exact tail_7 _ h
        · replace h := jbn c9 h
          refine g_aload_n K 0 dX7_witness_22 rfl rfl ?_
          refine g_get (v := .ref (X.ad 144)) K (e_ControlRegisterModel kd_132) ltN_132 rfl 13 (by decide) rfl fw_X7_44 u_X7 dX7_witness_23 ?_
          refine g_iload K 4 dX7_witness_26 rfl ?_
          obtain ⟨g10, h⟩ := ogb h
          refine g_iald K kd_144 ltN_144 g10 dX7_witness_28 ?_
          refine g_aload_n K 0 dX7_witness_29 rfl rfl ?_
          refine g_get (v := .ref (X.ad 144)) K (e_ControlRegisterModel kd_132) ltN_132 rfl 13 (by decide) rfl fw_X7_44 u_X7 dX7_witness_30 ?_
          refine g_iload_n K 2 dX7_witness_33 rfl rfl ?_
          obtain ⟨g11, h⟩ := ogb h
          refine g_iald K kd_144 ltN_144 g11 dX7_witness_34 ?_
          refine g_icmp_ge (tgt := 45) K dX7_witness_35 (by decide) (fun c12 => ?_) (fun c12 => ?_)
          · replace h := jbp c12 h
            refine g_iconst (v := 0) K dX7_witness_45 ic_0 ?_
            exact tail_7 _ h
          · replace h := jbn c12 h
            refine g_iconst (v := 1) K dX7_witness_38 ic_1 ?_
            refine g_iload K 4 dX7_witness_39 rfl ?_
            refine g_ishl K dX7_witness_41 ?_
            refine g_goto (tgt := 46) K dX7_witness_42 (by decide) ?_
            exact tail_7 _ h
def L_X7_witness_61 (x1 : Int32) (x2 : Int32) (x3 : Int32) (σ : Sg) : Nat → Int32 → Int32 → Option (Int32 × Int32)
  | 0, _, _ => none
  | n + 1, x4, x5 =>
    if 32 ≤ x5 then
    (some (x4, x5))
    else
    (if (x5 &&& x3) = x5 then
    (Option.bind (f_X7_falls x1 x2 x5 σ) (fun r3 =>
    if r3 = 0 then
    (L_X7_witness_61 x1 x2 x3 σ n x4 (x5 + 1))
    else
    (if x4 < 0 then
    (L_X7_witness_61 x1 x2 x3 σ n x5 (x5 + 1))
    else
    (Option.bind (f_X7_many x5 σ) (fun r7 =>
    Option.bind (f_X7_many x4 σ) (fun r9 =>
    if r9 ≤ r7 then
    (L_X7_witness_61 x1 x2 x3 σ n x4 (x5 + 1))
    else
    (L_X7_witness_61 x1 x2 x3 σ n x5 (x5 + 1))))))))
    else
    (L_X7_witness_61 x1 x2 x3 σ n x4 (x5 + 1)))
set_option maxRecDepth 20000 in
set_option maxHeartbeats 4000000 in
theorem l_X7_witness_61 {X : Ctx} (K : Cok X cX7_witness 6 RX7) (hR : 4 ≤ X.R.frames ∧ 95 ≤ X.R.locals) {x1 : Int32} {x2 : Int32} {x3 : Int32} {σ : Sg}  :
    ∀ (n : Nat) (x4 : Int32) (x5 : Int32) (o : (Int32 × Int32)), L_X7_witness_61 x1 x2 x3 σ n x4 x5 = some o → G X 6 116 [(0, .ref (X.ad 132)), (1, .int x1), (2, .int x2), (3, .int x3), (4, .int o.1), (5, .int o.2)] [] σ → G X 6 61 [(0, .ref (X.ad 132)), (1, .int x1), (2, .int x2), (3, .int x3), (4, .int x4), (5, .int x5)] [] σ := by
  intro n
  induction n with
  | zero => intro x4 x5 o h; exact absurd h (by unfold L_X7_witness_61; intro h; cases h)
  | succ n ih =>
    intro x4 x5 o h hexit
    unfold L_X7_witness_61 at h
    refine g_iload K 5 dX7_witness_61 rfl ?_
    refine g_bipush (v := 32) K dX7_witness_63 bp_32 ?_
    refine g_icmp_ge (tgt := 116) K dX7_witness_65 (by decide) (fun c1 => ?_) (fun c1 => ?_)
    · replace h := bp c1 h
      refine g_sub [0, 1, 2, 3, 4, 5] rfl ?_
      obtain rfl := Option.some.inj h
      exact hexit
    · replace h := bn c1 h
      refine g_iload K 5 dX7_witness_68 rfl ?_
      refine g_iload_n K 3 dX7_witness_70 rfl rfl ?_
      refine g_iand K dX7_witness_71 ?_
      refine g_iload K 5 dX7_witness_72 rfl ?_
      refine g_icmp_ne (tgt := 110) K dX7_witness_74 (by decide) (fun c2 => ?_) (fun c2 => ?_)
      · replace h := bn c2 h
        refine g_iinc (lv' := [(5, .int (x5 + 1)), (0, .ref (X.ad 132)), (1, .int x1), (2, .int x2), (3, .int x3), (4, .int x4)]) K 5 dX7_witness_110 rfl (by rw [ic_1]) (by decide) rfl ?_
        refine g_goto (tgt := 61) K dX7_witness_113 (by decide) ?_
        refine g_sub [1, 2, 3, 4, 5, 0] rfl ?_
        exact ih _ _ _ h hexit
      · replace h := bp c2 h
        refine g_aload_n K 0 dX7_witness_77 rfl rfl ?_
        refine g_iload_n K 1 dX7_witness_78 rfl rfl ?_
        refine g_iload_n K 2 dX7_witness_79 rfl rfl ?_
        refine g_iload K 5 dX7_witness_80 rfl ?_
        obtain ⟨r3, e4, h⟩ := ob h
        refine g_cvi (As := [.int x1, .int x2, .int x5]) (rest := []) K (m_X7_falls e4) yv_X7_falls ml_X7_130 rfl rfl rfl (e_ControlRegisterModel kd_132) ltN_132 rfl rfl ⟨Nat.le_trans (Nat.le_of_ble_eq_true rfl) hR.1, Nat.le_trans (Nat.le_of_ble_eq_true rfl) hR.2⟩ (Nat.le_of_ble_eq_true rfl) dX7_witness_82 ?_
        refine g_if_eq (tgt := 110) K dX7_witness_85 (by decide) (fun c5 => ?_) (fun c5 => ?_)
        · replace h := bp c5 h
          refine g_iinc (lv' := [(5, .int (x5 + 1)), (0, .ref (X.ad 132)), (1, .int x1), (2, .int x2), (3, .int x3), (4, .int x4)]) K 5 dX7_witness_110 rfl (by rw [ic_1]) (by decide) rfl ?_
          refine g_goto (tgt := 61) K dX7_witness_113 (by decide) ?_
          refine g_sub [1, 2, 3, 4, 5, 0] rfl ?_
          exact ih _ _ _ h hexit
        · replace h := bn c5 h
          refine g_iload K 4 dX7_witness_88 rfl ?_
          refine g_if_lt (tgt := 106) K dX7_witness_90 (by decide) (fun c6 => ?_) (fun c6 => ?_)
          · replace h := bp c6 h
            refine g_iload K 5 dX7_witness_106 rfl ?_
            refine g_istore (lv' := [(4, .int x5), (0, .ref (X.ad 132)), (1, .int x1), (2, .int x2), (3, .int x3), (5, .int x5)]) K dX7_witness_108 (by decide) rfl ?_
            refine g_iinc (lv' := [(5, .int (x5 + 1)), (4, .int x5), (0, .ref (X.ad 132)), (1, .int x1), (2, .int x2), (3, .int x3)]) K 5 dX7_witness_110 rfl (by rw [ic_1]) (by decide) rfl ?_
            refine g_goto (tgt := 61) K dX7_witness_113 (by decide) ?_
            refine g_sub [2, 3, 4, 5, 1, 0] rfl ?_
            exact ih _ _ _ h hexit
          · replace h := bn c6 h
            refine g_iload K 5 dX7_witness_93 rfl ?_
            obtain ⟨r7, e8, h⟩ := ob h
            refine g_csi (As := [.int x5]) (rest := []) K (m_X7_many e8) yv_X7_many ml_X7_136 rfl rfl rfl ⟨Nat.le_trans (Nat.le_of_ble_eq_true rfl) hR.1, Nat.le_trans (Nat.le_of_ble_eq_true rfl) hR.2⟩ (Nat.le_of_ble_eq_true rfl) dX7_witness_95 ?_
            refine g_iload K 4 dX7_witness_98 rfl ?_
            obtain ⟨r9, e10, h⟩ := ob h
            refine g_csi (As := [.int x4]) (rest := [.int r7]) K (m_X7_many e10) yv_X7_many ml_X7_136 rfl rfl rfl ⟨Nat.le_trans (Nat.le_of_ble_eq_true rfl) hR.1, Nat.le_trans (Nat.le_of_ble_eq_true rfl) hR.2⟩ (Nat.le_of_ble_eq_true rfl) dX7_witness_100 ?_
            refine g_icmp_ge (tgt := 110) K dX7_witness_103 (by decide) (fun c11 => ?_) (fun c11 => ?_)
            · replace h := bp c11 h
              refine g_iinc (lv' := [(5, .int (x5 + 1)), (0, .ref (X.ad 132)), (1, .int x1), (2, .int x2), (3, .int x3), (4, .int x4)]) K 5 dX7_witness_110 rfl (by rw [ic_1]) (by decide) rfl ?_
              refine g_goto (tgt := 61) K dX7_witness_113 (by decide) ?_
              refine g_sub [1, 2, 3, 4, 5, 0] rfl ?_
              exact ih _ _ _ h hexit
            · replace h := bn c11 h
              refine g_iload K 5 dX7_witness_106 rfl ?_
              refine g_istore (lv' := [(4, .int x5), (0, .ref (X.ad 132)), (1, .int x1), (2, .int x2), (3, .int x3), (5, .int x5)]) K dX7_witness_108 (by decide) rfl ?_
              refine g_iinc (lv' := [(5, .int (x5 + 1)), (4, .int x5), (0, .ref (X.ad 132)), (1, .int x1), (2, .int x2), (3, .int x3)]) K 5 dX7_witness_110 rfl (by rw [ic_1]) (by decide) rfl ?_
              refine g_goto (tgt := 61) K dX7_witness_113 (by decide) ?_
              refine g_sub [2, 3, 4, 5, 1, 0] rfl ?_
              exact ih _ _ _ h hexit
def f_X7_witness (x1 : Int32) (x2 : Int32) (σ : Sg) : Option Int32 :=
  Option.bind (L_X7_witness_5 x1 x2 σ FU 0 0) (fun o1 =>
  Option.bind (L_X7_witness_61 x1 x2 o1.1 σ FU (-6) 0) (fun o3 =>
  some o3.1))
set_option maxRecDepth 20000 in
set_option maxHeartbeats 4000000 in
theorem w_X7_witness {X : Ctx} (K : Cok X cX7_witness 6 RX7) (hR : 4 ≤ X.R.frames ∧ 95 ≤ X.R.locals) {x1 : Int32} {x2 : Int32} {σ : Sg}  {r : Int32} (h : f_X7_witness x1 x2 σ = some r) (hr : RI X cX7_witness 6 (r, σ)) : G X 6 0 [(0, .ref (X.ad 132)), (1, .int x1), (2, .int x2)] [] σ := by
  unfold f_X7_witness at h
  refine g_iconst (v := 0) K dX7_witness_0 ic_0 ?_
  refine g_istore_n (lv' := [(3, .int 0), (0, .ref (X.ad 132)), (1, .int x1), (2, .int x2)]) K dX7_witness_1 rfl (by decide) rfl ?_
  refine g_iconst (v := 0) K dX7_witness_2 ic_0 ?_
  refine g_istore (lv' := [(4, .int 0), (3, .int 0), (0, .ref (X.ad 132)), (1, .int x1), (2, .int x2)]) K dX7_witness_3 (by decide) rfl ?_
  obtain ⟨o1, e2, h⟩ := ob h
  refine g_sub [2, 3, 4, 1, 0] rfl ?_
  refine l_X7_witness_5 K hR _ _ _ _ e2 ?_
  refine g_bipush (v := (-6)) K dX7_witness_54 bp_m6 ?_
  refine g_istore (lv' := [(4, .int (-6)), (0, .ref (X.ad 132)), (1, .int x1), (2, .int x2), (3, .int o1.1)]) K dX7_witness_56 (by decide) rfl ?_
  refine g_iconst (v := 0) K dX7_witness_58 ic_0 ?_
  refine g_istore (lv' := [(5, .int 0), (4, .int (-6)), (0, .ref (X.ad 132)), (1, .int x1), (2, .int x2), (3, .int o1.1)]) K dX7_witness_59 (by decide) rfl ?_
  obtain ⟨o3, e4, h⟩ := ob h
  refine g_sub [2, 3, 4, 5, 1, 0] rfl ?_
  refine l_X7_witness_61 K hR _ _ _ _ e4 ?_
  refine g_iload K 4 dX7_witness_116 rfl ?_
  exact hr _ _ _ _ dX7_witness_118 (rt1 h)
theorem m_X7_witness {x1 : Int32} {x2 : Int32} {σ : Sg}  {r : Int32} (h : f_X7_witness x1 x2 σ = some r) : CI yX7_witness cX7_witness 6 (some .int) 4 95 (fun ad => [.ref (ad 132), .int x1, .int x2]) σ r σ :=
  CI.of (by decide) (fun _ => Nat.le_of_ble_eq_true rfl) (fun X K hR hr => w_X7_witness K hR h hr)
def L_X7_chain_19 (x1 : Int32) (x4 : Int32) (σ : Sg) : Nat → Int32 → Int32 → Option (Int32 × Int32)
  | 0, _, _ => none
  | n + 1, x3, x5 =>
    if 5 ≤ x5 then
    (some (x3, x5))
    else
    (Option.bind (if (f_X7_has x3 x5) = 0 then (some 0) else (Option.bind (f_X7_witness x1 x5 σ) (fun r8 => some r8)) : Option Int32) (fun v6 =>
    L_X7_chain_19 x1 x4 σ n (x3 ||| v6) (x5 + 1)))
set_option maxRecDepth 20000 in
set_option maxHeartbeats 4000000 in
theorem l_X7_chain_19 {X : Ctx} (K : Cok X cX7_chain 6 RX7) (hR : 5 ≤ X.R.frames ∧ 120 ≤ X.R.locals) {x1 : Int32} {x4 : Int32} {σ : Sg}  :
    ∀ (n : Nat) (x3 : Int32) (x5 : Int32) (o : (Int32 × Int32)), L_X7_chain_19 x1 x4 σ n x3 x5 = some o → G X 6 54 [(0, .ref (X.ad 132)), (1, .int x1), (3, .int o.1), (4, .int x4), (5, .int o.2)] [] σ → G X 6 19 [(0, .ref (X.ad 132)), (1, .int x1), (3, .int x3), (4, .int x4), (5, .int x5)] [] σ := by
  intro n
  induction n with
  | zero => intro x3 x5 o h; exact absurd h (by unfold L_X7_chain_19; intro h; cases h)
  | succ n ih =>
    intro x3 x5 o h hexit
    unfold L_X7_chain_19 at h
    refine g_iload K 4 dX7_chain_19 rfl ?_
    refine g_iconst (v := 5) K dX7_chain_21 ic_5 ?_
    refine g_icmp_ge (tgt := 54) K dX7_chain_22 (by decide) (fun c1 => ?_) (fun c1 => ?_)
    · replace h := bp c1 h
      refine g_sub [0, 1, 2, 3, 4] rfl ?_
      obtain rfl := Option.some.inj h
      exact hexit
    · replace h := bn c1 h
      refine g_iload_n K 2 dX7_chain_25 rfl rfl ?_
      refine g_iload_n K 2 dX7_chain_26 rfl rfl ?_
      refine g_iload K 4 dX7_chain_27 rfl ?_
      refine g_csi (As := [.int x3, .int x5]) (rest := [.int x3]) K (m_X7_has x3 x5 σ) yv_X7_has ml_X7_117 rfl rfl rfl ⟨Nat.le_trans (Nat.le_of_ble_eq_true rfl) hR.1, Nat.le_trans (Nat.le_of_ble_eq_true rfl) hR.2⟩ (Nat.le_of_ble_eq_true rfl) dX7_chain_29 ?_
      refine bd_cut h (P := (fun v6 => G X 6 46 [(0, .ref (X.ad 132)), (1, .int x1), (3, .int x3), (4, .int x4), (5, .int x5)] [.int v6, .int x3] σ)) (fun v6 h => ?_) (fun tail_5 => ?_)
      · refine g_ior K dX7_chain_46 ?_
        refine g_istore_n (lv' := [(3, .int (x3 ||| v6)), (0, .ref (X.ad 132)), (1, .int x1), (4, .int x4), (5, .int x5)]) K dX7_chain_47 rfl (by decide) rfl ?_
        refine g_iinc (lv' := [(5, .int (x5 + 1)), (3, .int (x3 ||| v6)), (0, .ref (X.ad 132)), (1, .int x1), (4, .int x4)]) K 4 dX7_chain_48 rfl (by rw [ic_1]) (by decide) rfl ?_
        refine g_goto (tgt := 19) K dX7_chain_51 (by decide) ?_
        refine g_sub [2, 3, 1, 4, 0] rfl ?_
        exact ih _ _ _ h hexit
      · refine g_if_eq (tgt := 45) K dX7_chain_32 (by decide) (fun c7 => ?_) (fun c7 => ?_)
        · replace h := jbp c7 h
          refine g_iconst (v := 0) K dX7_chain_45 ic_0 ?_
          exact tail_5 _ h
        · replace h := jbn c7 h
          refine g_aload_n K 0 dX7_chain_35 rfl rfl ?_
          refine g_iload_n K 1 dX7_chain_36 rfl rfl ?_
          refine g_iload K 4 dX7_chain_37 rfl ?_
          obtain ⟨r8, e9, h⟩ := obb h
          refine g_cvi (As := [.int x1, .int x5]) (rest := [.int x3]) K (m_X7_witness e9) yv_X7_witness ml_X7_139 rfl rfl rfl (e_ControlRegisterModel kd_132) ltN_132 rfl rfl ⟨Nat.le_trans (Nat.le_of_ble_eq_true rfl) hR.1, Nat.le_trans (Nat.le_of_ble_eq_true rfl) hR.2⟩ (Nat.le_of_ble_eq_true rfl) dX7_chain_39 ?_
          refine g_goto (tgt := 46) K dX7_chain_42 (by decide) ?_
          exact tail_5 _ h
def L_X7_chain_10 (x1 : Int32) (σ : Sg) : Nat → Int32 → Int32 → Option (Int32 × Int32)
  | 0, _, _ => none
  | n + 1, x3, x4 =>
    if 5 ≤ x4 then
    (some (x3, x4))
    else
    (Option.bind (L_X7_chain_19 x1 x4 σ FU x3 0) (fun o2 =>
    L_X7_chain_10 x1 σ n o2.1 (x4 + 1)))
set_option maxRecDepth 20000 in
set_option maxHeartbeats 4000000 in
theorem l_X7_chain_10 {X : Ctx} (K : Cok X cX7_chain 6 RX7) (hR : 5 ≤ X.R.frames ∧ 120 ≤ X.R.locals) {x1 : Int32} {σ : Sg}  :
    ∀ (n : Nat) (x3 : Int32) (x4 : Int32) (o : (Int32 × Int32)), L_X7_chain_10 x1 σ n x3 x4 = some o → G X 6 60 [(0, .ref (X.ad 132)), (1, .int x1), (3, .int o.1), (4, .int o.2)] [] σ → G X 6 10 [(0, .ref (X.ad 132)), (1, .int x1), (3, .int x3), (4, .int x4)] [] σ := by
  intro n
  induction n with
  | zero => intro x3 x4 o h; exact absurd h (by unfold L_X7_chain_10; intro h; cases h)
  | succ n ih =>
    intro x3 x4 o h hexit
    unfold L_X7_chain_10 at h
    refine g_iload K 3 dX7_chain_10 rfl ?_
    refine g_iconst (v := 5) K dX7_chain_12 ic_5 ?_
    refine g_icmp_ge (tgt := 60) K dX7_chain_13 (by decide) (fun c1 => ?_) (fun c1 => ?_)
    · replace h := bp c1 h
      refine g_sub [0, 1, 2, 3] rfl ?_
      obtain rfl := Option.some.inj h
      exact hexit
    · replace h := bn c1 h
      refine g_iconst (v := 0) K dX7_chain_16 ic_0 ?_
      refine g_istore (lv' := [(5, .int 0), (0, .ref (X.ad 132)), (1, .int x1), (3, .int x3), (4, .int x4)]) K dX7_chain_17 (by decide) rfl ?_
      obtain ⟨o2, e3, h⟩ := ob h
      refine g_sub [1, 2, 3, 4, 0] rfl ?_
      refine l_X7_chain_19 K hR _ _ _ _ e3 ?_
      refine g_iinc (lv' := [(4, .int (x4 + 1)), (0, .ref (X.ad 132)), (1, .int x1), (3, .int o2.1), (5, .int o2.2)]) K 3 dX7_chain_54 rfl (by rw [ic_1]) (by decide) rfl ?_
      refine g_goto (tgt := 10) K dX7_chain_57 (by decide) ?_
      refine g_sub [1, 2, 3, 0] rfl ?_
      exact ih _ _ _ h hexit
def f_X7_chain (x1 : Int32) (x2 : Int32) (σ : Sg) : Option Int32 :=
  Option.bind (f_X7_witness x1 x2 σ) (fun r1 =>
  Option.bind (L_X7_chain_10 x1 σ FU r1 0) (fun o3 =>
  some o3.1))
set_option maxRecDepth 20000 in
set_option maxHeartbeats 4000000 in
theorem w_X7_chain {X : Ctx} (K : Cok X cX7_chain 6 RX7) (hR : 5 ≤ X.R.frames ∧ 120 ≤ X.R.locals) {x1 : Int32} {x2 : Int32} {σ : Sg}  {r : Int32} (h : f_X7_chain x1 x2 σ = some r) (hr : RI X cX7_chain 6 (r, σ)) : G X 6 0 [(0, .ref (X.ad 132)), (1, .int x1), (2, .int x2)] [] σ := by
  unfold f_X7_chain at h
  refine g_aload_n K 0 dX7_chain_0 rfl rfl ?_
  refine g_iload_n K 1 dX7_chain_1 rfl rfl ?_
  refine g_iload_n K 2 dX7_chain_2 rfl rfl ?_
  obtain ⟨r1, e2, h⟩ := ob h
  refine g_cvi (As := [.int x1, .int x2]) (rest := []) K (m_X7_witness e2) yv_X7_witness ml_X7_139 rfl rfl rfl (e_ControlRegisterModel kd_132) ltN_132 rfl rfl ⟨Nat.le_trans (Nat.le_of_ble_eq_true rfl) hR.1, Nat.le_trans (Nat.le_of_ble_eq_true rfl) hR.2⟩ (Nat.le_of_ble_eq_true rfl) dX7_chain_3 ?_
  refine g_istore_n (lv' := [(3, .int r1), (0, .ref (X.ad 132)), (1, .int x1), (2, .int x2)]) K dX7_chain_6 rfl (by decide) rfl ?_
  refine g_iconst (v := 0) K dX7_chain_7 ic_0 ?_
  refine g_istore (lv' := [(4, .int 0), (3, .int r1), (0, .ref (X.ad 132)), (1, .int x1), (2, .int x2)]) K dX7_chain_8 (by decide) rfl ?_
  obtain ⟨o3, e4, h⟩ := ob h
  refine g_sub [2, 3, 1, 0] rfl ?_
  refine l_X7_chain_10 K hR _ _ _ _ e4 ?_
  refine g_iload_n K 2 dX7_chain_60 rfl rfl ?_
  exact hr _ _ _ _ dX7_chain_61 (rt1 h)
theorem m_X7_chain {x1 : Int32} {x2 : Int32} {σ : Sg}  {r : Int32} (h : f_X7_chain x1 x2 σ = some r) : CI yX7_chain cX7_chain 6 (some .int) 5 120 (fun ad => [.ref (ad 132), .int x1, .int x2]) σ r σ :=
  CI.of (by decide) (fun _ => Nat.le_of_ble_eq_true rfl) (fun X K hR hr => w_X7_chain K hR h hr)
def f_X7_how (x1 : Int32) (x2 : Int32) (x3 : Int32) (σ : Sg) : Option (Int32 × Sg) :=
  if (f_X7_areKnown x1 x2) = 0 then
  (some ((-1), σ))
  else
  (if (f_X7_in x3 0 4) = 0 then
  (some ((-2), σ))
  else
  (Option.bind (f_X7_lay (σ.1 132 7) (-6) σ) (fun q3 =>
  Option.bind (f_X7_control x1 q3.2) (fun q5 =>
  Option.bind (f_X7_block x1 x2 q5.1 q5.2) (fun r7 =>
  if x3 = 0 then
  (if (f_X7_has q5.1 x2) = 0 then
  (some (0, q5.2))
  else
  (if inb 0 3 then
  (if r7 ≤ (q5.2.1 139 (0 : Int32).toNatClampNeg) then
  (some (2, q5.2))
  else
  (some (1, q5.2)))
  else none))
  else
  (if x3 = 1 then
  (if inb x2 5 then
  (some ((q5.2.1 144 x2.toNatClampNeg), q5.2))
  else none)
  else
  (if x3 = 2 then
  (some (r7, q5.2))
  else
  (if x3 = 3 then
  (if (f_X7_has q5.1 x2) = 0 then
  (some ((-6), q5.2))
  else
  (Option.bind (f_X7_witness x1 x2 q5.2) (fun r18 =>
  some (r18, q5.2))))
  else
  (if (f_X7_has q5.1 x2) = 0 then
  (some ((-6), q5.2))
  else
  (Option.bind (f_X7_chain x1 x2 q5.2) (fun r21 =>
  some (r21, q5.2))))))))))))
set_option maxRecDepth 20000 in
set_option maxHeartbeats 4000000 in
theorem w_X7_how {X : Ctx} (K : Cok X cX7_how 6 RX7) (hR : 6 ≤ X.R.frames ∧ 145 ≤ X.R.locals) {x1 : Int32} {x2 : Int32} {x3 : Int32} {σ : Sg}  {r : Int32 × Sg} (h : f_X7_how x1 x2 x3 σ = some r) (hr : RI X cX7_how 6 r) : G X 6 0 [(0, .ref (X.ad 132)), (1, .int x1), (2, .int x2), (3, .int x3)] [] σ := by
  unfold f_X7_how at h
  refine g_iload_n K 1 dX7_how_0 rfl rfl ?_
  refine g_iload_n K 2 dX7_how_1 rfl rfl ?_
  refine g_csi (As := [.int x1, .int x2]) (rest := []) K (m_X7_areKnown x1 x2 σ) yv_X7_areKnown ml_X7_142 rfl rfl rfl ⟨Nat.le_trans (Nat.le_of_ble_eq_true rfl) hR.1, Nat.le_trans (Nat.le_of_ble_eq_true rfl) hR.2⟩ (Nat.le_of_ble_eq_true rfl) dX7_how_2 ?_
  refine g_if_ne (tgt := 10) K dX7_how_5 (by decide) (fun c1 => ?_) (fun c1 => ?_)
  · replace h := bn c1 h
    refine g_iload_n K 3 dX7_how_10 rfl rfl ?_
    refine g_iconst (v := 0) K dX7_how_11 ic_0 ?_
    refine g_iconst (v := 4) K dX7_how_12 ic_4 ?_
    refine g_csi (As := [.int x3, .int 0, .int 4]) (rest := []) K (m_X7_in x3 0 4 σ) yv_X7_in ml_X7_66 rfl rfl rfl ⟨Nat.le_trans (Nat.le_of_ble_eq_true rfl) hR.1, Nat.le_trans (Nat.le_of_ble_eq_true rfl) hR.2⟩ (Nat.le_of_ble_eq_true rfl) dX7_how_13 ?_
    refine g_if_ne (tgt := 22) K dX7_how_16 (by decide) (fun c2 => ?_) (fun c2 => ?_)
    · replace h := bn c2 h
      refine g_aload_n K 0 dX7_how_22 rfl rfl ?_
      refine g_aload_n K 0 dX7_how_23 rfl rfl ?_
      refine g_get (v := .int (σ.1 132 7)) K (e_ControlRegisterModel kd_132) ltN_132 rfl 7 (by decide) rfl fw_X7_114 u_X7 dX7_how_24 ?_
      refine g_bipush (v := (-6)) K dX7_how_27 bp_m6 ?_
      obtain ⟨q3, e4, h⟩ := ob h
      refine g_cvi (As := [.int (σ.1 132 7), .int (-6)]) (rest := []) K (m_X7_lay e4) yv_X7_lay ml_X7_89 rfl rfl rfl (e_ControlRegisterModel kd_132) ltN_132 rfl rfl ⟨Nat.le_trans (Nat.le_of_ble_eq_true rfl) hR.1, Nat.le_trans (Nat.le_of_ble_eq_true rfl) hR.2⟩ (Nat.le_of_ble_eq_true rfl) dX7_how_29 ?_
      refine g_pop K dX7_how_32 rfl ?_
      refine g_aload_n K 0 dX7_how_33 rfl rfl ?_
      refine g_iload_n K 1 dX7_how_34 rfl rfl ?_
      obtain ⟨q5, e6, h⟩ := ob h
      refine g_cvi (As := [.int x1]) (rest := []) K (m_X7_control e6) yv_X7_control ml_X7_133 rfl rfl rfl (e_ControlRegisterModel kd_132) ltN_132 rfl rfl ⟨Nat.le_trans (Nat.le_of_ble_eq_true rfl) hR.1, Nat.le_trans (Nat.le_of_ble_eq_true rfl) hR.2⟩ (Nat.le_of_ble_eq_true rfl) dX7_how_35 ?_
      refine g_istore (lv' := [(4, .int q5.1), (0, .ref (X.ad 132)), (1, .int x1), (2, .int x2), (3, .int x3)]) K dX7_how_38 (by decide) rfl ?_
      refine g_aload_n K 1 dX7_how_40 rfl rfl ?_
      refine g_iload_n K 2 dX7_how_41 rfl rfl ?_
      refine g_iload_n K 3 dX7_how_42 rfl rfl ?_
      refine g_iload K 0 dX7_how_43 rfl ?_
      obtain ⟨r7, e8, h⟩ := ob h
      refine g_cvi (As := [.int x1, .int x2, .int q5.1]) (rest := []) K (m_X7_block e8) yv_X7_block ml_X7_123 rfl rfl rfl (e_ControlRegisterModel kd_132) ltN_132 rfl rfl ⟨Nat.le_trans (Nat.le_of_ble_eq_true rfl) hR.1, Nat.le_trans (Nat.le_of_ble_eq_true rfl) hR.2⟩ (Nat.le_of_ble_eq_true rfl) dX7_how_45 ?_
      refine g_istore (lv' := [(5, .int r7), (4, .int q5.1), (0, .ref (X.ad 132)), (1, .int x1), (2, .int x2), (3, .int x3)]) K dX7_how_48 (by decide) rfl ?_
      refine g_iload_n K 5 dX7_how_50 rfl rfl ?_
      rcases Classical.em (x3 = 0) with c9 | c9
      · replace h := bp c9 h
        refine g_tableIn (y := 0) (off := 29) (tgt := 80) K dX7_how_51 c9 (by decide) (by decide) (by decide) (by decide) ?_
        refine g_iload K 1 dX7_how_80 rfl ?_
        refine g_iload_n K 4 dX7_how_82 rfl rfl ?_
        refine g_csi (As := [.int q5.1, .int x2]) (rest := []) K (m_X7_has q5.1 x2 q5.2) yv_X7_has ml_X7_117 rfl rfl rfl ⟨Nat.le_trans (Nat.le_of_ble_eq_true rfl) hR.1, Nat.le_trans (Nat.le_of_ble_eq_true rfl) hR.2⟩ (Nat.le_of_ble_eq_true rfl) dX7_how_83 ?_
        refine g_if_ne (tgt := 93) K dX7_how_86 (by decide) (fun c10 => ?_) (fun c10 => ?_)
        · replace h := bn c10 h
          refine g_iload K 0 dX7_how_93 rfl ?_
          refine g_aload_n K 2 dX7_how_95 rfl rfl ?_
          refine g_get (v := .ref (X.ad 139)) K (e_ControlRegisterModel kd_132) ltN_132 rfl 8 (by decide) rfl fw_X7_28 u_X7 dX7_how_96 ?_
          refine g_iconst (v := 0) K dX7_how_99 ic_0 ?_
          obtain ⟨g11, h⟩ := og h
          refine g_iald K kd_139 ltN_139 g11 dX7_how_100 ?_
          refine g_icmp_le (tgt := 108) K dX7_how_101 (by decide) (fun c12 => ?_) (fun c12 => ?_)
          · replace h := bp c12 h
            refine g_iconst (v := 2) K dX7_how_108 ic_2 ?_
            exact hr _ _ _ _ dX7_how_109 (rt2 h)
          · replace h := bn c12 h
            refine g_iconst (v := 1) K dX7_how_104 ic_1 ?_
            refine g_goto (tgt := 109) K dX7_how_105 (by decide) ?_
            exact hr _ _ _ _ dX7_how_109 (rt2 h)
        · replace h := bp c10 h
          refine g_iconst (v := 0) K dX7_how_89 ic_0 ?_
          refine g_goto (tgt := 109) K dX7_how_90 (by decide) ?_
          exact hr _ _ _ _ dX7_how_109 (rt2 h)
      · replace h := bn c9 h
        rcases Classical.em (x3 = 1) with c13 | c13
        · replace h := bp c13 h
          refine g_tableIn (y := 1) (off := 59) (tgt := 110) K dX7_how_51 c13 (by decide) (by decide) (by decide) (by decide) ?_
          refine g_aload_n K 2 dX7_how_110 rfl rfl ?_
          refine g_get (v := .ref (X.ad 144)) K (e_ControlRegisterModel kd_132) ltN_132 rfl 13 (by decide) rfl fw_X7_44 u_X7 dX7_how_111 ?_
          refine g_iload_n K 4 dX7_how_114 rfl rfl ?_
          obtain ⟨g14, h⟩ := og h
          refine g_iald K kd_144 ltN_144 g14 dX7_how_115 ?_
          exact hr _ _ _ _ dX7_how_116 (rt2 h)
        · replace h := bn c13 h
          rcases Classical.em (x3 = 2) with c15 | c15
          · replace h := bp c15 h
            refine g_tableIn (y := 2) (off := 66) (tgt := 117) K dX7_how_51 c15 (by decide) (by decide) (by decide) (by decide) ?_
            refine g_iload K 0 dX7_how_117 rfl ?_
            exact hr _ _ _ _ dX7_how_119 (rt2 h)
          · replace h := bn c15 h
            rcases Classical.em (x3 = 3) with c16 | c16
            · replace h := bp c16 h
              refine g_tableIn (y := 3) (off := 69) (tgt := 120) K dX7_how_51 c16 (by decide) (by decide) (by decide) (by decide) ?_
              refine g_iload K 1 dX7_how_120 rfl ?_
              refine g_iload_n K 4 dX7_how_122 rfl rfl ?_
              refine g_csi (As := [.int q5.1, .int x2]) (rest := []) K (m_X7_has q5.1 x2 q5.2) yv_X7_has ml_X7_117 rfl rfl rfl ⟨Nat.le_trans (Nat.le_of_ble_eq_true rfl) hR.1, Nat.le_trans (Nat.le_of_ble_eq_true rfl) hR.2⟩ (Nat.le_of_ble_eq_true rfl) dX7_how_123 ?_
              refine g_if_eq (tgt := 138) K dX7_how_126 (by decide) (fun c17 => ?_) (fun c17 => ?_)
              · replace h := bp c17 h
                refine g_bipush (v := (-6)) K dX7_how_138 bp_m6 ?_
                exact hr _ _ _ _ dX7_how_140 (rt2 h)
              · replace h := bn c17 h
                refine g_aload_n K 2 dX7_how_129 rfl rfl ?_
                refine g_iload_n K 3 dX7_how_130 rfl rfl ?_
                refine g_iload_n K 4 dX7_how_131 rfl rfl ?_
                obtain ⟨r18, e19, h⟩ := ob h
                refine g_cvi (As := [.int x1, .int x2]) (rest := []) K (m_X7_witness e19) yv_X7_witness ml_X7_139 rfl rfl rfl (e_ControlRegisterModel kd_132) ltN_132 rfl rfl ⟨Nat.le_trans (Nat.le_of_ble_eq_true rfl) hR.1, Nat.le_trans (Nat.le_of_ble_eq_true rfl) hR.2⟩ (Nat.le_of_ble_eq_true rfl) dX7_how_132 ?_
                refine g_goto (tgt := 140) K dX7_how_135 (by decide) ?_
                exact hr _ _ _ _ dX7_how_140 (rt2 h)
            · replace h := bn c16 h
              refine g_tableOut (tgt := 141) K dX7_how_51 (by have w0 := lv_neT (a := 0) c9 (by decide); have w1 := lv_neT (a := 1) c13 (by decide); have w2 := lv_neT (a := 2) c15 (by decide); have w3 := lv_neT (a := 3) c16 (by decide); omega) (by decide) ?_
              refine g_iload K 1 dX7_how_141 rfl ?_
              refine g_iload_n K 4 dX7_how_143 rfl rfl ?_
              refine g_csi (As := [.int q5.1, .int x2]) (rest := []) K (m_X7_has q5.1 x2 q5.2) yv_X7_has ml_X7_117 rfl rfl rfl ⟨Nat.le_trans (Nat.le_of_ble_eq_true rfl) hR.1, Nat.le_trans (Nat.le_of_ble_eq_true rfl) hR.2⟩ (Nat.le_of_ble_eq_true rfl) dX7_how_144 ?_
              refine g_if_eq (tgt := 159) K dX7_how_147 (by decide) (fun c20 => ?_) (fun c20 => ?_)
              · replace h := bp c20 h
                refine g_bipush (v := (-6)) K dX7_how_159 bp_m6 ?_
                exact hr _ _ _ _ dX7_how_161 (rt2 h)
              · replace h := bn c20 h
                refine g_aload_n K 2 dX7_how_150 rfl rfl ?_
                refine g_iload_n K 3 dX7_how_151 rfl rfl ?_
                refine g_iload_n K 4 dX7_how_152 rfl rfl ?_
                obtain ⟨r21, e22, h⟩ := ob h
                refine g_cvi (As := [.int x1, .int x2]) (rest := []) K (m_X7_chain e22) yv_X7_chain ml_X7_145 rfl rfl rfl (e_ControlRegisterModel kd_132) ltN_132 rfl rfl ⟨Nat.le_trans (Nat.le_of_ble_eq_true rfl) hR.1, Nat.le_trans (Nat.le_of_ble_eq_true rfl) hR.2⟩ (Nat.le_of_ble_eq_true rfl) dX7_how_153 ?_
                refine g_goto (tgt := 161) K dX7_how_156 (by decide) ?_
                exact hr _ _ _ _ dX7_how_161 (rt2 h)
    · replace h := bp c2 h
      refine g_bipush (v := (-2)) K dX7_how_19 bp_m2 ?_
      exact hr _ _ _ _ dX7_how_21 (rt2 h)
  · replace h := bp c1 h
    refine g_iconst (v := (-1)) K dX7_how_8 ic_m1 ?_
    exact hr _ _ _ _ dX7_how_9 (rt2 h)
theorem m_X7_how {x1 : Int32} {x2 : Int32} {x3 : Int32} {σ : Sg}  {r : Int32 × Sg} (h : f_X7_how x1 x2 x3 σ = some r) : CI yX7_how cX7_how 6 (some .int) 6 145 (fun ad => [.ref (ad 132), .int x1, .int x2, .int x3]) σ r.1 r.2 :=
  CI.of (by decide) (fun _ => Nat.le_of_ble_eq_true rfl) (fun X K hR hr => w_X7_how K hR h hr)
def L_X7_above_40 (x1 : Int32) (x2 : Int32) : Nat → Int32 → Int32 → Int32 → Sg → Option (Int32 × Int32 × Int32 × Sg)
  | 0, _, _, _, _ => none
  | n + 1, x3, x4, x5, σ =>
    if 9 ≤ x5 then
    (some (x3, x4, x5, σ))
    else
    (Option.bind (f_X7_control x5 σ) (fun q2 =>
    jn (if (f_X7_has q2.1 x1) = 0 then (0) else ((1 <<< (x5 &&& 31))) : Int32) (fun v6 =>
    if inb (f_X7_at x5 x1) 50 then
    (jn (if (q2.2.1 143 (f_X7_at x5 x1).toNatClampNeg) = 0 then (0) else ((1 <<< (x5 &&& 31))) : Int32) (fun v11 =>
    L_X7_above_40 x1 x2 n (x3 ||| v6) (x4 ||| v11) (x5 + 1) q2.2))
    else none)))
set_option maxRecDepth 20000 in
set_option maxHeartbeats 4000000 in
theorem l_X7_above_40 {X : Ctx} (K : Cok X cX7_above 6 RX7) (hR : 5 ≤ X.R.frames ∧ 120 ≤ X.R.locals) {x1 : Int32} {x2 : Int32}  :
    ∀ (n : Nat) (x3 : Int32) (x4 : Int32) (x5 : Int32) (σ : Sg) (o : (Int32 × Int32 × Int32 × Sg)), L_X7_above_40 x1 x2 n x3 x4 x5 σ = some o → G X 6 104 [(0, .ref (X.ad 132)), (1, .int x1), (2, .int x2), (3, .int o.1), (4, .int o.2.1), (5, .int o.2.2.1)] [] o.2.2.2 → G X 6 40 [(0, .ref (X.ad 132)), (1, .int x1), (2, .int x2), (3, .int x3), (4, .int x4), (5, .int x5)] [] σ := by
  intro n
  induction n with
  | zero => intro x3 x4 x5 σ o h; exact absurd h (by unfold L_X7_above_40; intro h; cases h)
  | succ n ih =>
    intro x3 x4 x5 σ o h hexit
    unfold L_X7_above_40 at h
    refine g_iload K 5 dX7_above_40 rfl ?_
    refine g_bipush (v := 9) K dX7_above_42 bp_9 ?_
    refine g_icmp_ge (tgt := 104) K dX7_above_44 (by decide) (fun c1 => ?_) (fun c1 => ?_)
    · replace h := bp c1 h
      refine g_sub [0, 1, 2, 3, 4, 5] rfl ?_
      obtain rfl := Option.some.inj h
      exact hexit
    · replace h := bn c1 h
      refine g_iload_n K 3 dX7_above_47 rfl rfl ?_
      refine g_aload_n K 0 dX7_above_48 rfl rfl ?_
      refine g_iload K 5 dX7_above_49 rfl ?_
      obtain ⟨q2, e3, h⟩ := ob h
      refine g_cvi (As := [.int x5]) (rest := [.int x3]) K (m_X7_control e3) yv_X7_control ml_X7_133 rfl rfl rfl (e_ControlRegisterModel kd_132) ltN_132 rfl rfl ⟨Nat.le_trans (Nat.le_of_ble_eq_true rfl) hR.1, Nat.le_trans (Nat.le_of_ble_eq_true rfl) hR.2⟩ (Nat.le_of_ble_eq_true rfl) dX7_above_51 ?_
      refine g_iload_n K 1 dX7_above_54 rfl rfl ?_
      refine g_csi (As := [.int q2.1, .int x1]) (rest := [.int x3]) K (m_X7_has q2.1 x1 q2.2) yv_X7_has ml_X7_117 rfl rfl rfl ⟨Nat.le_trans (Nat.le_of_ble_eq_true rfl) hR.1, Nat.le_trans (Nat.le_of_ble_eq_true rfl) hR.2⟩ (Nat.le_of_ble_eq_true rfl) dX7_above_55 ?_
      refine jn_cut h (P := (fun v6 => G X 6 69 [(0, .ref (X.ad 132)), (1, .int x1), (2, .int x2), (3, .int x3), (4, .int x4), (5, .int x5)] [.int v6, .int x3] q2.2)) (fun v6 h => ?_) (fun tail_5 => ?_)
      · refine g_ior K dX7_above_69 ?_
        refine g_istore_n (lv' := [(3, .int (x3 ||| v6)), (0, .ref (X.ad 132)), (1, .int x1), (2, .int x2), (4, .int x4), (5, .int x5)]) K dX7_above_70 rfl (by decide) rfl ?_
        refine g_iload K 4 dX7_above_71 rfl ?_
        refine g_aload_n K 1 dX7_above_73 rfl rfl ?_
        refine g_get (v := .ref (X.ad 143)) K (e_ControlRegisterModel kd_132) ltN_132 rfl 12 (by decide) rfl fw_X7_40 u_X7 dX7_above_74 ?_
        refine g_iload K 5 dX7_above_77 rfl ?_
        refine g_iload_n K 2 dX7_above_79 rfl rfl ?_
        refine g_csi (As := [.int x5, .int x1]) (rest := [.ref (X.ad 143), .int x4]) K (m_X7_at x5 x1 q2.2) yv_X7_at ml_X7_78 rfl rfl rfl ⟨Nat.le_trans (Nat.le_of_ble_eq_true rfl) hR.1, Nat.le_trans (Nat.le_of_ble_eq_true rfl) hR.2⟩ (Nat.le_of_ble_eq_true rfl) dX7_above_80 ?_
        obtain ⟨g8, h⟩ := og h
        refine g_zald K kd_143 ltN_143 g8 dX7_above_83 ?_
        refine jn_cut h (P := (fun v11 => G X 6 95 [(3, .int (x3 ||| v6)), (0, .ref (X.ad 132)), (1, .int x1), (2, .int x2), (4, .int x4), (5, .int x5)] [.int v11, .int x4] q2.2)) (fun v11 h => ?_) (fun tail_10 => ?_)
        · refine g_ior K dX7_above_95 ?_
          refine g_istore (lv' := [(4, .int (x4 ||| v11)), (3, .int (x3 ||| v6)), (0, .ref (X.ad 132)), (1, .int x1), (2, .int x2), (5, .int x5)]) K dX7_above_96 (by decide) rfl ?_
          refine g_iinc (lv' := [(5, .int (x5 + 1)), (4, .int (x4 ||| v11)), (3, .int (x3 ||| v6)), (0, .ref (X.ad 132)), (1, .int x1), (2, .int x2)]) K 5 dX7_above_98 rfl (by rw [ic_1]) (by decide) rfl ?_
          refine g_goto (tgt := 40) K dX7_above_101 (by decide) ?_
          refine g_sub [3, 4, 5, 2, 1, 0] rfl ?_
          exact ih _ _ _ _ _ h hexit
        · refine g_if_eq (tgt := 94) K dX7_above_84 (by decide) (fun c12 => ?_) (fun c12 => ?_)
          · replace h := jpp c12 h
            refine g_iconst (v := 0) K dX7_above_94 ic_0 ?_
            exact tail_10 _ h
          · replace h := jpn c12 h
            refine g_iconst (v := 1) K dX7_above_87 ic_1 ?_
            refine g_iload K 5 dX7_above_88 rfl ?_
            refine g_ishl K dX7_above_90 ?_
            refine g_goto (tgt := 95) K dX7_above_91 (by decide) ?_
            exact tail_10 _ h
      · refine g_if_eq (tgt := 68) K dX7_above_58 (by decide) (fun c7 => ?_) (fun c7 => ?_)
        · replace h := jpp c7 h
          refine g_iconst (v := 0) K dX7_above_68 ic_0 ?_
          exact tail_5 _ h
        · replace h := jpn c7 h
          refine g_iconst (v := 1) K dX7_above_61 ic_1 ?_
          refine g_iload K 5 dX7_above_62 rfl ?_
          refine g_ishl K dX7_above_64 ?_
          refine g_goto (tgt := 69) K dX7_above_65 (by decide) ?_
          exact tail_5 _ h
def f_X7_above (x1 : Int32) (x2 : Int32) (σ : Sg) : Option (Int32 × Sg) :=
  if (f_X7_isFirm x1) = 0 then
  (some ((-1), σ))
  else
  (if (f_X7_in x2 0 3) = 0 then
  (some ((-2), σ))
  else
  (Option.bind (f_X7_lay (σ.1 132 7) (-6) σ) (fun q3 =>
  Option.bind (L_X7_above_40 x1 x2 FU 0 0 0 q3.2) (fun o5 =>
  if x2 = 0 then
  (some ((o5.1 &&& 15), o5.2.2.2))
  else
  (if x2 = 1 then
  (some ((o5.1 >>> (4 &&& 31)), o5.2.2.2))
  else
  (if x2 = 2 then
  (some (o5.2.1, o5.2.2.2))
  else
  (some (((o5.1 >>> ((4 + x1) &&& 31)) &&& 1), o5.2.2.2))))))))
set_option maxRecDepth 20000 in
set_option maxHeartbeats 4000000 in
theorem w_X7_above {X : Ctx} (K : Cok X cX7_above 6 RX7) (hR : 5 ≤ X.R.frames ∧ 120 ≤ X.R.locals) {x1 : Int32} {x2 : Int32} {σ : Sg}  {r : Int32 × Sg} (h : f_X7_above x1 x2 σ = some r) (hr : RI X cX7_above 6 r) : G X 6 0 [(0, .ref (X.ad 132)), (1, .int x1), (2, .int x2)] [] σ := by
  unfold f_X7_above at h
  refine g_iload_n K 1 dX7_above_0 rfl rfl ?_
  refine g_csi (As := [.int x1]) (rest := []) K (m_X7_isFirm x1 σ) yv_X7_isFirm ml_X7_93 rfl rfl rfl ⟨Nat.le_trans (Nat.le_of_ble_eq_true rfl) hR.1, Nat.le_trans (Nat.le_of_ble_eq_true rfl) hR.2⟩ (Nat.le_of_ble_eq_true rfl) dX7_above_1 ?_
  refine g_if_ne (tgt := 9) K dX7_above_4 (by decide) (fun c1 => ?_) (fun c1 => ?_)
  · replace h := bn c1 h
    refine g_iload_n K 2 dX7_above_9 rfl rfl ?_
    refine g_iconst (v := 0) K dX7_above_10 ic_0 ?_
    refine g_iconst (v := 3) K dX7_above_11 ic_3 ?_
    refine g_csi (As := [.int x2, .int 0, .int 3]) (rest := []) K (m_X7_in x2 0 3 σ) yv_X7_in ml_X7_66 rfl rfl rfl ⟨Nat.le_trans (Nat.le_of_ble_eq_true rfl) hR.1, Nat.le_trans (Nat.le_of_ble_eq_true rfl) hR.2⟩ (Nat.le_of_ble_eq_true rfl) dX7_above_12 ?_
    refine g_if_ne (tgt := 21) K dX7_above_15 (by decide) (fun c2 => ?_) (fun c2 => ?_)
    · replace h := bn c2 h
      refine g_aload_n K 0 dX7_above_21 rfl rfl ?_
      refine g_aload_n K 0 dX7_above_22 rfl rfl ?_
      refine g_get (v := .int (σ.1 132 7)) K (e_ControlRegisterModel kd_132) ltN_132 rfl 7 (by decide) rfl fw_X7_114 u_X7 dX7_above_23 ?_
      refine g_bipush (v := (-6)) K dX7_above_26 bp_m6 ?_
      obtain ⟨q3, e4, h⟩ := ob h
      refine g_cvi (As := [.int (σ.1 132 7), .int (-6)]) (rest := []) K (m_X7_lay e4) yv_X7_lay ml_X7_89 rfl rfl rfl (e_ControlRegisterModel kd_132) ltN_132 rfl rfl ⟨Nat.le_trans (Nat.le_of_ble_eq_true rfl) hR.1, Nat.le_trans (Nat.le_of_ble_eq_true rfl) hR.2⟩ (Nat.le_of_ble_eq_true rfl) dX7_above_28 ?_
      refine g_pop K dX7_above_31 rfl ?_
      refine g_iconst (v := 0) K dX7_above_32 ic_0 ?_
      refine g_istore_n (lv' := [(3, .int 0), (0, .ref (X.ad 132)), (1, .int x1), (2, .int x2)]) K dX7_above_33 rfl (by decide) rfl ?_
      refine g_iconst (v := 0) K dX7_above_34 ic_0 ?_
      refine g_istore (lv' := [(4, .int 0), (3, .int 0), (0, .ref (X.ad 132)), (1, .int x1), (2, .int x2)]) K dX7_above_35 (by decide) rfl ?_
      refine g_iconst (v := 0) K dX7_above_37 ic_0 ?_
      refine g_istore (lv' := [(5, .int 0), (4, .int 0), (3, .int 0), (0, .ref (X.ad 132)), (1, .int x1), (2, .int x2)]) K dX7_above_38 (by decide) rfl ?_
      obtain ⟨o5, e6, h⟩ := ob h
      refine g_sub [3, 4, 5, 2, 1, 0] rfl ?_
      refine l_X7_above_40 K hR _ _ _ _ _ _ e6 ?_
      refine g_iload_n K 2 dX7_above_104 rfl rfl ?_
      refine g_if_ne (tgt := 115) K dX7_above_105 (by decide) (fun c7 => ?_) (fun c7 => ?_)
      · replace h := bn c7 h
        refine g_iload_n K 2 dX7_above_115 rfl rfl ?_
        refine g_iconst (v := 1) K dX7_above_116 ic_1 ?_
        refine g_icmp_ne (tgt := 126) K dX7_above_117 (by decide) (fun c8 => ?_) (fun c8 => ?_)
        · replace h := bn c8 h
          refine g_iload_n K 2 dX7_above_126 rfl rfl ?_
          refine g_iconst (v := 2) K dX7_above_127 ic_2 ?_
          refine g_icmp_ne (tgt := 136) K dX7_above_128 (by decide) (fun c9 => ?_) (fun c9 => ?_)
          · replace h := bn c9 h
            refine g_iload_n K 3 dX7_above_136 rfl rfl ?_
            refine g_iconst (v := 4) K dX7_above_137 ic_4 ?_
            refine g_iload_n K 1 dX7_above_138 rfl rfl ?_
            refine g_iadd K dX7_above_139 ?_
            refine g_ishr K dX7_above_140 ?_
            refine g_iconst (v := 1) K dX7_above_141 ic_1 ?_
            refine g_iand K dX7_above_142 ?_
            exact hr _ _ _ _ dX7_above_143 (rt2 h)
          · replace h := bp c9 h
            refine g_iload K 4 dX7_above_131 rfl ?_
            refine g_goto (tgt := 143) K dX7_above_133 (by decide) ?_
            exact hr _ _ _ _ dX7_above_143 (rt2 h)
        · replace h := bp c8 h
          refine g_iload_n K 3 dX7_above_120 rfl rfl ?_
          refine g_iconst (v := 4) K dX7_above_121 ic_4 ?_
          refine g_ishr K dX7_above_122 ?_
          refine g_goto (tgt := 143) K dX7_above_123 (by decide) ?_
          exact hr _ _ _ _ dX7_above_143 (rt2 h)
      · replace h := bp c7 h
        refine g_iload_n K 3 dX7_above_108 rfl rfl ?_
        refine g_bipush (v := 15) K dX7_above_109 bp_15 ?_
        refine g_iand K dX7_above_111 ?_
        refine g_goto (tgt := 143) K dX7_above_112 (by decide) ?_
        exact hr _ _ _ _ dX7_above_143 (rt2 h)
    · replace h := bp c2 h
      refine g_bipush (v := (-2)) K dX7_above_18 bp_m2 ?_
      exact hr _ _ _ _ dX7_above_20 (rt2 h)
  · replace h := bp c1 h
    refine g_iconst (v := (-1)) K dX7_above_7 ic_m1 ?_
    exact hr _ _ _ _ dX7_above_8 (rt2 h)
theorem m_X7_above {x1 : Int32} {x2 : Int32} {σ : Sg}  {r : Int32 × Sg} (h : f_X7_above x1 x2 σ = some r) : CI yX7_above cX7_above 6 (some .int) 5 120 (fun ad => [.ref (ad 132), .int x1, .int x2]) σ r.1 r.2 :=
  CI.of (by decide) (fun _ => Nat.le_of_ble_eq_true rfl) (fun X K hR hr => w_X7_above K hR h hr)
