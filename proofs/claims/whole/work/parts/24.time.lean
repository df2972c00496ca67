def f_X5_isControlled (x1 : Int32) (x2 : Int32) (x3 : Int32) (σ : Sg) : Option Int32 :=
  if x1 < 0 then
  (some 0)
  else
  (if inb x1 40 then
  (if inb x2 9 then
  (if (f_X6_has (σ.1 (90 + 1 + x1.toNatClampNeg) x2.toNatClampNeg) x3) = 0 then
  (some 0)
  else
  (some 1))
  else none)
  else none)
set_option maxRecDepth 20000 in
set_option maxHeartbeats 4000000 in
theorem w_X5_isControlled {X : Ctx} (K : Cok X cX5_isControlled 4 RX5) (hR : 1 ≤ X.R.frames ∧ 21 ≤ X.R.locals) {x1 : Int32} {x2 : Int32} {x3 : Int32} {σ : Sg}  {r : Int32} (h : f_X5_isControlled x1 x2 x3 σ = some r) (hr : RZ X cX5_isControlled 4 (r, σ)) : G X 4 0 [(0, .ref (X.ad 88)), (1, .int x1), (2, .int x2), (3, .int x3)] [] σ := by
  unfold f_X5_isControlled at h
  refine g_iload_n K 1 dX5_isControlled_0 rfl rfl ?_
  refine g_if_lt (tgt := 23) K dX5_isControlled_1 (by decide) (fun c1 => ?_) (fun c1 => ?_)
  · replace h := bp c1 h
    refine g_iconst (v := 0) K dX5_isControlled_23 ic_0 ?_
    exact hr _ _ _ _ dX5_isControlled_24 (rt1 h) nb_0
  · replace h := bn c1 h
    refine g_aload_n K 0 dX5_isControlled_4 rfl rfl ?_
    refine g_get (v := .ref (X.ad 90)) K (e_Timeline kd_88) ltN_88 rfl 1 (by decide) rfl fw_X5_17 u_X5 dX5_isControlled_5 ?_
    refine g_iload_n K 1 dX5_isControlled_8 rfl rfl ?_
    obtain ⟨g2, h⟩ := og h
    refine g_aaldI K kd_90 ltN_90 g2 dX5_isControlled_9 ?_
    refine g_iload_n K 2 dX5_isControlled_10 rfl rfl ?_
    obtain ⟨g3, h⟩ := og h
    refine g_iald K (tl_r g2) (tl_s g2) g3 dX5_isControlled_11 ?_
    refine g_iload_n K 3 dX5_isControlled_12 rfl rfl ?_
    refine g_cni (As := [.int (σ.1 (90 + 1 + x1.toNatClampNeg) x2.toNatClampNeg), .int x3]) (rest := []) K (m_X6_has (σ.1 (90 + 1 + x1.toNatClampNeg) x2.toNatClampNeg) x3 σ) yv_X6_has ne_X5_75 rfl rfl rfl ⟨Nat.le_trans (Nat.le_of_ble_eq_true rfl) hR.1, Nat.le_trans (Nat.le_of_ble_eq_true rfl) hR.2⟩ (Nat.le_of_ble_eq_true rfl) dX5_isControlled_13 ?_
    refine g_if_eq (tgt := 23) K dX5_isControlled_16 (by decide) (fun c4 => ?_) (fun c4 => ?_)
    · replace h := bp c4 h
      refine g_iconst (v := 0) K dX5_isControlled_23 ic_0 ?_
      exact hr _ _ _ _ dX5_isControlled_24 (rt1 h) nb_0
    · replace h := bn c4 h
      refine g_iconst (v := 1) K dX5_isControlled_19 ic_1 ?_
      refine g_goto (tgt := 24) K dX5_isControlled_20 (by decide) ?_
      exact hr _ _ _ _ dX5_isControlled_24 (rt1 h) nb_1
theorem m_X5_isControlled {x1 : Int32} {x2 : Int32} {x3 : Int32} {σ : Sg}  {r : Int32} (h : f_X5_isControlled x1 x2 x3 σ = some r) : CI yX5_isControlled cX5_isControlled 4 (some .boolean) 1 21 (fun ad => [.ref (ad 88), .int x1, .int x2, .int x3]) σ r σ :=
  CZ.of (by decide) (fun _ => Nat.le_of_ble_eq_true rfl) (fun X K hR hr => w_X5_isControlled K hR h hr)
def f_X5_listEvent (x1 : Int32) (x2 : Int32) (x3 : Int32) (σ : Sg) : Option Sg :=
  Option.bind (f_X5_isControlled x1 x2 x3 σ) (fun r1 =>
  Option.bind (f_X5_isControlled (x1 - 1) x2 x3 σ) (fun r3 =>
  if r1 = r3 then
  (some (σ))
  else
  (if 1800 ≤ (σ.1 88 4) then
  (some (σ))
  else
  (if inb (σ.1 88 4) 1800 then
  (jn (setR σ 131 (upd (σ.1 131) (σ.1 88 4).toNatClampNeg ((((((x1 * 9) + x2) * 5) + x3) * 2) + (f_X6_asNumber r1)))) (fun σ8 =>
  jn (setR σ8 88 (upd (σ8.1 88) 4 ((σ8.1 88 4) + 1))) (fun σ10 =>
  some (σ10))))
  else none))))
set_option maxRecDepth 20000 in
set_option maxHeartbeats 4000000 in
theorem w_X5_listEvent {X : Ctx} (K : Cok X cX5_listEvent 5 RX5) (hR : 2 ≤ X.R.frames ∧ 44 ≤ X.R.locals) {x1 : Int32} {x2 : Int32} {x3 : Int32} {σ : Sg}  {r : Sg} (h : f_X5_listEvent x1 x2 x3 σ = some r) (hr : RV X cX5_listEvent 5 r) : G X 5 0 [(0, .ref (X.ad 88)), (1, .int x1), (2, .int x2), (3, .int x3)] [] σ := by
  unfold f_X5_listEvent at h
  refine g_aload_n K 0 dX5_listEvent_0 rfl rfl ?_
  refine g_iload_n K 1 dX5_listEvent_1 rfl rfl ?_
  refine g_iload_n K 2 dX5_listEvent_2 rfl rfl ?_
  refine g_iload_n K 3 dX5_listEvent_3 rfl rfl ?_
  obtain ⟨r1, e2, h⟩ := ob h
  refine g_cvi (As := [.int x1, .int x2, .int x3]) (rest := []) K (m_X5_isControlled e2) yv_X5_isControlled ml_X5_67 rfl rfl rfl (e_Timeline kd_88) ltN_88 rfl rfl ⟨Nat.le_trans (Nat.le_of_ble_eq_true rfl) hR.1, Nat.le_trans (Nat.le_of_ble_eq_true rfl) hR.2⟩ (Nat.le_of_ble_eq_true rfl) dX5_listEvent_4 ?_
  refine g_istore (lv' := [(4, .int r1), (0, .ref (X.ad 88)), (1, .int x1), (2, .int x2), (3, .int x3)]) K dX5_listEvent_7 (by decide) rfl ?_
  refine g_iload K 0 dX5_listEvent_9 rfl ?_
  refine g_aload_n K 1 dX5_listEvent_11 rfl rfl ?_
  refine g_iload_n K 2 dX5_listEvent_12 rfl rfl ?_
  refine g_iconst (v := 1) K dX5_listEvent_13 ic_1 ?_
  refine g_isub K dX5_listEvent_14 ?_
  refine g_iload_n K 3 dX5_listEvent_15 rfl rfl ?_
  refine g_iload_n K 4 dX5_listEvent_16 rfl rfl ?_
  obtain ⟨r3, e4, h⟩ := ob h
  refine g_cvi (As := [.int (x1 - 1), .int x2, .int x3]) (rest := [.int r1]) K (m_X5_isControlled e4) yv_X5_isControlled ml_X5_67 rfl rfl rfl (e_Timeline kd_88) ltN_88 rfl rfl ⟨Nat.le_trans (Nat.le_of_ble_eq_true rfl) hR.1, Nat.le_trans (Nat.le_of_ble_eq_true rfl) hR.2⟩ (Nat.le_of_ble_eq_true rfl) dX5_listEvent_17 ?_
  refine g_icmp_eq (tgt := 70) K dX5_listEvent_20 (by decide) (fun c5 => ?_) (fun c5 => ?_)
  · replace h := bp c5 h
    exact hr _ _ _ dX5_listEvent_70 (rt2 h)
  · replace h := bn c5 h
    refine g_aload_n K 1 dX5_listEvent_23 rfl rfl ?_
    refine g_get (v := .int (σ.1 88 4)) K (e_Timeline kd_88) ltN_88 rfl 4 (by decide) rfl fw_X5_60 u_X5 dX5_listEvent_24 ?_
    refine g_sipush (v := 1800) K dX5_listEvent_27 sp_1800 ?_
    refine g_icmp_ge (tgt := 70) K dX5_listEvent_30 (by decide) (fun c6 => ?_) (fun c6 => ?_)
    · replace h := bp c6 h
      exact hr _ _ _ dX5_listEvent_70 (rt2 h)
    · replace h := bn c6 h
      refine g_aload_n K 1 dX5_listEvent_33 rfl rfl ?_
      refine g_get (v := .ref (X.ad 131)) K (e_Timeline kd_88) ltN_88 rfl 3 (by decide) rfl fw_X5_20 u_X5 dX5_listEvent_34 ?_
      refine g_aload_n K 1 dX5_listEvent_37 rfl rfl ?_
      refine g_get (v := .int (σ.1 88 4)) K (e_Timeline kd_88) ltN_88 rfl 4 (by decide) rfl fw_X5_60 u_X5 dX5_listEvent_38 ?_
      refine g_iload_n K 2 dX5_listEvent_41 rfl rfl ?_
      refine g_bipush (v := 9) K dX5_listEvent_42 bp_9 ?_
      refine g_imul K dX5_listEvent_44 ?_
      refine g_iload_n K 3 dX5_listEvent_45 rfl rfl ?_
      refine g_iadd K dX5_listEvent_46 ?_
      refine g_iconst (v := 5) K dX5_listEvent_47 ic_5 ?_
      refine g_imul K dX5_listEvent_48 ?_
      refine g_iload_n K 4 dX5_listEvent_49 rfl rfl ?_
      refine g_iadd K dX5_listEvent_50 ?_
      refine g_iconst (v := 2) K dX5_listEvent_51 ic_2 ?_
      refine g_imul K dX5_listEvent_52 ?_
      refine g_iload K 0 dX5_listEvent_53 rfl ?_
      refine g_cni (As := [.int r1]) (rest := [.int (((((x1 * 9) + x2) * 5) + x3) * 2), .int (σ.1 88 4), .ref (X.ad 131)]) K (m_X6_asNumber r1 σ) yv_X6_asNumber ne_X5_71 rfl rfl rfl ⟨Nat.le_trans (Nat.le_of_ble_eq_true rfl) hR.1, Nat.le_trans (Nat.le_of_ble_eq_true rfl) hR.2⟩ (Nat.le_of_ble_eq_true rfl) dX5_listEvent_55 ?_
      refine g_iadd K dX5_listEvent_58 ?_
      obtain ⟨g7, h⟩ := og h
      refine g_iast K kd_131 ltN_131 g7 dX5_listEvent_59 (fun σ8 s9 => ?_)
      replace h := jn_at s9 h
      refine g_aload_n K 1 dX5_listEvent_60 rfl rfl ?_
      refine g_dup K dX5_listEvent_61 rfl ?_
      refine g_get (v := .int (σ8.1 88 4)) K (e_Timeline kd_88) ltN_88 rfl 4 (by decide) rfl fw_X5_60 u_X5 dX5_listEvent_62 ?_
      refine g_iconst (v := 1) K dX5_listEvent_65 ic_1 ?_
      refine g_iadd K dX5_listEvent_66 ?_
      refine g_put (f' := (upd (σ8.1 88) 4 ((σ8.1 88 4) + 1))) K (e_Timeline kd_88) ltN_88 rfl 4 (by decide) (e_Timeline kd_88) tyX5 tyX5_ok nmX5 rfl (ty := .int) (by decide +kernel) rfl rfl (Nat.le_of_ble_eq_true rfl) fw_X5_60 u_X5 dX5_listEvent_67 (fun σ10 s11 => ?_)
      replace h := jn_at s11 h
      exact hr _ _ _ dX5_listEvent_70 (rt2 h)
theorem m_X5_listEvent {x1 : Int32} {x2 : Int32} {x3 : Int32} {σ : Sg}  {r : Sg} (h : f_X5_listEvent x1 x2 x3 σ = some r) : CV yX5_listEvent cX5_listEvent 5 none 2 44 (fun ad => [.ref (ad 88), .int x1, .int x2, .int x3]) σ r :=
  CV.of (by decide) (fun _ => Nat.le_of_ble_eq_true rfl) (fun X K hR hr => w_X5_listEvent K hR h hr)
def L_X5_listEvents_25 (x1 : Int32) (x2 : Int32) : Nat → Int32 → Sg → Option (Int32 × Sg)
  | 0, _, _ => none
  | n + 1, x3, σ =>
    if 5 ≤ x3 then
    (some (x3, σ))
    else
    (Option.bind (f_X5_listEvent x1 x2 x3 σ) (fun q2 =>
    L_X5_listEvents_25 x1 x2 n (x3 + 1) q2))
set_option maxRecDepth 20000 in
set_option maxHeartbeats 4000000 in
theorem l_X5_listEvents_25 {X : Ctx} (K : Cok X cX5_listEvents 4 RX5) (hR : 3 ≤ X.R.frames ∧ 68 ≤ X.R.locals) {x1 : Int32} {x2 : Int32}  :
    ∀ (n : Nat) (x3 : Int32) (σ : Sg) (o : (Int32 × Sg)), L_X5_listEvents_25 x1 x2 n x3 σ = some o → G X 4 43 [(0, .ref (X.ad 88)), (1, .int x1), (2, .int x2), (3, .int o.1)] [] o.2 → G X 4 25 [(0, .ref (X.ad 88)), (1, .int x1), (2, .int x2), (3, .int x3)] [] σ := by
  intro n
  induction n with
  | zero => intro x3 σ o h; exact absurd h (by unfold L_X5_listEvents_25; intro h; cases h)
  | succ n ih =>
    intro x3 σ o h hexit
    unfold L_X5_listEvents_25 at h
    refine g_iload_n K 3 dX5_listEvents_25 rfl rfl ?_
    refine g_iconst (v := 5) K dX5_listEvents_26 ic_5 ?_
    refine g_icmp_ge (tgt := 43) K dX5_listEvents_27 (by decide) (fun c1 => ?_) (fun c1 => ?_)
    · replace h := bp c1 h
      refine g_sub [0, 1, 2, 3] rfl ?_
      obtain rfl := Option.some.inj h
      exact hexit
    · replace h := bn c1 h
      refine g_aload_n K 0 dX5_listEvents_30 rfl rfl ?_
      refine g_iload_n K 1 dX5_listEvents_31 rfl rfl ?_
      refine g_iload_n K 2 dX5_listEvents_32 rfl rfl ?_
      refine g_iload_n K 3 dX5_listEvents_33 rfl rfl ?_
      obtain ⟨q2, e3, h⟩ := ob h
      refine g_cvv (As := [.int x1, .int x2, .int x3]) (rest := []) K (m_X5_listEvent e3) yv_X5_listEvent ml_X5_63 rfl rfl rfl (e_Timeline kd_88) ltN_88 rfl rfl ⟨Nat.le_trans (Nat.le_of_ble_eq_true rfl) hR.1, Nat.le_trans (Nat.le_of_ble_eq_true rfl) hR.2⟩ (Nat.le_of_ble_eq_true rfl) dX5_listEvents_34 ?_
      refine g_iinc (lv' := [(3, .int (x3 + 1)), (0, .ref (X.ad 88)), (1, .int x1), (2, .int x2)]) K 3 dX5_listEvents_37 rfl (by rw [ic_1]) (by decide) rfl ?_
      refine g_goto (tgt := 25) K dX5_listEvents_40 (by decide) ?_
      refine g_sub [1, 2, 3, 0] rfl ?_
      exact ih _ _ _ h hexit
def L_X5_listEvents_17 (x1 : Int32) : Nat → Int32 → Sg → Option (Int32 × Sg)
  | 0, _, _ => none
  | n + 1, x2, σ =>
    if 9 ≤ x2 then
    (some (x2, σ))
    else
    (Option.bind (L_X5_listEvents_25 x1 x2 FU 0 σ) (fun o2 =>
    L_X5_listEvents_17 x1 n (x2 + 1) o2.2))
set_option maxRecDepth 20000 in
set_option maxHeartbeats 4000000 in
theorem l_X5_listEvents_17 {X : Ctx} (K : Cok X cX5_listEvents 4 RX5) (hR : 3 ≤ X.R.frames ∧ 68 ≤ X.R.locals) {x1 : Int32}  :
    ∀ (n : Nat) (x2 : Int32) (σ : Sg) (o : (Int32 × Sg)), L_X5_listEvents_17 x1 n x2 σ = some o → G X 4 49 [(0, .ref (X.ad 88)), (1, .int x1), (2, .int o.1)] [] o.2 → G X 4 17 [(0, .ref (X.ad 88)), (1, .int x1), (2, .int x2)] [] σ := by
  intro n
  induction n with
  | zero => intro x2 σ o h; exact absurd h (by unfold L_X5_listEvents_17; intro h; cases h)
  | succ n ih =>
    intro x2 σ o h hexit
    unfold L_X5_listEvents_17 at h
    refine g_iload_n K 2 dX5_listEvents_17 rfl rfl ?_
    refine g_bipush (v := 9) K dX5_listEvents_18 bp_9 ?_
    refine g_icmp_ge (tgt := 49) K dX5_listEvents_20 (by decide) (fun c1 => ?_) (fun c1 => ?_)
    · replace h := bp c1 h
      refine g_sub [0, 1, 2] rfl ?_
      obtain rfl := Option.some.inj h
      exact hexit
    · replace h := bn c1 h
      refine g_iconst (v := 0) K dX5_listEvents_23 ic_0 ?_
      refine g_istore_n (lv' := [(3, .int 0), (0, .ref (X.ad 88)), (1, .int x1), (2, .int x2)]) K dX5_listEvents_24 rfl (by decide) rfl ?_
      obtain ⟨o2, e3, h⟩ := ob h
      refine g_sub [1, 2, 3, 0] rfl ?_
      refine l_X5_listEvents_25 K hR _ _ _ _ e3 ?_
      refine g_iinc (lv' := [(2, .int (x2 + 1)), (0, .ref (X.ad 88)), (1, .int x1), (3, .int o2.1)]) K 2 dX5_listEvents_43 rfl (by rw [ic_1]) (by decide) rfl ?_
      refine g_goto (tgt := 17) K dX5_listEvents_46 (by decide) ?_
      refine g_sub [1, 2, 0] rfl ?_
      exact ih _ _ _ h hexit
def L_X5_listEvents_7  : Nat → Int32 → Sg → Option (Int32 × Sg)
  | 0, _, _ => none
  | n + 1, x1, σ =>
    if (σ.1 88 2) ≤ x1 then
    (some (x1, σ))
    else
    (Option.bind (L_X5_listEvents_17 x1 FU 0 σ) (fun o2 =>
    L_X5_listEvents_7 n (x1 + 1) o2.2))
set_option maxRecDepth 20000 in
set_option maxHeartbeats 4000000 in
theorem l_X5_listEvents_7 {X : Ctx} (K : Cok X cX5_listEvents 4 RX5) (hR : 3 ≤ X.R.frames ∧ 68 ≤ X.R.locals)   :
    ∀ (n : Nat) (x1 : Int32) (σ : Sg) (o : (Int32 × Sg)), L_X5_listEvents_7  n x1 σ = some o → G X 4 55 [(0, .ref (X.ad 88)), (1, .int o.1)] [] o.2 → G X 4 7 [(0, .ref (X.ad 88)), (1, .int x1)] [] σ := by
  intro n
  induction n with
  | zero => intro x1 σ o h; exact absurd h (by unfold L_X5_listEvents_7; intro h; cases h)
  | succ n ih =>
    intro x1 σ o h hexit
    unfold L_X5_listEvents_7 at h
    refine g_iload_n K 1 dX5_listEvents_7 rfl rfl ?_
    refine g_aload_n K 0 dX5_listEvents_8 rfl rfl ?_
    refine g_get (v := .int (σ.1 88 2)) K (e_Timeline kd_88) ltN_88 rfl 2 (by decide) rfl fw_X5_23 u_X5 dX5_listEvents_9 ?_
    refine g_icmp_ge (tgt := 55) K dX5_listEvents_12 (by decide) (fun c1 => ?_) (fun c1 => ?_)
    · replace h := bp c1 h
      refine g_sub [0, 1] rfl ?_
      obtain rfl := Option.some.inj h
      exact hexit
    · replace h := bn c1 h
      refine g_iconst (v := 0) K dX5_listEvents_15 ic_0 ?_
      refine g_istore_n (lv' := [(2, .int 0), (0, .ref (X.ad 88)), (1, .int x1)]) K dX5_listEvents_16 rfl (by decide) rfl ?_
      obtain ⟨o2, e3, h⟩ := ob h
      refine g_sub [1, 2, 0] rfl ?_
      refine l_X5_listEvents_17 K hR _ _ _ _ e3 ?_
      refine g_iinc (lv' := [(1, .int (x1 + 1)), (0, .ref (X.ad 88)), (2, .int o2.1)]) K 1 dX5_listEvents_49 rfl (by rw [ic_1]) (by decide) rfl ?_
      refine g_goto (tgt := 7) K dX5_listEvents_52 (by decide) ?_
      refine g_sub [1, 0] rfl ?_
      exact ih _ _ _ h hexit
def f_X5_listEvents  (σ : Sg) : Option Sg :=
  jn (setR σ 88 (upd (σ.1 88) 4 0)) (fun σ1 =>
  Option.bind (L_X5_listEvents_7 FU 0 σ1) (fun o3 =>
  some o3.2))
set_option maxRecDepth 20000 in
set_option maxHeartbeats 4000000 in
theorem w_X5_listEvents {X : Ctx} (K : Cok X cX5_listEvents 4 RX5) (hR : 3 ≤ X.R.frames ∧ 68 ≤ X.R.locals)  {σ : Sg}  {r : Sg} (h : f_X5_listEvents σ = some r) (hr : RV X cX5_listEvents 4 r) : G X 4 0 [(0, .ref (X.ad 88))] [] σ := by
  unfold f_X5_listEvents at h
  refine g_aload_n K 0 dX5_listEvents_0 rfl rfl ?_
  refine g_iconst (v := 0) K dX5_listEvents_1 ic_0 ?_
  refine g_put (f' := (upd (σ.1 88) 4 0)) K (e_Timeline kd_88) ltN_88 rfl 4 (by decide) (e_Timeline kd_88) tyX5 tyX5_ok nmX5 rfl (ty := .int) (by decide +kernel) rfl rfl (Nat.le_of_ble_eq_true rfl) fw_X5_60 u_X5 dX5_listEvents_2 (fun σ1 s2 => ?_)
  replace h := jn_at s2 h
  refine g_iconst (v := 0) K dX5_listEvents_5 ic_0 ?_
  refine g_istore_n (lv' := [(1, .int 0), (0, .ref (X.ad 88))]) K dX5_listEvents_6 rfl (by decide) rfl ?_
  obtain ⟨o3, e4, h⟩ := ob h
  refine g_sub [1, 0] rfl ?_
  refine l_X5_listEvents_7 K hR _ _ _ _ e4 ?_
  exact hr _ _ _ dX5_listEvents_55 (rt2 h)
theorem m_X5_listEvents  {σ : Sg}  {r : Sg} (h : f_X5_listEvents σ = some r) : CV yX5_listEvents cX5_listEvents 4 none 3 68 (fun ad => [.ref (ad 88)]) σ r :=
  CV.of (by decide) (fun _ => Nat.le_of_ble_eq_true rfl) (fun X K hR hr => w_X5_listEvents K hR h hr)
def L_X5_workOut_59 (b1 : Nat) (b2 : Nat) (b3 : Nat) (x4 : Int32) (x5 : Int32) : Nat → Int32 → Sg → Option (Int32 × Sg)
  | 0, _, _ => none
  | n + 1, x6, σ =>
    if 9 ≤ x6 then
    (some (x6, σ))
    else
    (Option.bind (f_X1_workOut b3 x6 b2 b1 σ) (fun q2 =>
    if inb (q2.1 88 2) 40 then
    (if inb x6 9 then
    (if inb x6 9 then
    (jn (setR q2 (90 + 1 + (q2.1 88 2).toNatClampNeg) (upd (q2.1 (90 + 1 + (q2.1 88 2).toNatClampNeg)) x6.toNatClampNeg (q2.1 (b3 + 1) x6.toNatClampNeg))) (fun σ7 =>
    L_X5_workOut_59 b1 b2 b3 x4 x5 n (x6 + 1) σ7))
    else none)
    else none)
    else none))
set_option maxRecDepth 20000 in
set_option maxHeartbeats 4000000 in
theorem l_X5_workOut_59 {X : Ctx} (K : Cok X cX5_workOut 7 RX5) (hR : 4 ≤ X.R.frames ∧ 101 ≤ X.R.locals) {b1 : Nat} {b2 : Nat} {b3 : Nat} {x4 : Int32} {x5 : Int32} (hb1 : isBook b1) (hb2 : isHold b2) (hb3 : isCtrl b3) :
    ∀ (n : Nat) (x6 : Int32) (σ : Sg) (o : (Int32 × Sg)), L_X5_workOut_59 b1 b2 b3 x4 x5 n x6 σ = some o → G X 7 99 [(0, .ref (X.ad 88)), (1, .ref (X.ad b1)), (2, .ref (X.ad b2)), (3, .ref (X.ad b3)), (4, .int x4), (5, .int x5), (6, .int o.1)] [] o.2 → G X 7 59 [(0, .ref (X.ad 88)), (1, .ref (X.ad b1)), (2, .ref (X.ad b2)), (3, .ref (X.ad b3)), (4, .int x4), (5, .int x5), (6, .int x6)] [] σ := by
  intro n
  induction n with
  | zero => intro x6 σ o h; exact absurd h (by unfold L_X5_workOut_59; intro h; cases h)
  | succ n ih =>
    intro x6 σ o h hexit
    unfold L_X5_workOut_59 at h
    refine g_iload K 6 dX5_workOut_59 rfl ?_
    refine g_bipush (v := 9) K dX5_workOut_61 bp_9 ?_
    refine g_icmp_ge (tgt := 99) K dX5_workOut_63 (by decide) (fun c1 => ?_) (fun c1 => ?_)
    · replace h := bp c1 h
      refine g_sub [0, 1, 2, 3, 4, 5, 6] rfl ?_
      obtain rfl := Option.some.inj h
      exact hexit
    · replace h := bn c1 h
      refine g_aload_n K 3 dX5_workOut_66 rfl rfl ?_
      refine g_iload K 6 dX5_workOut_67 rfl ?_
      refine g_aload_n K 2 dX5_workOut_69 rfl rfl ?_
      refine g_aload_n K 1 dX5_workOut_70 rfl rfl ?_
      obtain ⟨q2, e3, h⟩ := ob h
      refine g_cvv (As := [.int x6, .ref (X.ad b2), .ref (X.ad b1)]) (rest := []) K (m_X1_workOut hb3 hb2 hb1 e3) yv_X1_workOut ml_X5_46 rfl rfl rfl (e_Control (ct_k0 hb3)) (ct_l0 hb3) rfl rfl ⟨Nat.le_trans (Nat.le_of_ble_eq_true rfl) hR.1, Nat.le_trans (Nat.le_of_ble_eq_true rfl) hR.2⟩ (Nat.le_of_ble_eq_true rfl) dX5_workOut_71 ?_
      refine g_aload_n K 0 dX5_workOut_74 rfl rfl ?_
      refine g_get (v := .ref (X.ad 90)) K (e_Timeline kd_88) ltN_88 rfl 1 (by decide) rfl fw_X5_17 u_X5 dX5_workOut_75 ?_
      refine g_aload_n K 0 dX5_workOut_78 rfl rfl ?_
      refine g_get (v := .int (q2.1 88 2)) K (e_Timeline kd_88) ltN_88 rfl 2 (by decide) rfl fw_X5_23 u_X5 dX5_workOut_79 ?_
      obtain ⟨g4, h⟩ := og h
      refine g_aaldI K kd_90 ltN_90 g4 dX5_workOut_82 ?_
      refine g_iload K 6 dX5_workOut_83 rfl ?_
      refine g_aload_n K 3 dX5_workOut_85 rfl rfl ?_
      refine g_get (v := .ref (X.ad (b3 + 1))) K (e_Control (ct_k0 hb3)) (ct_l0 hb3) rfl 0 (by decide) rfl fw_X5_52 u_X1 dX5_workOut_86 ?_
      refine g_iload K 6 dX5_workOut_89 rfl ?_
      obtain ⟨g5, h⟩ := og h
      refine g_iald K (ct_k1 hb3) (ct_l1 hb3) g5 dX5_workOut_91 ?_
      obtain ⟨g6, h⟩ := og h
      refine g_iast K (tl_r g4) (tl_s g4) g6 dX5_workOut_92 (fun σ7 s8 => ?_)
      replace h := jn_at s8 h
      refine g_iinc (lv' := [(6, .int (x6 + 1)), (0, .ref (X.ad 88)), (1, .ref (X.ad b1)), (2, .ref (X.ad b2)), (3, .ref (X.ad b3)), (4, .int x4), (5, .int x5)]) K 6 dX5_workOut_93 rfl (by rw [ic_1]) (by decide) rfl ?_
      refine g_goto (tgt := 59) K dX5_workOut_96 (by decide) ?_
      refine g_sub [1, 2, 3, 4, 5, 6, 0] rfl ?_
      exact ih _ _ _ h hexit
def L_X5_workOut_12 (b1 : Nat) (b2 : Nat) (b3 : Nat) : Nat → Int32 → Sg → Option (Int32 × Sg)
  | 0, _, _ => none
  | n + 1, x4, σ =>
    if (σ.1 b1 7) ≤ x4 then
    (some (x4, σ))
    else
    (if 40 ≤ (σ.1 88 2) then
    (some (x4, σ))
    else
    (if inb x4 41 then
    (Option.bind (f_X2_carryOut b2 b1 (σ.1 (b1 + 7) x4.toNatClampNeg) σ) (fun q4 =>
    Option.bind (f_X0_isLastOfItsDay b1 x4 q4.2) (fun r6 =>
    if r6 = 0 then
    (L_X5_workOut_12 b1 b2 b3 n (x4 + 1) q4.2)
    else
    (Option.bind (L_X5_workOut_59 b1 b2 b3 x4 (σ.1 (b1 + 7) x4.toNatClampNeg) FU 0 q4.2) (fun o9 =>
    if inb (σ.1 (b1 + 7) x4.toNatClampNeg) 41 then
    (if inb (o9.2.1 88 2) 40 then
    (jn (setR o9.2 89 (upd (o9.2.1 89) (o9.2.1 88 2).toNatClampNeg (o9.2.1 (b1 + 1) (σ.1 (b1 + 7) x4.toNatClampNeg).toNatClampNeg))) (fun σ13 =>
    jn (setR σ13 88 (upd (σ13.1 88) 2 ((σ13.1 88 2) + 1))) (fun σ15 =>
    L_X5_workOut_12 b1 b2 b3 n (x4 + 1) σ15)))
    else none)
    else none)))))
    else none))
set_option maxRecDepth 20000 in
set_option maxHeartbeats 4000000 in
theorem l_X5_workOut_12 {X : Ctx} (K : Cok X cX5_workOut 7 RX5) (hR : 4 ≤ X.R.frames ∧ 101 ≤ X.R.locals) {b1 : Nat} {b2 : Nat} {b3 : Nat} (hb1 : isBook b1) (hb2 : isHold b2) (hb3 : isCtrl b3) :
    ∀ (n : Nat) (x4 : Int32) (σ : Sg) (o : (Int32 × Sg)), L_X5_workOut_12 b1 b2 b3 n x4 σ = some o → G X 7 131 [(0, .ref (X.ad 88)), (1, .ref (X.ad b1)), (2, .ref (X.ad b2)), (3, .ref (X.ad b3)), (4, .int o.1)] [] o.2 → G X 7 12 [(0, .ref (X.ad 88)), (1, .ref (X.ad b1)), (2, .ref (X.ad b2)), (3, .ref (X.ad b3)), (4, .int x4)] [] σ := by
  intro n
  induction n with
  | zero => intro x4 σ o h; exact absurd h (by unfold L_X5_workOut_12; intro h; cases h)
  | succ n ih =>
    intro x4 σ o h hexit
    unfold L_X5_workOut_12 at h
    refine g_iload K 4 dX5_workOut_12 rfl ?_
    refine g_aload_n K 1 dX5_workOut_14 rfl rfl ?_
    refine g_get (v := .int (σ.1 b1 7)) K (e_Book (bk_k0 hb1)) (bk_l0 hb1) rfl 7 (by decide) rfl fw_X5_32 u_X0 dX5_workOut_15 ?_
    refine g_icmp_ge (tgt := 131) K dX5_workOut_18 (by decide) (fun c1 => ?_) (fun c1 => ?_)
    · replace h := bp c1 h
      refine g_sub [0, 1, 2, 3, 4] rfl ?_
      obtain rfl := Option.some.inj h
      exact hexit
    · replace h := bn c1 h
      refine g_aload_n K 0 dX5_workOut_21 rfl rfl ?_
      refine g_get (v := .int (σ.1 88 2)) K (e_Timeline kd_88) ltN_88 rfl 2 (by decide) rfl fw_X5_23 u_X5 dX5_workOut_22 ?_
      refine g_bipush (v := 40) K dX5_workOut_25 bp_40 ?_
      refine g_icmp_ge (tgt := 131) K dX5_workOut_27 (by decide) (fun c2 => ?_) (fun c2 => ?_)
      · replace h := bp c2 h
        refine g_sub [0, 1, 2, 3, 4] rfl ?_
        obtain rfl := Option.some.inj h
        exact hexit
      · replace h := bn c2 h
        refine g_aload_n K 1 dX5_workOut_30 rfl rfl ?_
        refine g_get (v := .ref (X.ad (b1 + 7))) K (e_Book (bk_k0 hb1)) (bk_l0 hb1) rfl 6 (by decide) rfl fw_X5_35 u_X0 dX5_workOut_31 ?_
        refine g_iload K 4 dX5_workOut_34 rfl ?_
        obtain ⟨g3, h⟩ := og h
        refine g_iald K (bk_k7 hb1) (bk_l7 hb1) g3 dX5_workOut_36 ?_
        refine g_istore (lv' := [(5, .int (σ.1 (b1 + 7) x4.toNatClampNeg)), (0, .ref (X.ad 88)), (1, .ref (X.ad b1)), (2, .ref (X.ad b2)), (3, .ref (X.ad b3)), (4, .int x4)]) K dX5_workOut_37 (by decide) rfl ?_
        refine g_aload_n K 3 dX5_workOut_39 rfl rfl ?_
        refine g_aload_n K 2 dX5_workOut_40 rfl rfl ?_
        refine g_iload K 0 dX5_workOut_41 rfl ?_
        obtain ⟨q4, e5, h⟩ := ob h
        refine g_cvi (As := [.ref (X.ad b1), .int (σ.1 (b1 + 7) x4.toNatClampNeg)]) (rest := []) K (m_X2_carryOut hb2 hb1 e5) yv_X2_carryOut ml_X5_38 rfl rfl rfl (e_Holdings (hd_k0 hb2)) (hd_l0 hb2) rfl rfl ⟨Nat.le_trans (Nat.le_of_ble_eq_true rfl) hR.1, Nat.le_trans (Nat.le_of_ble_eq_true rfl) hR.2⟩ (Nat.le_of_ble_eq_true rfl) dX5_workOut_43 ?_
        refine g_pop K dX5_workOut_46 rfl ?_
        refine g_aload_n K 2 dX5_workOut_47 rfl rfl ?_
        refine g_iload K 5 dX5_workOut_48 rfl ?_
        obtain ⟨r6, e7, h⟩ := ob h
        refine g_cvi (As := [.int x4]) (rest := []) K (m_X0_isLastOfItsDay hb1 e7) yv_X0_isLastOfItsDay ml_X5_42 rfl rfl rfl (e_Book (bk_k0 hb1)) (bk_l0 hb1) rfl rfl ⟨Nat.le_trans (Nat.le_of_ble_eq_true rfl) hR.1, Nat.le_trans (Nat.le_of_ble_eq_true rfl) hR.2⟩ (Nat.le_of_ble_eq_true rfl) dX5_workOut_50 ?_
        refine g_if_eq (tgt := 125) K dX5_workOut_53 (by decide) (fun c8 => ?_) (fun c8 => ?_)
        · replace h := bp c8 h
          refine g_iinc (lv' := [(4, .int (x4 + 1)), (5, .int (σ.1 (b1 + 7) x4.toNatClampNeg)), (0, .ref (X.ad 88)), (1, .ref (X.ad b1)), (2, .ref (X.ad b2)), (3, .ref (X.ad b3))]) K 5 dX5_workOut_125 rfl (by rw [ic_1]) (by decide) rfl ?_
          refine g_goto (tgt := 12) K dX5_workOut_128 (by decide) ?_
          refine g_sub [2, 3, 4, 5, 0] rfl ?_
          exact ih _ _ _ h hexit
        · replace h := bn c8 h
          refine g_iconst (v := 0) K dX5_workOut_56 ic_0 ?_
          refine g_istore (lv' := [(6, .int 0), (5, .int (σ.1 (b1 + 7) x4.toNatClampNeg)), (0, .ref (X.ad 88)), (1, .ref (X.ad b1)), (2, .ref (X.ad b2)), (3, .ref (X.ad b3)), (4, .int x4)]) K dX5_workOut_57 (by decide) rfl ?_
          obtain ⟨o9, e10, h⟩ := ob h
          refine g_sub [2, 3, 4, 5, 6, 1, 0] rfl ?_
          refine l_X5_workOut_59 K hR hb1 hb2 hb3 _ _ _ _ e10 ?_
          refine g_aload_n K 0 dX5_workOut_99 rfl rfl ?_
          refine g_get (v := .ref (X.ad 89)) K (e_Timeline kd_88) ltN_88 rfl 0 (by decide) rfl fw_X5_9 u_X5 dX5_workOut_100 ?_
          refine g_aload_n K 0 dX5_workOut_103 rfl rfl ?_
          refine g_get (v := .int (o9.2.1 88 2)) K (e_Timeline kd_88) ltN_88 rfl 2 (by decide) rfl fw_X5_23 u_X5 dX5_workOut_104 ?_
          refine g_aload_n K 1 dX5_workOut_107 rfl rfl ?_
          refine g_get (v := .ref (X.ad (b1 + 1))) K (e_Book (bk_k0 hb1)) (bk_l0 hb1) rfl 0 (by decide) rfl fw_X5_54 u_X0 dX5_workOut_108 ?_
          refine g_iload K 5 dX5_workOut_111 rfl ?_
          obtain ⟨g11, h⟩ := og h
          refine g_iald K (bk_k1 hb1) (bk_l1 hb1) g11 dX5_workOut_113 ?_
          obtain ⟨g12, h⟩ := og h
          refine g_iast K kd_89 ltN_89 g12 dX5_workOut_114 (fun σ13 s14 => ?_)
          replace h := jn_at s14 h
          refine g_aload_n K 0 dX5_workOut_115 rfl rfl ?_
          refine g_dup K dX5_workOut_116 rfl ?_
          refine g_get (v := .int (σ13.1 88 2)) K (e_Timeline kd_88) ltN_88 rfl 2 (by decide) rfl fw_X5_23 u_X5 dX5_workOut_117 ?_
          refine g_iconst (v := 1) K dX5_workOut_120 ic_1 ?_
          refine g_iadd K dX5_workOut_121 ?_
          refine g_put (f' := (upd (σ13.1 88) 2 ((σ13.1 88 2) + 1))) K (e_Timeline kd_88) ltN_88 rfl 2 (by decide) (e_Timeline kd_88) tyX5 tyX5_ok nmX5 rfl (ty := .int) (by decide +kernel) rfl rfl (Nat.le_of_ble_eq_true rfl) fw_X5_23 u_X5 dX5_workOut_122 (fun σ15 s16 => ?_)
          replace h := jn_at s16 h
          refine g_iinc (lv' := [(4, .int (x4 + 1)), (0, .ref (X.ad 88)), (1, .ref (X.ad b1)), (2, .ref (X.ad b2)), (3, .ref (X.ad b3)), (5, .int (σ.1 (b1 + 7) x4.toNatClampNeg)), (6, .int o9.1)]) K 4 dX5_workOut_125 rfl (by rw [ic_1]) (by decide) rfl ?_
          refine g_goto (tgt := 12) K dX5_workOut_128 (by decide) ?_
          refine g_sub [1, 2, 3, 4, 0] rfl ?_
          exact ih _ _ _ h hexit
def f_X5_workOut (b1 : Nat) (b2 : Nat) (b3 : Nat) (σ : Sg) : Option Sg :=
  jn (setR σ 88 (upd (σ.1 88) 2 0)) (fun σ1 =>
  Option.bind (f_X2_beginAgain b2 σ1) (fun q3 =>
  Option.bind (L_X5_workOut_12 b1 b2 b3 FU 0 q3) (fun o5 =>
  Option.bind (f_X5_listEvents o5.2) (fun q7 =>
  some q7))))
set_option maxRecDepth 20000 in
set_option maxHeartbeats 4000000 in
theorem w_X5_workOut {X : Ctx} (K : Cok X cX5_workOut 7 RX5) (hR : 4 ≤ X.R.frames ∧ 101 ≤ X.R.locals) {b1 : Nat} {b2 : Nat} {b3 : Nat} {σ : Sg} (hb1 : isBook b1) (hb2 : isHold b2) (hb3 : isCtrl b3) {r : Sg} (h : f_X5_workOut b1 b2 b3 σ = some r) (hr : RV X cX5_workOut 7 r) : G X 7 0 [(0, .ref (X.ad 88)), (1, .ref (X.ad b1)), (2, .ref (X.ad b2)), (3, .ref (X.ad b3))] [] σ := by
  unfold f_X5_workOut at h
  refine g_aload_n K 0 dX5_workOut_0 rfl rfl ?_
  refine g_iconst (v := 0) K dX5_workOut_1 ic_0 ?_
  refine g_put (f' := (upd (σ.1 88) 2 0)) K (e_Timeline kd_88) ltN_88 rfl 2 (by decide) (e_Timeline kd_88) tyX5 tyX5_ok nmX5 rfl (ty := .int) (by decide +kernel) rfl rfl (Nat.le_of_ble_eq_true rfl) fw_X5_23 u_X5 dX5_workOut_2 (fun σ1 s2 => ?_)
  replace h := jn_at s2 h
  refine g_aload_n K 2 dX5_workOut_5 rfl rfl ?_
  obtain ⟨q3, e4, h⟩ := ob h
  refine g_cvv (As := []) (rest := []) K (m_X2_beginAgain hb2 e4) yv_X2_beginAgain ml_X5_27 rfl rfl rfl (e_Holdings (hd_k0 hb2)) (hd_l0 hb2) rfl rfl ⟨Nat.le_trans (Nat.le_of_ble_eq_true rfl) hR.1, Nat.le_trans (Nat.le_of_ble_eq_true rfl) hR.2⟩ (Nat.le_of_ble_eq_true rfl) dX5_workOut_6 ?_
  refine g_iconst (v := 0) K dX5_workOut_9 ic_0 ?_
  refine g_istore (lv' := [(4, .int 0), (0, .ref (X.ad 88)), (1, .ref (X.ad b1)), (2, .ref (X.ad b2)), (3, .ref (X.ad b3))]) K dX5_workOut_10 (by decide) rfl ?_
  obtain ⟨o5, e6, h⟩ := ob h
  refine g_sub [1, 2, 3, 4, 0] rfl ?_
  refine l_X5_workOut_12 K hR hb1 hb2 hb3 _ _ _ _ e6 ?_
  refine g_aload_n K 0 dX5_workOut_131 rfl rfl ?_
  obtain ⟨q7, e8, h⟩ := ob h
  refine g_cvv (As := []) (rest := []) K (m_X5_listEvents e8) yv_X5_listEvents ml_X5_57 rfl rfl rfl (e_Timeline kd_88) ltN_88 rfl rfl ⟨Nat.le_trans (Nat.le_of_ble_eq_true rfl) hR.1, Nat.le_trans (Nat.le_of_ble_eq_true rfl) hR.2⟩ (Nat.le_of_ble_eq_true rfl) dX5_workOut_132 ?_
  exact hr _ _ _ dX5_workOut_135 (rt2 h)
theorem m_X5_workOut {b1 : Nat} {b2 : Nat} {b3 : Nat} {σ : Sg} (hb1 : isBook b1) (hb2 : isHold b2) (hb3 : isCtrl b3) {r : Sg} (h : f_X5_workOut b1 b2 b3 σ = some r) : CV yX5_workOut cX5_workOut 7 none 4 101 (fun ad => [.ref (ad 88), .ref (ad b1), .ref (ad b2), .ref (ad b3)]) σ r :=
  CV.of (by decide) (fun _ => Nat.le_of_ble_eq_true rfl) (fun X K hR hr => w_X5_workOut K hR hb1 hb2 hb3 h hr)
def L_X5_lastBy_4 (x1 : Int32) (σ : Sg) : Nat → Int32 → Int32 → Option (Int32 × Int32)
  | 0, _, _ => none
  | n + 1, x2, x3 =>
    if (σ.1 88 2) ≤ x3 then
    (some (x2, x3))
    else
    (if inb x3 40 then
    (if x1 < (σ.1 89 x3.toNatClampNeg) then
    (some (x2, x3))
    else
    (L_X5_lastBy_4 x1 σ n x3 (x3 + 1)))
    else none)
set_option maxRecDepth 20000 in
set_option maxHeartbeats 4000000 in
theorem l_X5_lastBy_4 {X : Ctx} (K : Cok X cX5_lastBy 4 RX5) (hR : 0 ≤ X.R.frames ∧ 0 ≤ X.R.locals) {x1 : Int32} {σ : Sg}  :
    ∀ (n : Nat) (x2 : Int32) (x3 : Int32) (o : (Int32 × Int32)), L_X5_lastBy_4 x1 σ n x2 x3 = some o → G X 4 30 [(0, .ref (X.ad 88)), (1, .int x1), (2, .int o.1), (3, .int o.2)] [] σ → G X 4 4 [(0, .ref (X.ad 88)), (1, .int x1), (2, .int x2), (3, .int x3)] [] σ := by
  intro n
  induction n with
  | zero => intro x2 x3 o h; exact absurd h (by unfold L_X5_lastBy_4; intro h; cases h)
  | succ n ih =>
    intro x2 x3 o h hexit
    unfold L_X5_lastBy_4 at h
    refine g_iload_n K 3 dX5_lastBy_4 rfl rfl ?_
    refine g_aload_n K 0 dX5_lastBy_5 rfl rfl ?_
    refine g_get (v := .int (σ.1 88 2)) K (e_Timeline kd_88) ltN_88 rfl 2 (by decide) rfl fw_X5_23 u_X5 dX5_lastBy_6 ?_
    refine g_icmp_ge (tgt := 30) K dX5_lastBy_9 (by decide) (fun c1 => ?_) (fun c1 => ?_)
    · replace h := bp c1 h
      refine g_sub [0, 1, 2, 3] rfl ?_
      obtain rfl := Option.some.inj h
      exact hexit
    · replace h := bn c1 h
      refine g_aload_n K 0 dX5_lastBy_12 rfl rfl ?_
      refine g_get (v := .ref (X.ad 89)) K (e_Timeline kd_88) ltN_88 rfl 0 (by decide) rfl fw_X5_9 u_X5 dX5_lastBy_13 ?_
      refine g_iload_n K 3 dX5_lastBy_16 rfl rfl ?_
      obtain ⟨g2, h⟩ := og h
      refine g_iald K kd_89 ltN_89 g2 dX5_lastBy_17 ?_
      refine g_iload_n K 1 dX5_lastBy_18 rfl rfl ?_
      refine g_icmp_gt (tgt := 30) K dX5_lastBy_19 (by decide) (fun c3 => ?_) (fun c3 => ?_)
      · replace h := bp c3 h
        refine g_sub [0, 1, 2, 3] rfl ?_
        obtain rfl := Option.some.inj h
        exact hexit
      · replace h := bn c3 h
        refine g_iload_n K 3 dX5_lastBy_22 rfl rfl ?_
        refine g_istore_n (lv' := [(2, .int x3), (0, .ref (X.ad 88)), (1, .int x1), (3, .int x3)]) K dX5_lastBy_23 rfl (by decide) rfl ?_
        refine g_iinc (lv' := [(3, .int (x3 + 1)), (2, .int x3), (0, .ref (X.ad 88)), (1, .int x1)]) K 3 dX5_lastBy_24 rfl (by rw [ic_1]) (by decide) rfl ?_
        refine g_goto (tgt := 4) K dX5_lastBy_27 (by decide) ?_
        refine g_sub [2, 3, 1, 0] rfl ?_
        exact ih _ _ _ h hexit
def f_X5_lastBy (x1 : Int32) (σ : Sg) : Option Int32 :=
  Option.bind (L_X5_lastBy_4 x1 σ FU (-1) 0) (fun o1 =>
  some o1.1)
set_option maxRecDepth 20000 in
set_option maxHeartbeats 4000000 in
theorem w_X5_lastBy {X : Ctx} (K : Cok X cX5_lastBy 4 RX5) (hR : 0 ≤ X.R.frames ∧ 0 ≤ X.R.locals) {x1 : Int32} {σ : Sg}  {r : Int32} (h : f_X5_lastBy x1 σ = some r) (hr : RI X cX5_lastBy 4 (r, σ)) : G X 4 0 [(0, .ref (X.ad 88)), (1, .int x1)] [] σ := by
  unfold f_X5_lastBy at h
  refine g_iconst (v := (-1)) K dX5_lastBy_0 ic_m1 ?_
  refine g_istore_n (lv' := [(2, .int (-1)), (0, .ref (X.ad 88)), (1, .int x1)]) K dX5_lastBy_1 rfl (by decide) rfl ?_
  refine g_iconst (v := 0) K dX5_lastBy_2 ic_0 ?_
  refine g_istore_n (lv' := [(3, .int 0), (2, .int (-1)), (0, .ref (X.ad 88)), (1, .int x1)]) K dX5_lastBy_3 rfl (by decide) rfl ?_
  obtain ⟨o1, e2, h⟩ := ob h
  refine g_sub [2, 3, 1, 0] rfl ?_
  refine l_X5_lastBy_4 K hR _ _ _ _ e2 ?_
  refine g_iload_n K 2 dX5_lastBy_30 rfl rfl ?_
  exact hr _ _ _ _ dX5_lastBy_31 (rt1 h)
theorem m_X5_lastBy {x1 : Int32} {σ : Sg}  {r : Int32} (h : f_X5_lastBy x1 σ = some r) : CI yX5_lastBy cX5_lastBy 4 (some .int) 0 0 (fun ad => [.ref (ad 88), .int x1]) σ r σ :=
  CI.of (by decide) (fun _ => Nat.le_of_ble_eq_true rfl) (fun X K hR hr => w_X5_lastBy K hR h hr)
def L_X5_firstDay_28 (x2 : Int32) (x3 : Int32) (x4 : Int32) (σ : Sg) : Nat → Int32 → Option ((Int32) ⊕ (Int32))
  | 0, _ => none
  | n + 1, x6 =>
    if (σ.1 88 2) ≤ x6 then
    (some (.inr x6))
    else
    (Option.bind (f_X5_isControlled x6 x2 x3 σ) (fun r2 =>
    if r2 = x4 then
    (if inb x6 40 then
    (some (.inl (σ.1 89 x6.toNatClampNeg)))
    else none)
    else
    (L_X5_firstDay_28 x2 x3 x4 σ n (x6 + 1))))
set_option maxRecDepth 20000 in
set_option maxHeartbeats 4000000 in
theorem l_X5_firstDay_28 {X : Ctx} (K : Cok X cX5_firstDay 7 RX5) (hR : 2 ≤ X.R.frames ∧ 44 ≤ X.R.locals) {res : Int32 × Sg} (hr : RI X cX5_firstDay 7 res) {x2 : Int32} {x3 : Int32} {x4 : Int32} {σ : Sg}  :
    ∀ (n : Nat) (x6 : Int32) (o : ((Int32) ⊕ (Int32))), L_X5_firstDay_28 x2 x3 x4 σ n x6 = some o → (∀ q, o = .inl q → (q, σ) = res) → (∀ q, o = .inr q → G X 7 64 [(0, .ref (X.ad 88)), (2, .int x2), (3, .int x3), (4, .int x4), (6, .int q)] [] σ) → G X 7 28 [(0, .ref (X.ad 88)), (2, .int x2), (3, .int x3), (4, .int x4), (6, .int x6)] [] σ := by
  intro n
  induction n with
  | zero => intro x6 o h; exact absurd h (by unfold L_X5_firstDay_28; intro h; cases h)
  | succ n ih =>
    intro x6 o h hret hexit
    unfold L_X5_firstDay_28 at h
    refine g_iload K 4 dX5_firstDay_28 rfl ?_
    refine g_aload_n K 0 dX5_firstDay_30 rfl rfl ?_
    refine g_get (v := .int (σ.1 88 2)) K (e_Timeline kd_88) ltN_88 rfl 2 (by decide) rfl fw_X5_23 u_X5 dX5_firstDay_31 ?_
    refine g_icmp_ge (tgt := 64) K dX5_firstDay_34 (by decide) (fun c1 => ?_) (fun c1 => ?_)
    · replace h := bp c1 h
      refine g_sub [0, 1, 2, 3, 4] rfl ?_
      exact hexit _ (Option.some.inj h).symm
    · replace h := bn c1 h
      refine g_aload_n K 0 dX5_firstDay_37 rfl rfl ?_
      refine g_iload K 4 dX5_firstDay_38 rfl ?_
      refine g_iload_n K 1 dX5_firstDay_40 rfl rfl ?_
      refine g_iload_n K 2 dX5_firstDay_41 rfl rfl ?_
      obtain ⟨r2, e3, h⟩ := ob h
      refine g_cvi (As := [.int x6, .int x2, .int x3]) (rest := []) K (m_X5_isControlled e3) yv_X5_isControlled ml_X5_67 rfl rfl rfl (e_Timeline kd_88) ltN_88 rfl rfl ⟨Nat.le_trans (Nat.le_of_ble_eq_true rfl) hR.1, Nat.le_trans (Nat.le_of_ble_eq_true rfl) hR.2⟩ (Nat.le_of_ble_eq_true rfl) dX5_firstDay_42 ?_
      refine g_iload K 3 dX5_firstDay_45 rfl ?_
      refine g_icmp_ne (tgt := 58) K dX5_firstDay_47 (by decide) (fun c4 => ?_) (fun c4 => ?_)
      · replace h := bn c4 h
        refine g_iinc (lv' := [(6, .int (x6 + 1)), (0, .ref (X.ad 88)), (2, .int x2), (3, .int x3), (4, .int x4)]) K 4 dX5_firstDay_58 rfl (by rw [ic_1]) (by decide) rfl ?_
        refine g_goto (tgt := 28) K dX5_firstDay_61 (by decide) ?_
        refine g_sub [1, 2, 3, 4, 0] rfl ?_
        exact ih _ _ h hret hexit
      · replace h := bp c4 h
        refine g_aload_n K 0 dX5_firstDay_50 rfl rfl ?_
        refine g_get (v := .ref (X.ad 89)) K (e_Timeline kd_88) ltN_88 rfl 0 (by decide) rfl fw_X5_9 u_X5 dX5_firstDay_51 ?_
        refine g_iload K 4 dX5_firstDay_54 rfl ?_
        obtain ⟨g5, h⟩ := og h
        refine g_iald K kd_89 ltN_89 g5 dX5_firstDay_56 ?_
        exact hr _ _ _ _ dX5_firstDay_57 (hret _ (Option.some.inj h).symm)
def f_X5_firstDay (x1 : Int32) (x2 : Int32) (x3 : Int32) (x4 : Int32) (σ : Sg) : Option Int32 :=
  Option.bind (f_X5_lastBy x1 σ) (fun r1 =>
  Option.bind (f_X5_isControlled r1 x2 x3 σ) (fun r3 =>
  if r3 = x4 then
  (some x1)
  else
  (Option.bind (L_X5_firstDay_28 x2 x3 x4 σ FU (r1 + 1)) (fun o6 => Sum.elim (fun x => some x) (fun o6 =>
  some (-6)) o6))))
set_option maxRecDepth 20000 in
set_option maxHeartbeats 4000000 in
theorem w_X5_firstDay {X : Ctx} (K : Cok X cX5_firstDay 7 RX5) (hR : 2 ≤ X.R.frames ∧ 44 ≤ X.R.locals) {x1 : Int32} {x2 : Int32} {x3 : Int32} {x4 : Int32} {σ : Sg}  {r : Int32} (h : f_X5_firstDay x1 x2 x3 x4 σ = some r) (hr : RI X cX5_firstDay 7 (r, σ)) : G X 7 0 [(0, .ref (X.ad 88)), (1, .int x1), (2, .int x2), (3, .int x3), (4, .int x4)] [] σ := by
  unfold f_X5_firstDay at h
  refine g_aload_n K 0 dX5_firstDay_0 rfl rfl ?_
  refine g_iload_n K 1 dX5_firstDay_1 rfl rfl ?_
  obtain ⟨r1, e2, h⟩ := ob h
  refine g_cvi (As := [.int x1]) (rest := []) K (m_X5_lastBy e2) yv_X5_lastBy ml_X5_79 rfl rfl rfl (e_Timeline kd_88) ltN_88 rfl rfl ⟨Nat.le_trans (Nat.le_of_ble_eq_true rfl) hR.1, Nat.le_trans (Nat.le_of_ble_eq_true rfl) hR.2⟩ (Nat.le_of_ble_eq_true rfl) dX5_firstDay_2 ?_
  refine g_istore (lv' := [(5, .int r1), (0, .ref (X.ad 88)), (1, .int x1), (2, .int x2), (3, .int x3), (4, .int x4)]) K dX5_firstDay_5 (by decide) rfl ?_
  refine g_aload_n K 1 dX5_firstDay_7 rfl rfl ?_
  refine g_iload K 0 dX5_firstDay_8 rfl ?_
  refine g_iload_n K 3 dX5_firstDay_10 rfl rfl ?_
  refine g_iload_n K 4 dX5_firstDay_11 rfl rfl ?_
  obtain ⟨r3, e4, h⟩ := ob h
  refine g_cvi (As := [.int r1, .int x2, .int x3]) (rest := []) K (m_X5_isControlled e4) yv_X5_isControlled ml_X5_67 rfl rfl rfl (e_Timeline kd_88) ltN_88 rfl rfl ⟨Nat.le_trans (Nat.le_of_ble_eq_true rfl) hR.1, Nat.le_trans (Nat.le_of_ble_eq_true rfl) hR.2⟩ (Nat.le_of_ble_eq_true rfl) dX5_firstDay_12 ?_
  refine g_iload K 5 dX5_firstDay_15 rfl ?_
  refine g_icmp_ne (tgt := 22) K dX5_firstDay_17 (by decide) (fun c5 => ?_) (fun c5 => ?_)
  · replace h := bn c5 h
    refine g_iload K 0 dX5_firstDay_22 rfl ?_
    refine g_iconst (v := 1) K dX5_firstDay_24 ic_1 ?_
    refine g_iadd K dX5_firstDay_25 ?_
    refine g_istore (lv' := [(6, .int (r1 + 1)), (5, .int r1), (0, .ref (X.ad 88)), (1, .int x1), (2, .int x2), (3, .int x3), (4, .int x4)]) K dX5_firstDay_26 (by decide) rfl ?_
    obtain ⟨o6, e7, h⟩ := ob h
    refine g_sub [2, 4, 5, 6, 0] rfl ?_
    refine l_X5_firstDay_28 K hR hr _ _ _ e7 (fun x hx => ?_) (fun o6 hx => ?_)
    · subst hx
      exact rt1 h
    · subst hx
      dsimp only [Sum.elim_inr] at h
      refine g_bipush (v := (-6)) K dX5_firstDay_64 bp_m6 ?_
      exact hr _ _ _ _ dX5_firstDay_66 (rt1 h)
  · replace h := bp c5 h
    refine g_iload_n K 2 dX5_firstDay_20 rfl rfl ?_
    exact hr _ _ _ _ dX5_firstDay_21 (rt1 h)
theorem m_X5_firstDay {x1 : Int32} {x2 : Int32} {x3 : Int32} {x4 : Int32} {σ : Sg}  {r : Int32} (h : f_X5_firstDay x1 x2 x3 x4 σ = some r) : CI yX5_firstDay cX5_firstDay 7 (some .int) 2 44 (fun ad => [.ref (ad 88), .int x1, .int x2, .int x3, .int x4]) σ r σ :=
  CI.of (by decide) (fun _ => Nat.le_of_ble_eq_true rfl) (fun X K hR hr => w_X5_firstDay K hR h hr)
def f_X5_ofEvent (x1 : Int32) (x2 : Int32) (σ : Sg) : Option Int32 :=
  if x1 < 0 then
  (some (-6))
  else
  (if x1 < (σ.1 88 4) then
  (if inb x1 1800 then
  (if x2 = 0 then
  (if inb (((σ.1 131 x1.toNatClampNeg) / 2) / 45) 40 then
  (some (σ.1 89 (((σ.1 131 x1.toNatClampNeg) / 2) / 45).toNatClampNeg))
  else none)
  else
  (if x2 = 1 then
  (some (((((σ.1 131 x1.toNatClampNeg) / 2) / 5) - (((σ.1 131 x1.toNatClampNeg) / 2) / 5) / 9 * 9)))
  else
  (if x2 = 2 then
  (some ((((σ.1 131 x1.toNatClampNeg) / 2) - ((σ.1 131 x1.toNatClampNeg) / 2) / 5 * 5)))
  else
  (if inb x1 1800 then
  (some (((σ.1 131 x1.toNatClampNeg) - (σ.1 131 x1.toNatClampNeg) / 2 * 2)))
  else none))))
  else none)
  else
  (some (-6)))
set_option maxRecDepth 20000 in
set_option maxHeartbeats 4000000 in
theorem w_X5_ofEvent {X : Ctx} (K : Cok X cX5_ofEvent 4 RX5) (hR : 0 ≤ X.R.frames ∧ 0 ≤ X.R.locals) {x1 : Int32} {x2 : Int32} {σ : Sg}  {r : Int32} (h : f_X5_ofEvent x1 x2 σ = some r) (hr : RI X cX5_ofEvent 4 (r, σ)) : G X 4 0 [(0, .ref (X.ad 88)), (1, .int x1), (2, .int x2)] [] σ := by
  unfold f_X5_ofEvent at h
  refine g_iload_n K 1 dX5_ofEvent_0 rfl rfl ?_
  refine g_if_lt (tgt := 12) K dX5_ofEvent_1 (by decide) (fun c1 => ?_) (fun c1 => ?_)
  · replace h := bp c1 h
    refine g_bipush (v := (-6)) K dX5_ofEvent_12 bp_m6 ?_
    exact hr _ _ _ _ dX5_ofEvent_14 (rt1 h)
  · replace h := bn c1 h
    refine g_iload_n K 1 dX5_ofEvent_4 rfl rfl ?_
    refine g_aload_n K 0 dX5_ofEvent_5 rfl rfl ?_
    refine g_get (v := .int (σ.1 88 4)) K (e_Timeline kd_88) ltN_88 rfl 4 (by decide) rfl fw_X5_60 u_X5 dX5_ofEvent_6 ?_
    refine g_icmp_lt (tgt := 15) K dX5_ofEvent_9 (by decide) (fun c2 => ?_) (fun c2 => ?_)
    · replace h := bp c2 h
      refine g_aload_n K 0 dX5_ofEvent_15 rfl rfl ?_
      refine g_get (v := .ref (X.ad 131)) K (e_Timeline kd_88) ltN_88 rfl 3 (by decide) rfl fw_X5_20 u_X5 dX5_ofEvent_16 ?_
      refine g_iload_n K 1 dX5_ofEvent_19 rfl rfl ?_
      obtain ⟨g3, h⟩ := og h
      refine g_iald K kd_131 ltN_131 g3 dX5_ofEvent_20 ?_
      refine g_iconst (v := 2) K dX5_ofEvent_21 ic_2 ?_
      refine g_idiv K dX5_ofEvent_22 nz_2 ?_
      refine g_istore_n (lv' := [(3, .int ((σ.1 131 x1.toNatClampNeg) / 2)), (0, .ref (X.ad 88)), (1, .int x1), (2, .int x2)]) K dX5_ofEvent_23 rfl (by decide) rfl ?_
      refine g_iload_n K 3 dX5_ofEvent_24 rfl rfl ?_
      rcases Classical.em (x2 = 0) with c5 | c5
      · replace h := bp c5 h
        refine g_tableIn (y := 0) (off := 27) (tgt := 52) K dX5_ofEvent_25 c5 (by decide) (by decide) (by decide) (by decide) ?_
        refine g_aload_n K 1 dX5_ofEvent_52 rfl rfl ?_
        refine g_get (v := .ref (X.ad 89)) K (e_Timeline kd_88) ltN_88 rfl 0 (by decide) rfl fw_X5_9 u_X5 dX5_ofEvent_53 ?_
        refine g_iload_n K 0 dX5_ofEvent_56 rfl rfl ?_
        refine g_bipush (v := 45) K dX5_ofEvent_57 bp_45 ?_
        refine g_idiv K dX5_ofEvent_59 nz_45 ?_
        obtain ⟨g7, h⟩ := og h
        refine g_iald K kd_89 ltN_89 g7 dX5_ofEvent_60 ?_
        exact hr _ _ _ _ dX5_ofEvent_61 (rt1 h)
      · replace h := bn c5 h
        rcases Classical.em (x2 = 1) with c8 | c8
        · replace h := bp c8 h
          refine g_tableIn (y := 1) (off := 37) (tgt := 62) K dX5_ofEvent_25 c8 (by decide) (by decide) (by decide) (by decide) ?_
          refine g_iload_n K 0 dX5_ofEvent_62 rfl rfl ?_
          refine g_iconst (v := 5) K dX5_ofEvent_63 ic_5 ?_
          refine g_idiv K dX5_ofEvent_64 nz_5 ?_
          refine g_bipush (v := 9) K dX5_ofEvent_65 bp_9 ?_
          refine g_irem K dX5_ofEvent_67 nz_9 ?_
          exact hr _ _ _ _ dX5_ofEvent_68 (rt1 h)
        · replace h := bn c8 h
          rcases Classical.em (x2 = 2) with c11 | c11
          · replace h := bp c11 h
            refine g_tableIn (y := 2) (off := 44) (tgt := 69) K dX5_ofEvent_25 c11 (by decide) (by decide) (by decide) (by decide) ?_
            refine g_iload_n K 0 dX5_ofEvent_69 rfl rfl ?_
            refine g_iconst (v := 5) K dX5_ofEvent_70 ic_5 ?_
            refine g_irem K dX5_ofEvent_71 nz_5 ?_
            exact hr _ _ _ _ dX5_ofEvent_72 (rt1 h)
          · replace h := bn c11 h
            refine g_tableOut (tgt := 73) K dX5_ofEvent_25 (by have w0 := lv_neT (a := 0) c5 (by decide); have w1 := lv_neT (a := 1) c8 (by decide); have w2 := lv_neT (a := 2) c11 (by decide); omega) (by decide) ?_
            refine g_aload_n K 1 dX5_ofEvent_73 rfl rfl ?_
            refine g_get (v := .ref (X.ad 131)) K (e_Timeline kd_88) ltN_88 rfl 3 (by decide) rfl fw_X5_20 u_X5 dX5_ofEvent_74 ?_
            refine g_iload_n K 2 dX5_ofEvent_77 rfl rfl ?_
            obtain ⟨g13, h⟩ := og h
            refine g_iald K kd_131 ltN_131 g13 dX5_ofEvent_78 ?_
            refine g_iconst (v := 2) K dX5_ofEvent_79 ic_2 ?_
            refine g_irem K dX5_ofEvent_80 nz_2 ?_
            exact hr _ _ _ _ dX5_ofEvent_81 (rt1 h)
    · replace h := bn c2 h
      refine g_bipush (v := (-6)) K dX5_ofEvent_12 bp_m6 ?_
      exact hr _ _ _ _ dX5_ofEvent_14 (rt1 h)
theorem m_X5_ofEvent {x1 : Int32} {x2 : Int32} {σ : Sg}  {r : Int32} (h : f_X5_ofEvent x1 x2 σ = some r) : CI yX5_ofEvent cX5_ofEvent 4 (some .int) 0 0 (fun ad => [.ref (ad 88), .int x1, .int x2]) σ r σ :=
  CI.of (by decide) (fun _ => Nat.le_of_ble_eq_true rfl) (fun X K hR hr => w_X5_ofEvent K hR h hr)
