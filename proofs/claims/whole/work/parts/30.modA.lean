def f_X7_in (x0 : Int32) (x1 : Int32) (x2 : Int32) : Int32 :=
  if x0 < x1 then
  (0)
  else
  (if x2 < x0 then
  (0)
  else
  (1))
set_option maxRecDepth 20000 in
set_option maxHeartbeats 4000000 in
theorem w_X7_in {X : Ctx} (K : Cok X cX7_in 3 RX7) (hR : 0 ≤ X.R.frames ∧ 0 ≤ X.R.locals) {x0 : Int32} {x1 : Int32} {x2 : Int32} {σ : Sg}  {r : Int32} (h : f_X7_in x0 x1 x2 = r) (hr : RZ X cX7_in 3 (r, σ)) : G X 3 0 [(0, .int x0), (1, .int x1), (2, .int x2)] [] σ := by
  unfold f_X7_in at h
  refine g_iload_n K 0 dX7_in_0 rfl rfl ?_
  refine g_iload_n K 1 dX7_in_1 rfl rfl ?_
  refine g_icmp_lt (tgt := 14) K dX7_in_2 (by decide) (fun c1 => ?_) (fun c1 => ?_)
  · replace h := bp c1 h
    refine g_iconst (v := 0) K dX7_in_14 ic_0 ?_
    exact hr _ _ _ _ dX7_in_15 (rt0 h) nb_0
  · replace h := bn c1 h
    refine g_iload_n K 0 dX7_in_5 rfl rfl ?_
    refine g_iload_n K 2 dX7_in_6 rfl rfl ?_
    refine g_icmp_gt (tgt := 14) K dX7_in_7 (by decide) (fun c2 => ?_) (fun c2 => ?_)
    · replace h := bp c2 h
      refine g_iconst (v := 0) K dX7_in_14 ic_0 ?_
      exact hr _ _ _ _ dX7_in_15 (rt0 h) nb_0
    · replace h := bn c2 h
      refine g_iconst (v := 1) K dX7_in_10 ic_1 ?_
      refine g_goto (tgt := 15) K dX7_in_11 (by decide) ?_
      exact hr _ _ _ _ dX7_in_15 (rt0 h) nb_1
theorem m_X7_in (x0 : Int32) (x1 : Int32) (x2 : Int32) (σ : Sg)  : CI yX7_in cX7_in 3 (some .boolean) 0 0 (fun ad => [.int x0, .int x1, .int x2]) σ (f_X7_in x0 x1 x2) σ :=
  CZ.of (by decide) (fun _ => Nat.le_of_ble_eq_true rfl) (fun X K hR hr => w_X7_in K hR rfl hr)
theorem nz_X7_in (x0 : Int32) (x1 : Int32) (x2 : Int32) : narrow .boolean (.int (f_X7_in x0 x1 x2)) = .int (f_X7_in x0 x1 x2) := by
  unfold f_X7_in
  (repeat' split) <;> rfl
def f_X7_isFirm (x0 : Int32) : Int32 :=
  (f_X7_in x0 0 4)
set_option maxRecDepth 20000 in
set_option maxHeartbeats 4000000 in
theorem w_X7_isFirm {X : Ctx} (K : Cok X cX7_isFirm 1 RX7) (hR : 1 ≤ X.R.frames ∧ 22 ≤ X.R.locals) {x0 : Int32} {σ : Sg}  {r : Int32} (h : f_X7_isFirm x0 = r) (hr : RZ X cX7_isFirm 1 (r, σ)) : G X 1 0 [(0, .int x0)] [] σ := by
  unfold f_X7_isFirm at h
  refine g_iload_n K 0 dX7_isFirm_0 rfl rfl ?_
  refine g_iconst (v := 0) K dX7_isFirm_1 ic_0 ?_
  refine g_iconst (v := 4) K dX7_isFirm_2 ic_4 ?_
  refine g_csi (As := [.int x0, .int 0, .int 4]) (rest := []) K (m_X7_in x0 0 4 σ) yv_X7_in ml_X7_66 rfl rfl rfl ⟨Nat.le_trans (Nat.le_of_ble_eq_true rfl) hR.1, Nat.le_trans (Nat.le_of_ble_eq_true rfl) hR.2⟩ (Nat.le_of_ble_eq_true rfl) dX7_isFirm_3 ?_
  exact hr _ _ _ _ dX7_isFirm_6 (rt0 h) (nz_X7_in x0 0 4)
theorem m_X7_isFirm (x0 : Int32) (σ : Sg)  : CI yX7_isFirm cX7_isFirm 1 (some .boolean) 1 22 (fun ad => [.int x0]) σ (f_X7_isFirm x0) σ :=
  CZ.of (by decide) (fun _ => Nat.le_of_ble_eq_true rfl) (fun X K hR hr => w_X7_isFirm K hR rfl hr)
theorem nz_X7_isFirm (x0 : Int32) : narrow .boolean (.int (f_X7_isFirm x0)) = .int (f_X7_isFirm x0) := by
  unfold f_X7_isFirm
  (repeat' split) <;> first | rfl | exact nz_X7_in _ _ _
def f_X7_put (x1 : Int32) (x2 : Int32) (x3 : Int32) (x4 : Int32) (x5 : Int32) (x6 : Int32) (x7 : Int32) (σ : Sg) : Option Sg :=
  if inb x1 41 then
  (jn (setR σ 133 (upd (σ.1 133) x1.toNatClampNeg x2)) (fun σ2 =>
  if inb x1 41 then
  (jn (setR σ2 134 (upd (σ2.1 134) x1.toNatClampNeg x3)) (fun σ5 =>
  if inb x1 41 then
  (jn (setR σ5 135 (upd (σ5.1 135) x1.toNatClampNeg x4)) (fun σ8 =>
  if inb x1 41 then
  (jn (setR σ8 136 (upd (σ8.1 136) x1.toNatClampNeg x5)) (fun σ11 =>
  if inb x1 41 then
  (jn (setR σ11 137 (upd (σ11.1 137) x1.toNatClampNeg x6)) (fun σ14 =>
  if inb x1 41 then
  (jn (setR σ14 138 (upd (σ14.1 138) x1.toNatClampNeg x7)) (fun σ17 =>
  some (σ17)))
  else none))
  else none))
  else none))
  else none))
  else none))
  else none
set_option maxRecDepth 20000 in
set_option maxHeartbeats 4000000 in
theorem w_X7_put {X : Ctx} (K : Cok X cX7_put 8 RX7) (hR : 0 ≤ X.R.frames ∧ 0 ≤ X.R.locals) {x1 : Int32} {x2 : Int32} {x3 : Int32} {x4 : Int32} {x5 : Int32} {x6 : Int32} {x7 : Int32} {σ : Sg}  {r : Sg} (h : f_X7_put x1 x2 x3 x4 x5 x6 x7 σ = some r) (hr : RV X cX7_put 8 r) : G X 8 0 [(0, .ref (X.ad 132)), (1, .int x1), (2, .int x2), (3, .int x3), (4, .int x4), (5, .int x5), (6, .int x6), (7, .int x7)] [] σ := by
  unfold f_X7_put at h
  refine g_aload_n K 0 dX7_put_0 rfl rfl ?_
  refine g_get (v := .ref (X.ad 133)) K (e_ControlRegisterModel kd_132) ltN_132 rfl 0 (by decide) rfl fw_X7_7 u_X7 dX7_put_1 ?_
  refine g_iload_n K 1 dX7_put_4 rfl rfl ?_
  refine g_iload_n K 2 dX7_put_5 rfl rfl ?_
  obtain ⟨g1, h⟩ := og h
  refine g_iast K kd_133 ltN_133 g1 dX7_put_6 (fun σ2 s3 => ?_)
  replace h := jn_at s3 h
  refine g_aload_n K 0 dX7_put_7 rfl rfl ?_
  refine g_get (v := .ref (X.ad 134)) K (e_ControlRegisterModel kd_132) ltN_132 rfl 1 (by decide) rfl fw_X7_13 u_X7 dX7_put_8 ?_
  refine g_iload_n K 1 dX7_put_11 rfl rfl ?_
  refine g_iload_n K 3 dX7_put_12 rfl rfl ?_
  obtain ⟨g4, h⟩ := og h
  refine g_iast K kd_134 ltN_134 g4 dX7_put_13 (fun σ5 s6 => ?_)
  replace h := jn_at s6 h
  refine g_aload_n K 0 dX7_put_14 rfl rfl ?_
  refine g_get (v := .ref (X.ad 135)) K (e_ControlRegisterModel kd_132) ltN_132 rfl 2 (by decide) rfl fw_X7_16 u_X7 dX7_put_15 ?_
  refine g_iload_n K 1 dX7_put_18 rfl rfl ?_
  refine g_iload K 4 dX7_put_19 rfl ?_
  obtain ⟨g7, h⟩ := og h
  refine g_iast K kd_135 ltN_135 g7 dX7_put_21 (fun σ8 s9 => ?_)
  replace h := jn_at s9 h
  refine g_aload_n K 0 dX7_put_22 rfl rfl ?_
  refine g_get (v := .ref (X.ad 136)) K (e_ControlRegisterModel kd_132) ltN_132 rfl 3 (by decide) rfl fw_X7_19 u_X7 dX7_put_23 ?_
  refine g_iload_n K 1 dX7_put_26 rfl rfl ?_
  refine g_iload K 5 dX7_put_27 rfl ?_
  obtain ⟨g10, h⟩ := og h
  refine g_iast K kd_136 ltN_136 g10 dX7_put_29 (fun σ11 s12 => ?_)
  replace h := jn_at s12 h
  refine g_aload_n K 0 dX7_put_30 rfl rfl ?_
  refine g_get (v := .ref (X.ad 137)) K (e_ControlRegisterModel kd_132) ltN_132 rfl 4 (by decide) rfl fw_X7_22 u_X7 dX7_put_31 ?_
  refine g_iload_n K 1 dX7_put_34 rfl rfl ?_
  refine g_iload K 6 dX7_put_35 rfl ?_
  obtain ⟨g13, h⟩ := og h
  refine g_iast K kd_137 ltN_137 g13 dX7_put_37 (fun σ14 s15 => ?_)
  replace h := jn_at s15 h
  refine g_aload_n K 0 dX7_put_38 rfl rfl ?_
  refine g_get (v := .ref (X.ad 138)) K (e_ControlRegisterModel kd_132) ltN_132 rfl 5 (by decide) rfl fw_X7_25 u_X7 dX7_put_39 ?_
  refine g_iload_n K 1 dX7_put_42 rfl rfl ?_
  refine g_iload K 7 dX7_put_43 rfl ?_
  obtain ⟨g16, h⟩ := og h
  refine g_iast K kd_138 ltN_138 g16 dX7_put_45 (fun σ17 s18 => ?_)
  replace h := jn_at s18 h
  exact hr _ _ _ dX7_put_46 (rt2 h)
theorem m_X7_put {x1 : Int32} {x2 : Int32} {x3 : Int32} {x4 : Int32} {x5 : Int32} {x6 : Int32} {x7 : Int32} {σ : Sg}  {r : Sg} (h : f_X7_put x1 x2 x3 x4 x5 x6 x7 σ = some r) : CV yX7_put cX7_put 8 none 0 0 (fun ad => [.ref (ad 132), .int x1, .int x2, .int x3, .int x4, .int x5, .int x6, .int x7]) σ r :=
  CV.of (by decide) (fun _ => Nat.le_of_ble_eq_true rfl) (fun X K hR hr => w_X7_put K hR h hr)
def L_X7_placeOf_4 (x1 : Int32) (σ : Sg) : Nat → Int32 → Int32 → Option (Int32 × Int32)
  | 0, _, _ => none
  | n + 1, x2, x3 =>
    if (σ.1 132 6) ≤ x3 then
    (some (x2, x3))
    else
    (if inb x3 41 then
    (if inb x1 41 then
    (Option.bind (if (σ.1 133 x3.toNatClampNeg) < (σ.1 133 x1.toNatClampNeg) then (some 1) else (if inb x3 41 then (if inb x1 41 then (if (σ.1 133 x3.toNatClampNeg) = (σ.1 133 x1.toNatClampNeg) then (if x1 ≤ x3 then (some 0) else (some 1)) else (some 0)) else none) else none) : Option Int32) (fun v10 =>
    L_X7_placeOf_4 x1 σ n (x2 + v10) (x3 + 1)))
    else none)
    else none)
set_option maxRecDepth 20000 in
set_option maxHeartbeats 4000000 in
theorem l_X7_placeOf_4 {X : Ctx} (K : Cok X cX7_placeOf 4 RX7) (hR : 0 ≤ X.R.frames ∧ 0 ≤ X.R.locals) {x1 : Int32} {σ : Sg}  :
    ∀ (n : Nat) (x2 : Int32) (x3 : Int32) (o : (Int32 × Int32)), L_X7_placeOf_4 x1 σ n x2 x3 = some o → G X 4 61 [(0, .ref (X.ad 132)), (1, .int x1), (2, .int o.1), (3, .int o.2)] [] σ → G X 4 4 [(0, .ref (X.ad 132)), (1, .int x1), (2, .int x2), (3, .int x3)] [] σ := by
  intro n
  induction n with
  | zero => intro x2 x3 o h; exact absurd h (by unfold L_X7_placeOf_4; intro h; cases h)
  | succ n ih =>
    intro x2 x3 o h hexit
    unfold L_X7_placeOf_4 at h
    refine g_iload_n K 3 dX7_placeOf_4 rfl rfl ?_
    refine g_aload_n K 0 dX7_placeOf_5 rfl rfl ?_
    refine g_get (v := .int (σ.1 132 6)) K (e_ControlRegisterModel kd_132) ltN_132 rfl 6 (by decide) rfl fw_X7_70 u_X7 dX7_placeOf_6 ?_
    refine g_icmp_ge (tgt := 61) K dX7_placeOf_9 (by decide) (fun c1 => ?_) (fun c1 => ?_)
    · replace h := bp c1 h
      refine g_sub [0, 1, 2, 3] rfl ?_
      obtain rfl := Option.some.inj h
      exact hexit
    · replace h := bn c1 h
      refine g_iload_n K 2 dX7_placeOf_12 rfl rfl ?_
      refine g_aload_n K 0 dX7_placeOf_13 rfl rfl ?_
      refine g_get (v := .ref (X.ad 133)) K (e_ControlRegisterModel kd_132) ltN_132 rfl 0 (by decide) rfl fw_X7_7 u_X7 dX7_placeOf_14 ?_
      refine g_iload_n K 3 dX7_placeOf_17 rfl rfl ?_
      obtain ⟨g2, h⟩ := og h
      refine g_iald K kd_133 ltN_133 g2 dX7_placeOf_18 ?_
      refine g_aload_n K 0 dX7_placeOf_19 rfl rfl ?_
      refine g_get (v := .ref (X.ad 133)) K (e_ControlRegisterModel kd_132) ltN_132 rfl 0 (by decide) rfl fw_X7_7 u_X7 dX7_placeOf_20 ?_
      refine g_iload_n K 1 dX7_placeOf_23 rfl rfl ?_
      obtain ⟨g3, h⟩ := og h
      refine g_iald K kd_133 ltN_133 g3 dX7_placeOf_24 ?_
      refine bd_cut h (P := (fun v10 => G X 4 53 [(0, .ref (X.ad 132)), (1, .int x1), (2, .int x2), (3, .int x3)] [.int v10, .int x2] σ)) (fun v10 h => ?_) (fun tail_9 => ?_)
      · refine g_iadd K dX7_placeOf_53 ?_
        refine g_istore_n (lv' := [(2, .int (x2 + v10)), (0, .ref (X.ad 132)), (1, .int x1), (3, .int x3)]) K dX7_placeOf_54 rfl (by decide) rfl ?_
        refine g_iinc (lv' := [(3, .int (x3 + 1)), (2, .int (x2 + v10)), (0, .ref (X.ad 132)), (1, .int x1)]) K 3 dX7_placeOf_55 rfl (by rw [ic_1]) (by decide) rfl ?_
        refine g_goto (tgt := 4) K dX7_placeOf_58 (by decide) ?_
        refine g_sub [2, 3, 1, 0] rfl ?_
        exact ih _ _ _ h hexit
      · refine g_icmp_lt (tgt := 48) K dX7_placeOf_25 (by decide) (fun c11 => ?_) (fun c11 => ?_)
        · replace h := jbp c11 h
          refine g_iconst (v := 1) K dX7_placeOf_48 ic_1 ?_
          refine g_goto (tgt := 53) K dX7_placeOf_49 (by decide) ?_
          exact tail_9 _ h
        · replace h := jbn c11 h
          refine g_aload_n K 0 dX7_placeOf_28 rfl rfl ?_
          refine g_get (v := .ref (X.ad 133)) K (e_ControlRegisterModel kd_132) ltN_132 rfl 0 (by decide) rfl fw_X7_7 u_X7 dX7_placeOf_29 ?_
          refine g_iload_n K 3 dX7_placeOf_32 rfl rfl ?_
          obtain ⟨g12, h⟩ := ogb h
          refine g_iald K kd_133 ltN_133 g12 dX7_placeOf_33 ?_
          refine g_aload_n K 0 dX7_placeOf_34 rfl rfl ?_
          refine g_get (v := .ref (X.ad 133)) K (e_ControlRegisterModel kd_132) ltN_132 rfl 0 (by decide) rfl fw_X7_7 u_X7 dX7_placeOf_35 ?_
          refine g_iload_n K 1 dX7_placeOf_38 rfl rfl ?_
          obtain ⟨g13, h⟩ := ogb h
          refine g_iald K kd_133 ltN_133 g13 dX7_placeOf_39 ?_
          refine g_icmp_ne (tgt := 52) K dX7_placeOf_40 (by decide) (fun c14 => ?_) (fun c14 => ?_)
          · replace h := jbn c14 h
            refine g_iconst (v := 0) K dX7_placeOf_52 ic_0 ?_
            exact tail_9 _ h
          · replace h := jbp c14 h
            refine g_iload_n K 3 dX7_placeOf_43 rfl rfl ?_
            refine g_iload_n K 1 dX7_placeOf_44 rfl rfl ?_
            refine g_icmp_ge (tgt := 52) K dX7_placeOf_45 (by decide) (fun c15 => ?_) (fun c15 => ?_)
            · replace h := jbp c15 h
              refine g_iconst (v := 0) K dX7_placeOf_52 ic_0 ?_
              exact tail_9 _ h
            · replace h := jbn c15 h
              refine g_iconst (v := 1) K dX7_placeOf_48 ic_1 ?_
              refine g_goto (tgt := 53) K dX7_placeOf_49 (by decide) ?_
              exact tail_9 _ h
def f_X7_placeOf (x1 : Int32) (σ : Sg) : Option Int32 :=
  Option.bind (L_X7_placeOf_4 x1 σ FU 0 0) (fun o1 =>
  some o1.1)
set_option maxRecDepth 20000 in
set_option maxHeartbeats 4000000 in
theorem w_X7_placeOf {X : Ctx} (K : Cok X cX7_placeOf 4 RX7) (hR : 0 ≤ X.R.frames ∧ 0 ≤ X.R.locals) {x1 : Int32} {σ : Sg}  {r : Int32} (h : f_X7_placeOf x1 σ = some r) (hr : RI X cX7_placeOf 4 (r, σ)) : G X 4 0 [(0, .ref (X.ad 132)), (1, .int x1)] [] σ := by
  unfold f_X7_placeOf at h
  refine g_iconst (v := 0) K dX7_placeOf_0 ic_0 ?_
  refine g_istore_n (lv' := [(2, .int 0), (0, .ref (X.ad 132)), (1, .int x1)]) K dX7_placeOf_1 rfl (by decide) rfl ?_
  refine g_iconst (v := 0) K dX7_placeOf_2 ic_0 ?_
  refine g_istore_n (lv' := [(3, .int 0), (2, .int 0), (0, .ref (X.ad 132)), (1, .int x1)]) K dX7_placeOf_3 rfl (by decide) rfl ?_
  obtain ⟨o1, e2, h⟩ := ob h
  refine g_sub [2, 3, 1, 0] rfl ?_
  refine l_X7_placeOf_4 K hR _ _ _ _ e2 ?_
  refine g_iload_n K 2 dX7_placeOf_61 rfl rfl ?_
  exact hr _ _ _ _ dX7_placeOf_62 (rt1 h)
theorem m_X7_placeOf {x1 : Int32} {σ : Sg}  {r : Int32} (h : f_X7_placeOf x1 σ = some r) : CI yX7_placeOf cX7_placeOf 4 (some .int) 0 0 (fun ad => [.ref (ad 132), .int x1]) σ r σ :=
  CI.of (by decide) (fun _ => Nat.le_of_ble_eq_true rfl) (fun X K hR hr => w_X7_placeOf K hR h hr)
def L_X7_begin_2  : Nat → Int32 → Sg → Option (Int32 × Sg)
  | 0, _, _ => none
  | n + 1, x1, σ =>
    if (σ.1 132 6) ≤ x1 then
    (some (x1, σ))
    else
    (Option.bind (f_X7_placeOf x1 σ) (fun r2 =>
    if inb r2 41 then
    (jn (setR σ 140 (upd (σ.1 140) r2.toNatClampNeg x1)) (fun σ5 =>
    L_X7_begin_2 n (x1 + 1) σ5))
    else none))
set_option maxRecDepth 20000 in
set_option maxHeartbeats 4000000 in
theorem l_X7_begin_2 {X : Ctx} (K : Cok X cX7_begin 2 RX7) (hR : 1 ≤ X.R.frames ∧ 23 ≤ X.R.locals)   :
    ∀ (n : Nat) (x1 : Int32) (σ : Sg) (o : (Int32 × Sg)), L_X7_begin_2  n x1 σ = some o → G X 2 27 [(0, .ref (X.ad 132)), (1, .int o.1)] [] o.2 → G X 2 2 [(0, .ref (X.ad 132)), (1, .int x1)] [] σ := by
  intro n
  induction n with
  | zero => intro x1 σ o h; exact absurd h (by unfold L_X7_begin_2; intro h; cases h)
  | succ n ih =>
    intro x1 σ o h hexit
    unfold L_X7_begin_2 at h
    refine g_iload_n K 1 dX7_begin_2 rfl rfl ?_
    refine g_aload_n K 0 dX7_begin_3 rfl rfl ?_
    refine g_get (v := .int (σ.1 132 6)) K (e_ControlRegisterModel kd_132) ltN_132 rfl 6 (by decide) rfl fw_X7_70 u_X7 dX7_begin_4 ?_
    refine g_icmp_ge (tgt := 27) K dX7_begin_7 (by decide) (fun c1 => ?_) (fun c1 => ?_)
    · replace h := bp c1 h
      refine g_sub [0, 1] rfl ?_
      obtain rfl := Option.some.inj h
      exact hexit
    · replace h := bn c1 h
      refine g_aload_n K 0 dX7_begin_10 rfl rfl ?_
      refine g_get (v := .ref (X.ad 140)) K (e_ControlRegisterModel kd_132) ltN_132 rfl 9 (by decide) rfl fw_X7_31 u_X7 dX7_begin_11 ?_
      refine g_aload_n K 0 dX7_begin_14 rfl rfl ?_
      refine g_iload_n K 1 dX7_begin_15 rfl rfl ?_
      obtain ⟨r2, e3, h⟩ := ob h
      refine g_cvi (As := [.int x1]) (rest := [.ref (X.ad 140)]) K (m_X7_placeOf e3) yv_X7_placeOf ml_X7_74 rfl rfl rfl (e_ControlRegisterModel kd_132) ltN_132 rfl rfl ⟨Nat.le_trans (Nat.le_of_ble_eq_true rfl) hR.1, Nat.le_trans (Nat.le_of_ble_eq_true rfl) hR.2⟩ (Nat.le_of_ble_eq_true rfl) dX7_begin_16 ?_
      refine g_iload_n K 1 dX7_begin_19 rfl rfl ?_
      obtain ⟨g4, h⟩ := og h
      refine g_iast K kd_140 ltN_140 g4 dX7_begin_20 (fun σ5 s6 => ?_)
      replace h := jn_at s6 h
      refine g_iinc (lv' := [(1, .int (x1 + 1)), (0, .ref (X.ad 132))]) K 1 dX7_begin_21 rfl (by rw [ic_1]) (by decide) rfl ?_
      refine g_goto (tgt := 2) K dX7_begin_24 (by decide) ?_
      refine g_sub [1, 0] rfl ?_
      exact ih _ _ _ h hexit
def L_X7_begin_29  : Nat → Int32 → Sg → Option (Int32 × Sg)
  | 0, _, _ => none
  | n + 1, x1, σ =>
    if 50 ≤ x1 then
    (some (x1, σ))
    else
    (jn (if (x1 / 5) = 9 then (100) else (0) : Int32) (fun v5 =>
    if inb x1 50 then
    (jn (setR σ 141 (upd (σ.1 141) x1.toNatClampNeg v5)) (fun σ8 =>
    if inb x1 50 then
    (if inb x1 50 then
    (jn (setR σ8 142 (upd (σ8.1 142) x1.toNatClampNeg (σ8.1 141 x1.toNatClampNeg))) (fun σ12 =>
    if inb x1 50 then
    (jn (setR σ12 143 (upd (σ12.1 143) x1.toNatClampNeg (vp_nar .boolean 0))) (fun σ15 =>
    L_X7_begin_29 n (x1 + 1) σ15))
    else none))
    else none)
    else none))
    else none))
set_option maxRecDepth 20000 in
set_option maxHeartbeats 4000000 in
theorem l_X7_begin_29 {X : Ctx} (K : Cok X cX7_begin 2 RX7) (hR : 1 ≤ X.R.frames ∧ 23 ≤ X.R.locals)   :
    ∀ (n : Nat) (x1 : Int32) (σ : Sg) (o : (Int32 × Sg)), L_X7_begin_29  n x1 σ = some o → G X 2 80 [(0, .ref (X.ad 132)), (1, .int o.1)] [] o.2 → G X 2 29 [(0, .ref (X.ad 132)), (1, .int x1)] [] σ := by
  intro n
  induction n with
  | zero => intro x1 σ o h; exact absurd h (by unfold L_X7_begin_29; intro h; cases h)
  | succ n ih =>
    intro x1 σ o h hexit
    unfold L_X7_begin_29 at h
    refine g_iload_n K 1 dX7_begin_29 rfl rfl ?_
    refine g_bipush (v := 50) K dX7_begin_30 bp_50 ?_
    refine g_icmp_ge (tgt := 80) K dX7_begin_32 (by decide) (fun c1 => ?_) (fun c1 => ?_)
    · replace h := bp c1 h
      refine g_sub [0, 1] rfl ?_
      obtain rfl := Option.some.inj h
      exact hexit
    · replace h := bn c1 h
      refine g_aload_n K 0 dX7_begin_35 rfl rfl ?_
      refine g_get (v := .ref (X.ad 141)) K (e_ControlRegisterModel kd_132) ltN_132 rfl 10 (by decide) rfl fw_X7_34 u_X7 dX7_begin_36 ?_
      refine g_iload_n K 1 dX7_begin_39 rfl rfl ?_
      refine g_iload_n K 1 dX7_begin_40 rfl rfl ?_
      refine g_iconst (v := 5) K dX7_begin_41 ic_5 ?_
      refine g_idiv K dX7_begin_42 nz_5 ?_
      refine g_bipush (v := 9) K dX7_begin_43 bp_9 ?_
      refine jn_cut h (P := (fun v5 => G X 2 54 [(0, .ref (X.ad 132)), (1, .int x1)] [.int v5, .int x1, .ref (X.ad 141)] σ)) (fun v5 h => ?_) (fun tail_4 => ?_)
      · obtain ⟨g7, h⟩ := og h
        refine g_iast K kd_141 ltN_141 g7 dX7_begin_54 (fun σ8 s9 => ?_)
        replace h := jn_at s9 h
        refine g_aload_n K 0 dX7_begin_55 rfl rfl ?_
        refine g_get (v := .ref (X.ad 142)) K (e_ControlRegisterModel kd_132) ltN_132 rfl 11 (by decide) rfl fw_X7_37 u_X7 dX7_begin_56 ?_
        refine g_iload_n K 1 dX7_begin_59 rfl rfl ?_
        refine g_aload_n K 0 dX7_begin_60 rfl rfl ?_
        refine g_get (v := .ref (X.ad 141)) K (e_ControlRegisterModel kd_132) ltN_132 rfl 10 (by decide) rfl fw_X7_34 u_X7 dX7_begin_61 ?_
        refine g_iload_n K 1 dX7_begin_64 rfl rfl ?_
        obtain ⟨g10, h⟩ := og h
        refine g_iald K kd_141 ltN_141 g10 dX7_begin_65 ?_
        obtain ⟨g11, h⟩ := og h
        refine g_iast K kd_142 ltN_142 g11 dX7_begin_66 (fun σ12 s13 => ?_)
        replace h := jn_at s13 h
        refine g_aload_n K 0 dX7_begin_67 rfl rfl ?_
        refine g_get (v := .ref (X.ad 143)) K (e_ControlRegisterModel kd_132) ltN_132 rfl 12 (by decide) rfl fw_X7_40 u_X7 dX7_begin_68 ?_
        refine g_iload_n K 1 dX7_begin_71 rfl rfl ?_
        refine g_iconst (v := 0) K dX7_begin_72 ic_0 ?_
        obtain ⟨g14, h⟩ := og h
        refine g_zast K kd_143 ltN_143 g14 dX7_begin_73 (fun σ15 s16 => ?_)
        replace h := jn_at s16 h
        refine g_iinc (lv' := [(1, .int (x1 + 1)), (0, .ref (X.ad 132))]) K 1 dX7_begin_74 rfl (by rw [ic_1]) (by decide) rfl ?_
        refine g_goto (tgt := 29) K dX7_begin_77 (by decide) ?_
        refine g_sub [1, 0] rfl ?_
        exact ih _ _ _ h hexit
      · refine g_icmp_ne (tgt := 53) K dX7_begin_45 (by decide) (fun c6 => ?_) (fun c6 => ?_)
        · replace h := jpn c6 h
          refine g_iconst (v := 0) K dX7_begin_53 ic_0 ?_
          exact tail_4 _ h
        · replace h := jpp c6 h
          refine g_bipush (v := 100) K dX7_begin_48 bp_100 ?_
          refine g_goto (tgt := 54) K dX7_begin_50 (by decide) ?_
          exact tail_4 _ h
def f_X7_begin  (σ : Sg) : Option Sg :=
  Option.bind (L_X7_begin_2 FU 0 σ) (fun o1 =>
  Option.bind (L_X7_begin_29 FU 0 o1.2) (fun o3 =>
  some o3.2))
set_option maxRecDepth 20000 in
set_option maxHeartbeats 4000000 in
theorem w_X7_begin {X : Ctx} (K : Cok X cX7_begin 2 RX7) (hR : 1 ≤ X.R.frames ∧ 23 ≤ X.R.locals)  {σ : Sg}  {r : Sg} (h : f_X7_begin σ = some r) (hr : RV X cX7_begin 2 r) : G X 2 0 [(0, .ref (X.ad 132))] [] σ := by
  unfold f_X7_begin at h
  refine g_iconst (v := 0) K dX7_begin_0 ic_0 ?_
  refine g_istore_n (lv' := [(1, .int 0), (0, .ref (X.ad 132))]) K dX7_begin_1 rfl (by decide) rfl ?_
  obtain ⟨o1, e2, h⟩ := ob h
  refine g_sub [1, 0] rfl ?_
  refine l_X7_begin_2 K hR _ _ _ _ e2 ?_
  refine g_iconst (v := 0) K dX7_begin_27 ic_0 ?_
  refine g_istore_n (lv' := [(1, .int 0), (0, .ref (X.ad 132))]) K dX7_begin_28 rfl (by decide) rfl ?_
  obtain ⟨o3, e4, h⟩ := ob h
  refine g_sub [1, 0] rfl ?_
  refine l_X7_begin_29 K hR _ _ _ _ e4 ?_
  exact hr _ _ _ dX7_begin_80 (rt2 h)
theorem m_X7_begin  {σ : Sg}  {r : Sg} (h : f_X7_begin σ = some r) : CV yX7_begin cX7_begin 2 none 1 23 (fun ad => [.ref (ad 132)]) σ r :=
  CV.of (by decide) (fun _ => Nat.le_of_ble_eq_true rfl) (fun X K hR hr => w_X7_begin K hR h hr)
def f_X7_at (x0 : Int32) (x1 : Int32) : Int32 :=
  ((5 * x0) + x1)
set_option maxRecDepth 20000 in
set_option maxHeartbeats 4000000 in
theorem w_X7_at {X : Ctx} (K : Cok X cX7_at 2 RX7) (hR : 0 ≤ X.R.frames ∧ 0 ≤ X.R.locals) {x0 : Int32} {x1 : Int32} {σ : Sg}  {r : Int32} (h : f_X7_at x0 x1 = r) (hr : RI X cX7_at 2 (r, σ)) : G X 2 0 [(0, .int x0), (1, .int x1)] [] σ := by
  unfold f_X7_at at h
  refine g_iconst (v := 5) K dX7_at_0 ic_5 ?_
  refine g_iload_n K 0 dX7_at_1 rfl rfl ?_
  refine g_imul K dX7_at_2 ?_
  refine g_iload_n K 1 dX7_at_3 rfl rfl ?_
  refine g_iadd K dX7_at_4 ?_
  exact hr _ _ _ _ dX7_at_5 (rt0 h)
theorem m_X7_at (x0 : Int32) (x1 : Int32) (σ : Sg)  : CI yX7_at cX7_at 2 (some .int) 0 0 (fun ad => [.int x0, .int x1]) σ (f_X7_at x0 x1) σ :=
  CI.of (by decide) (fun _ => Nat.le_of_ble_eq_true rfl) (fun X K hR hr => w_X7_at K hR rfl hr)
def f_X7_does (x1 : Int32) (σ : Sg) : Option (Int32 × Sg) :=
  if inb x1 41 then
  (if inb x1 41 then
  (if inb x1 41 then
  (if inb x1 41 then
  (if inb x1 41 then
  (if (σ.1 135 x1.toNatClampNeg) = 0 then
  (if inb (f_X7_at (σ.1 136 x1.toNatClampNeg) (σ.1 134 x1.toNatClampNeg)) 50 then
  (if inb x1 41 then
  (if (σ.1 138 x1.toNatClampNeg) ≤ (σ.1 141 (f_X7_at (σ.1 136 x1.toNatClampNeg) (σ.1 134 x1.toNatClampNeg)).toNatClampNeg) then
  (if inb (f_X7_at (σ.1 136 x1.toNatClampNeg) (σ.1 134 x1.toNatClampNeg)) 50 then
  (if inb x1 41 then
  (if inb (f_X7_at (σ.1 136 x1.toNatClampNeg) (σ.1 134 x1.toNatClampNeg)) 50 then
  (jn (setR σ 141 (upd (σ.1 141) (f_X7_at (σ.1 136 x1.toNatClampNeg) (σ.1 134 x1.toNatClampNeg)).toNatClampNeg ((σ.1 141 (f_X7_at (σ.1 136 x1.toNatClampNeg) (σ.1 134 x1.toNatClampNeg)).toNatClampNeg) - (σ.1 138 x1.toNatClampNeg)))) (fun σ13 =>
  if inb (f_X7_at (σ.1 137 x1.toNatClampNeg) (σ.1 134 x1.toNatClampNeg)) 50 then
  (if inb x1 41 then
  (if inb (f_X7_at (σ.1 137 x1.toNatClampNeg) (σ.1 134 x1.toNatClampNeg)) 50 then
  (jn (setR σ13 141 (upd (σ13.1 141) (f_X7_at (σ.1 137 x1.toNatClampNeg) (σ.1 134 x1.toNatClampNeg)).toNatClampNeg ((σ13.1 141 (f_X7_at (σ.1 137 x1.toNatClampNeg) (σ.1 134 x1.toNatClampNeg)).toNatClampNeg) + (σ13.1 138 x1.toNatClampNeg)))) (fun σ18 =>
  some (1, σ18)))
  else none)
  else none)
  else none))
  else none)
  else none)
  else none)
  else
  (some (0, σ)))
  else none)
  else none)
  else
  (if (σ.1 135 x1.toNatClampNeg) = 1 then
  (if inb (f_X7_at (σ.1 136 x1.toNatClampNeg) (σ.1 134 x1.toNatClampNeg)) 50 then
  (if inb x1 41 then
  (if (σ.1 138 x1.toNatClampNeg) ≤ (σ.1 142 (f_X7_at (σ.1 136 x1.toNatClampNeg) (σ.1 134 x1.toNatClampNeg)).toNatClampNeg) then
  (if inb (f_X7_at (σ.1 136 x1.toNatClampNeg) (σ.1 134 x1.toNatClampNeg)) 50 then
  (if inb x1 41 then
  (if inb (f_X7_at (σ.1 136 x1.toNatClampNeg) (σ.1 134 x1.toNatClampNeg)) 50 then
  (jn (setR σ 142 (upd (σ.1 142) (f_X7_at (σ.1 136 x1.toNatClampNeg) (σ.1 134 x1.toNatClampNeg)).toNatClampNeg ((σ.1 142 (f_X7_at (σ.1 136 x1.toNatClampNeg) (σ.1 134 x1.toNatClampNeg)).toNatClampNeg) - (σ.1 138 x1.toNatClampNeg)))) (fun σ27 =>
  if inb (f_X7_at (σ.1 137 x1.toNatClampNeg) (σ.1 134 x1.toNatClampNeg)) 50 then
  (if inb x1 41 then
  (if inb (f_X7_at (σ.1 137 x1.toNatClampNeg) (σ.1 134 x1.toNatClampNeg)) 50 then
  (jn (setR σ27 142 (upd (σ27.1 142) (f_X7_at (σ.1 137 x1.toNatClampNeg) (σ.1 134 x1.toNatClampNeg)).toNatClampNeg ((σ27.1 142 (f_X7_at (σ.1 137 x1.toNatClampNeg) (σ.1 134 x1.toNatClampNeg)).toNatClampNeg) + (σ27.1 138 x1.toNatClampNeg)))) (fun σ32 =>
  some (1, σ32)))
  else none)
  else none)
  else none))
  else none)
  else none)
  else none)
  else
  (some (0, σ)))
  else none)
  else none)
  else
  (if inb x1 41 then
  (jn (if (σ.1 135 x1.toNatClampNeg) = 2 then (1) else (0) : Int32) (fun v37 =>
  if inb (f_X7_at (σ.1 137 x1.toNatClampNeg) (σ.1 134 x1.toNatClampNeg)) 50 then
  (jn (setR σ 143 (upd (σ.1 143) (f_X7_at (σ.1 137 x1.toNatClampNeg) (σ.1 134 x1.toNatClampNeg)).toNatClampNeg (vp_nar .boolean v37))) (fun σ40 =>
  some (1, σ40)))
  else none))
  else none)))
  else none)
  else none)
  else none)
  else none)
  else none
set_option maxRecDepth 20000 in
set_option maxHeartbeats 4000000 in
theorem w_X7_does {X : Ctx} (K : Cok X cX7_does 4 RX7) (hR : 1 ≤ X.R.frames ∧ 21 ≤ X.R.locals) {x1 : Int32} {σ : Sg}  {r : Int32 × Sg} (h : f_X7_does x1 σ = some r) (hr : RZ X cX7_does 4 r) : G X 4 0 [(0, .ref (X.ad 132)), (1, .int x1)] [] σ := by
  unfold f_X7_does at h
  refine g_aload_n K 0 dX7_does_0 rfl rfl ?_
  refine g_get (v := .ref (X.ad 136)) K (e_ControlRegisterModel kd_132) ltN_132 rfl 3 (by decide) rfl fw_X7_19 u_X7 dX7_does_1 ?_
  refine g_iload_n K 1 dX7_does_4 rfl rfl ?_
  obtain ⟨g1, h⟩ := og h
  refine g_iald K kd_136 ltN_136 g1 dX7_does_5 ?_
  refine g_aload_n K 0 dX7_does_6 rfl rfl ?_
  refine g_get (v := .ref (X.ad 134)) K (e_ControlRegisterModel kd_132) ltN_132 rfl 1 (by decide) rfl fw_X7_13 u_X7 dX7_does_7 ?_
  refine g_iload_n K 1 dX7_does_10 rfl rfl ?_
  obtain ⟨g2, h⟩ := og h
  refine g_iald K kd_134 ltN_134 g2 dX7_does_11 ?_
  refine g_csi (As := [.int (σ.1 136 x1.toNatClampNeg), .int (σ.1 134 x1.toNatClampNeg)]) (rest := []) K (m_X7_at (σ.1 136 x1.toNatClampNeg) (σ.1 134 x1.toNatClampNeg) σ) yv_X7_at ml_X7_78 rfl rfl rfl ⟨Nat.le_trans (Nat.le_of_ble_eq_true rfl) hR.1, Nat.le_trans (Nat.le_of_ble_eq_true rfl) hR.2⟩ (Nat.le_of_ble_eq_true rfl) dX7_does_12 ?_
  refine g_istore_n (lv' := [(2, .int (f_X7_at (σ.1 136 x1.toNatClampNeg) (σ.1 134 x1.toNatClampNeg))), (0, .ref (X.ad 132)), (1, .int x1)]) K dX7_does_15 rfl (by decide) rfl ?_
  refine g_aload_n K 1 dX7_does_16 rfl rfl ?_
  refine g_get (v := .ref (X.ad 137)) K (e_ControlRegisterModel kd_132) ltN_132 rfl 4 (by decide) rfl fw_X7_22 u_X7 dX7_does_17 ?_
  refine g_iload_n K 2 dX7_does_20 rfl rfl ?_
  obtain ⟨g3, h⟩ := og h
  refine g_iald K kd_137 ltN_137 g3 dX7_does_21 ?_
  refine g_aload_n K 1 dX7_does_22 rfl rfl ?_
  refine g_get (v := .ref (X.ad 134)) K (e_ControlRegisterModel kd_132) ltN_132 rfl 1 (by decide) rfl fw_X7_13 u_X7 dX7_does_23 ?_
  refine g_iload_n K 2 dX7_does_26 rfl rfl ?_
  obtain ⟨g4, h⟩ := og h
  refine g_iald K kd_134 ltN_134 g4 dX7_does_27 ?_
  refine g_csi (As := [.int (σ.1 137 x1.toNatClampNeg), .int (σ.1 134 x1.toNatClampNeg)]) (rest := []) K (m_X7_at (σ.1 137 x1.toNatClampNeg) (σ.1 134 x1.toNatClampNeg) σ) yv_X7_at ml_X7_78 rfl rfl rfl ⟨Nat.le_trans (Nat.le_of_ble_eq_true rfl) hR.1, Nat.le_trans (Nat.le_of_ble_eq_true rfl) hR.2⟩ (Nat.le_of_ble_eq_true rfl) dX7_does_28 ?_
  refine g_istore_n (lv' := [(3, .int (f_X7_at (σ.1 137 x1.toNatClampNeg) (σ.1 134 x1.toNatClampNeg))), (2, .int (f_X7_at (σ.1 136 x1.toNatClampNeg) (σ.1 134 x1.toNatClampNeg))), (0, .ref (X.ad 132)), (1, .int x1)]) K dX7_does_31 rfl (by decide) rfl ?_
  refine g_aload_n K 2 dX7_does_32 rfl rfl ?_
  refine g_get (v := .ref (X.ad 135)) K (e_ControlRegisterModel kd_132) ltN_132 rfl 2 (by decide) rfl fw_X7_16 u_X7 dX7_does_33 ?_
  refine g_iload_n K 3 dX7_does_36 rfl rfl ?_
  obtain ⟨g5, h⟩ := og h
  refine g_iald K kd_135 ltN_135 g5 dX7_does_37 ?_
  rcases Classical.em ((σ.1 135 x1.toNatClampNeg) = 0) with c6 | c6
  · replace h := bp c6 h
    refine g_lookup (off := 26) (tgt := 64) K dX7_does_38 (by decide) (by rw [c6]; decide) (by decide) ?_
    refine g_aload_n K 2 dX7_does_64 rfl rfl ?_
    refine g_get (v := .ref (X.ad 141)) K (e_ControlRegisterModel kd_132) ltN_132 rfl 10 (by decide) rfl fw_X7_34 u_X7 dX7_does_65 ?_
    refine g_iload_n K 1 dX7_does_68 rfl rfl ?_
    obtain ⟨g7, h⟩ := og h
    refine g_iald K kd_141 ltN_141 g7 dX7_does_69 ?_
    refine g_aload_n K 2 dX7_does_70 rfl rfl ?_
    refine g_get (v := .ref (X.ad 138)) K (e_ControlRegisterModel kd_132) ltN_132 rfl 5 (by decide) rfl fw_X7_25 u_X7 dX7_does_71 ?_
    refine g_iload_n K 3 dX7_does_74 rfl rfl ?_
    obtain ⟨g8, h⟩ := og h
    refine g_iald K kd_138 ltN_138 g8 dX7_does_75 ?_
    refine g_icmp_ge (tgt := 81) K dX7_does_76 (by decide) (fun c9 => ?_) (fun c9 => ?_)
    · replace h := bp c9 h
      refine g_aload_n K 2 dX7_does_81 rfl rfl ?_
      refine g_get (v := .ref (X.ad 141)) K (e_ControlRegisterModel kd_132) ltN_132 rfl 10 (by decide) rfl fw_X7_34 u_X7 dX7_does_82 ?_
      refine g_iload_n K 1 dX7_does_85 rfl rfl ?_
      refine g_dup2 K dX7_does_86 rfl rfl ?_
      obtain ⟨g10, h⟩ := og h
      refine g_iald K kd_141 ltN_141 g10 dX7_does_87 ?_
      refine g_aload_n K 2 dX7_does_88 rfl rfl ?_
      refine g_get (v := .ref (X.ad 138)) K (e_ControlRegisterModel kd_132) ltN_132 rfl 5 (by decide) rfl fw_X7_25 u_X7 dX7_does_89 ?_
      refine g_iload_n K 3 dX7_does_92 rfl rfl ?_
      obtain ⟨g11, h⟩ := og h
      refine g_iald K kd_138 ltN_138 g11 dX7_does_93 ?_
      refine g_isub K dX7_does_94 ?_
      obtain ⟨g12, h⟩ := og h
      refine g_iast K kd_141 ltN_141 g12 dX7_does_95 (fun σ13 s14 => ?_)
      replace h := jn_at s14 h
      refine g_aload_n K 2 dX7_does_96 rfl rfl ?_
      refine g_get (v := .ref (X.ad 141)) K (e_ControlRegisterModel kd_132) ltN_132 rfl 10 (by decide) rfl fw_X7_34 u_X7 dX7_does_97 ?_
      refine g_iload_n K 0 dX7_does_100 rfl rfl ?_
      refine g_dup2 K dX7_does_101 rfl rfl ?_
      obtain ⟨g15, h⟩ := og h
      refine g_iald K kd_141 ltN_141 g15 dX7_does_102 ?_
      refine g_aload_n K 2 dX7_does_103 rfl rfl ?_
      refine g_get (v := .ref (X.ad 138)) K (e_ControlRegisterModel kd_132) ltN_132 rfl 5 (by decide) rfl fw_X7_25 u_X7 dX7_does_104 ?_
      refine g_iload_n K 3 dX7_does_107 rfl rfl ?_
      obtain ⟨g16, h⟩ := og h
      refine g_iald K kd_138 ltN_138 g16 dX7_does_108 ?_
      refine g_iadd K dX7_does_109 ?_
      obtain ⟨g17, h⟩ := og h
      refine g_iast K kd_141 ltN_141 g17 dX7_does_110 (fun σ18 s19 => ?_)
      replace h := jn_at s19 h
      refine g_iconst (v := 1) K dX7_does_111 ic_1 ?_
      exact hr _ _ _ _ dX7_does_112 (rt2 h) nb_1
    · replace h := bn c9 h
      refine g_iconst (v := 0) K dX7_does_79 ic_0 ?_
      exact hr _ _ _ _ dX7_does_80 (rt2 h) nb_0
  · replace h := bn c6 h
    rcases Classical.em ((σ.1 135 x1.toNatClampNeg) = 1) with c20 | c20
    · replace h := bp c20 h
      refine g_lookup (off := 75) (tgt := 113) K dX7_does_38 (by decide) (by rw [c20]; decide) (by decide) ?_
      refine g_aload_n K 2 dX7_does_113 rfl rfl ?_
      refine g_get (v := .ref (X.ad 142)) K (e_ControlRegisterModel kd_132) ltN_132 rfl 11 (by decide) rfl fw_X7_37 u_X7 dX7_does_114 ?_
      refine g_iload_n K 1 dX7_does_117 rfl rfl ?_
      obtain ⟨g21, h⟩ := og h
      refine g_iald K kd_142 ltN_142 g21 dX7_does_118 ?_
      refine g_aload_n K 2 dX7_does_119 rfl rfl ?_
      refine g_get (v := .ref (X.ad 138)) K (e_ControlRegisterModel kd_132) ltN_132 rfl 5 (by decide) rfl fw_X7_25 u_X7 dX7_does_120 ?_
      refine g_iload_n K 3 dX7_does_123 rfl rfl ?_
      obtain ⟨g22, h⟩ := og h
      refine g_iald K kd_138 ltN_138 g22 dX7_does_124 ?_
      refine g_icmp_ge (tgt := 130) K dX7_does_125 (by decide) (fun c23 => ?_) (fun c23 => ?_)
      · replace h := bp c23 h
        refine g_aload_n K 2 dX7_does_130 rfl rfl ?_
        refine g_get (v := .ref (X.ad 142)) K (e_ControlRegisterModel kd_132) ltN_132 rfl 11 (by decide) rfl fw_X7_37 u_X7 dX7_does_131 ?_
        refine g_iload_n K 1 dX7_does_134 rfl rfl ?_
        refine g_dup2 K dX7_does_135 rfl rfl ?_
        obtain ⟨g24, h⟩ := og h
        refine g_iald K kd_142 ltN_142 g24 dX7_does_136 ?_
        refine g_aload_n K 2 dX7_does_137 rfl rfl ?_
        refine g_get (v := .ref (X.ad 138)) K (e_ControlRegisterModel kd_132) ltN_132 rfl 5 (by decide) rfl fw_X7_25 u_X7 dX7_does_138 ?_
        refine g_iload_n K 3 dX7_does_141 rfl rfl ?_
        obtain ⟨g25, h⟩ := og h
        refine g_iald K kd_138 ltN_138 g25 dX7_does_142 ?_
        refine g_isub K dX7_does_143 ?_
        obtain ⟨g26, h⟩ := og h
        refine g_iast K kd_142 ltN_142 g26 dX7_does_144 (fun σ27 s28 => ?_)
        replace h := jn_at s28 h
        refine g_aload_n K 2 dX7_does_145 rfl rfl ?_
        refine g_get (v := .ref (X.ad 142)) K (e_ControlRegisterModel kd_132) ltN_132 rfl 11 (by decide) rfl fw_X7_37 u_X7 dX7_does_146 ?_
        refine g_iload_n K 0 dX7_does_149 rfl rfl ?_
        refine g_dup2 K dX7_does_150 rfl rfl ?_
        obtain ⟨g29, h⟩ := og h
        refine g_iald K kd_142 ltN_142 g29 dX7_does_151 ?_
        refine g_aload_n K 2 dX7_does_152 rfl rfl ?_
        refine g_get (v := .ref (X.ad 138)) K (e_ControlRegisterModel kd_132) ltN_132 rfl 5 (by decide) rfl fw_X7_25 u_X7 dX7_does_153 ?_
        refine g_iload_n K 3 dX7_does_156 rfl rfl ?_
        obtain ⟨g30, h⟩ := og h
        refine g_iald K kd_138 ltN_138 g30 dX7_does_157 ?_
        refine g_iadd K dX7_does_158 ?_
        obtain ⟨g31, h⟩ := og h
        refine g_iast K kd_142 ltN_142 g31 dX7_does_159 (fun σ32 s33 => ?_)
        replace h := jn_at s33 h
        refine g_iconst (v := 1) K dX7_does_160 ic_1 ?_
        exact hr _ _ _ _ dX7_does_161 (rt2 h) nb_1
      · replace h := bn c23 h
        refine g_iconst (v := 0) K dX7_does_128 ic_0 ?_
        exact hr _ _ _ _ dX7_does_129 (rt2 h) nb_0
    · replace h := bn c20 h
      refine g_lookup (off := 124) (tgt := 162) K dX7_does_38 (by decide) (by show Op.lookupswitch.offset [(0, 26), (1, 75)] 124 _ = _; rw [lv_osw (a := 0) c6 (by decide), lv_osw (a := 1) c20 (by decide)]; rfl) (by decide) ?_
      refine g_aload_n K 2 dX7_does_162 rfl rfl ?_
      refine g_get (v := .ref (X.ad 143)) K (e_ControlRegisterModel kd_132) ltN_132 rfl 12 (by decide) rfl fw_X7_40 u_X7 dX7_does_163 ?_
      refine g_iload_n K 0 dX7_does_166 rfl rfl ?_
      refine g_aload_n K 2 dX7_does_167 rfl rfl ?_
      refine g_get (v := .ref (X.ad 135)) K (e_ControlRegisterModel kd_132) ltN_132 rfl 2 (by decide) rfl fw_X7_16 u_X7 dX7_does_168 ?_
      refine g_iload_n K 3 dX7_does_171 rfl rfl ?_
      obtain ⟨g34, h⟩ := og h
      refine g_iald K kd_135 ltN_135 g34 dX7_does_172 ?_
      refine g_iconst (v := 2) K dX7_does_173 ic_2 ?_
      refine jn_cut h (P := (fun v37 => G X 4 182 [(3, .int (f_X7_at (σ.1 137 x1.toNatClampNeg) (σ.1 134 x1.toNatClampNeg))), (2, .int (f_X7_at (σ.1 136 x1.toNatClampNeg) (σ.1 134 x1.toNatClampNeg))), (0, .ref (X.ad 132)), (1, .int x1)] [.int v37, .int (f_X7_at (σ.1 137 x1.toNatClampNeg) (σ.1 134 x1.toNatClampNeg)), .ref (X.ad 143)] σ)) (fun v37 h => ?_) (fun tail_36 => ?_)
      · obtain ⟨g39, h⟩ := og h
        refine g_zast K kd_143 ltN_143 g39 dX7_does_182 (fun σ40 s41 => ?_)
        replace h := jn_at s41 h
        refine g_iconst (v := 1) K dX7_does_183 ic_1 ?_
        exact hr _ _ _ _ dX7_does_184 (rt2 h) nb_1
      · refine g_icmp_ne (tgt := 181) K dX7_does_174 (by decide) (fun c38 => ?_) (fun c38 => ?_)
        · replace h := jpn c38 h
          refine g_iconst (v := 0) K dX7_does_181 ic_0 ?_
          exact tail_36 _ h
        · replace h := jpp c38 h
          refine g_iconst (v := 1) K dX7_does_177 ic_1 ?_
          refine g_goto (tgt := 182) K dX7_does_178 (by decide) ?_
          exact tail_36 _ h
theorem m_X7_does {x1 : Int32} {σ : Sg}  {r : Int32 × Sg} (h : f_X7_does x1 σ = some r) : CI yX7_does cX7_does 4 (some .boolean) 1 21 (fun ad => [.ref (ad 132), .int x1]) σ r.1 r.2 :=
  CZ.of (by decide) (fun _ => Nat.le_of_ble_eq_true rfl) (fun X K hR hr => w_X7_does K hR h hr)
def L_X7_lay_6 (x1 : Int32) (x2 : Int32) : Nat → Int32 → Sg → Option ((Int32 × Sg) ⊕ (Int32 × Sg))
  | 0, _, _ => none
  | n + 1, x3, σ =>
    if (σ.1 132 6) ≤ x3 then
    (some (.inr (x3, σ)))
    else
    (if inb x3 41 then
    (if (σ.1 140 x3.toNatClampNeg) = x2 then
    (L_X7_lay_6 x1 x2 n (x3 + 1) σ)
    else
    (if inb (σ.1 140 x3.toNatClampNeg) 41 then
    (if x1 < (σ.1 133 (σ.1 140 x3.toNatClampNeg).toNatClampNeg) then
    (L_X7_lay_6 x1 x2 n (x3 + 1) σ)
    else
    (Option.bind (f_X7_does (σ.1 140 x3.toNatClampNeg) σ) (fun q6 =>
    if q6.1 = 0 then
    (some (.inl (0, q6.2)))
    else
    (L_X7_lay_6 x1 x2 n (x3 + 1) q6.2))))
    else none))
    else none)
set_option maxRecDepth 20000 in
set_option maxHeartbeats 4000000 in
theorem l_X7_lay_6 {X : Ctx} (K : Cok X cX7_lay 5 RX7) (hR : 2 ≤ X.R.frames ∧ 44 ≤ X.R.locals) {res : Int32 × Sg} (hr : RZ X cX7_lay 5 res) {x1 : Int32} {x2 : Int32}  :
    ∀ (n : Nat) (x3 : Int32) (σ : Sg) (o : ((Int32 × Sg) ⊕ (Int32 × Sg))), L_X7_lay_6 x1 x2 n x3 σ = some o → (∀ q, o = .inl q → q = res) → (∀ q, o = .inr q → G X 5 56 [(0, .ref (X.ad 132)), (1, .int x1), (2, .int x2), (3, .int q.1)] [] q.2) → G X 5 6 [(0, .ref (X.ad 132)), (1, .int x1), (2, .int x2), (3, .int x3)] [] σ := by
  intro n
  induction n with
  | zero => intro x3 σ o h; exact absurd h (by unfold L_X7_lay_6; intro h; cases h)
  | succ n ih =>
    intro x3 σ o h hret hexit
    unfold L_X7_lay_6 at h
    refine g_iload_n K 3 dX7_lay_6 rfl rfl ?_
    refine g_aload_n K 0 dX7_lay_7 rfl rfl ?_
    refine g_get (v := .int (σ.1 132 6)) K (e_ControlRegisterModel kd_132) ltN_132 rfl 6 (by decide) rfl fw_X7_70 u_X7 dX7_lay_8 ?_
    refine g_icmp_ge (tgt := 56) K dX7_lay_11 (by decide) (fun c1 => ?_) (fun c1 => ?_)
    · replace h := bp c1 h
      refine g_sub [0, 1, 2, 3] rfl ?_
      exact hexit _ (Option.some.inj h).symm
    · replace h := bn c1 h
      refine g_aload_n K 0 dX7_lay_14 rfl rfl ?_
      refine g_get (v := .ref (X.ad 140)) K (e_ControlRegisterModel kd_132) ltN_132 rfl 9 (by decide) rfl fw_X7_31 u_X7 dX7_lay_15 ?_
      refine g_iload_n K 3 dX7_lay_18 rfl rfl ?_
      obtain ⟨g2, h⟩ := og h
      refine g_iald K kd_140 ltN_140 g2 dX7_lay_19 ?_
      refine g_istore (lv' := [(4, .int (σ.1 140 x3.toNatClampNeg)), (0, .ref (X.ad 132)), (1, .int x1), (2, .int x2), (3, .int x3)]) K dX7_lay_20 (by decide) rfl ?_
      refine g_iload K 0 dX7_lay_22 rfl ?_
      refine g_iload_n K 3 dX7_lay_24 rfl rfl ?_
      refine g_icmp_eq (tgt := 50) K dX7_lay_25 (by decide) (fun c3 => ?_) (fun c3 => ?_)
      · replace h := bp c3 h
        refine g_iinc (lv' := [(3, .int (x3 + 1)), (4, .int (σ.1 140 x3.toNatClampNeg)), (0, .ref (X.ad 132)), (1, .int x1), (2, .int x2)]) K 4 dX7_lay_50 rfl (by rw [ic_1]) (by decide) rfl ?_
        refine g_goto (tgt := 6) K dX7_lay_53 (by decide) ?_
        refine g_sub [2, 3, 4, 0] rfl ?_
        exact ih _ _ _ h hret hexit
      · replace h := bn c3 h
        refine g_aload_n K 1 dX7_lay_28 rfl rfl ?_
        refine g_get (v := .ref (X.ad 133)) K (e_ControlRegisterModel kd_132) ltN_132 rfl 0 (by decide) rfl fw_X7_7 u_X7 dX7_lay_29 ?_
        refine g_iload K 0 dX7_lay_32 rfl ?_
        obtain ⟨g4, h⟩ := og h
        refine g_iald K kd_133 ltN_133 g4 dX7_lay_34 ?_
        refine g_iload_n K 2 dX7_lay_35 rfl rfl ?_
        refine g_icmp_gt (tgt := 50) K dX7_lay_36 (by decide) (fun c5 => ?_) (fun c5 => ?_)
        · replace h := bp c5 h
          refine g_iinc (lv' := [(3, .int (x3 + 1)), (4, .int (σ.1 140 x3.toNatClampNeg)), (0, .ref (X.ad 132)), (1, .int x1), (2, .int x2)]) K 4 dX7_lay_50 rfl (by rw [ic_1]) (by decide) rfl ?_
          refine g_goto (tgt := 6) K dX7_lay_53 (by decide) ?_
          refine g_sub [2, 3, 4, 0] rfl ?_
          exact ih _ _ _ h hret hexit
        · replace h := bn c5 h
          refine g_aload_n K 1 dX7_lay_39 rfl rfl ?_
          refine g_iload K 0 dX7_lay_40 rfl ?_
          obtain ⟨q6, e7, h⟩ := ob h
          refine g_cvi (As := [.int (σ.1 140 x3.toNatClampNeg)]) (rest := []) K (m_X7_does e7) yv_X7_does ml_X7_85 rfl rfl rfl (e_ControlRegisterModel kd_132) ltN_132 rfl rfl ⟨Nat.le_trans (Nat.le_of_ble_eq_true rfl) hR.1, Nat.le_trans (Nat.le_of_ble_eq_true rfl) hR.2⟩ (Nat.le_of_ble_eq_true rfl) dX7_lay_42 ?_
          refine g_if_ne (tgt := 50) K dX7_lay_45 (by decide) (fun c8 => ?_) (fun c8 => ?_)
          · replace h := bn c8 h
            refine g_iinc (lv' := [(3, .int (x3 + 1)), (4, .int (σ.1 140 x3.toNatClampNeg)), (0, .ref (X.ad 132)), (1, .int x1), (2, .int x2)]) K 4 dX7_lay_50 rfl (by rw [ic_1]) (by decide) rfl ?_
            refine g_goto (tgt := 6) K dX7_lay_53 (by decide) ?_
            refine g_sub [2, 3, 4, 0] rfl ?_
            exact ih _ _ _ h hret hexit
          · replace h := bp c8 h
            refine g_iconst (v := 0) K dX7_lay_48 ic_0 ?_
            exact hr _ _ _ _ dX7_lay_49 (hret _ (Option.some.inj h).symm) nb_0
def f_X7_lay (x1 : Int32) (x2 : Int32) (σ : Sg) : Option (Int32 × Sg) :=
  Option.bind (f_X7_begin σ) (fun q1 =>
  Option.bind (L_X7_lay_6 x1 x2 FU 0 q1) (fun o3 => Sum.elim (fun x => some x) (fun o3 =>
  some (1, o3.2)) o3))
set_option maxRecDepth 20000 in
set_option maxHeartbeats 4000000 in
theorem w_X7_lay {X : Ctx} (K : Cok X cX7_lay 5 RX7) (hR : 2 ≤ X.R.frames ∧ 44 ≤ X.R.locals) {x1 : Int32} {x2 : Int32} {σ : Sg}  {r : Int32 × Sg} (h : f_X7_lay x1 x2 σ = some r) (hr : RZ X cX7_lay 5 r) : G X 5 0 [(0, .ref (X.ad 132)), (1, .int x1), (2, .int x2)] [] σ := by
  unfold f_X7_lay at h
  refine g_aload_n K 0 dX7_lay_0 rfl rfl ?_
  obtain ⟨q1, e2, h⟩ := ob h
  refine g_cvv (As := []) (rest := []) K (m_X7_begin e2) yv_X7_begin ml_X7_82 rfl rfl rfl (e_ControlRegisterModel kd_132) ltN_132 rfl rfl ⟨Nat.le_trans (Nat.le_of_ble_eq_true rfl) hR.1, Nat.le_trans (Nat.le_of_ble_eq_true rfl) hR.2⟩ (Nat.le_of_ble_eq_true rfl) dX7_lay_1 ?_
  refine g_iconst (v := 0) K dX7_lay_4 ic_0 ?_
  refine g_istore_n (lv' := [(3, .int 0), (0, .ref (X.ad 132)), (1, .int x1), (2, .int x2)]) K dX7_lay_5 rfl (by decide) rfl ?_
  obtain ⟨o3, e4, h⟩ := ob h
  refine g_sub [1, 2, 3, 0] rfl ?_
  refine l_X7_lay_6 K hR hr _ _ _ _ e4 (fun x hx => ?_) (fun o3 hx => ?_)
  · subst hx
    exact rt2 h
  · subst hx
    dsimp only [Sum.elim_inr] at h
    refine g_iconst (v := 1) K dX7_lay_56 ic_1 ?_
    exact hr _ _ _ _ dX7_lay_57 (rt2 h) nb_1
theorem m_X7_lay {x1 : Int32} {x2 : Int32} {σ : Sg}  {r : Int32 × Sg} (h : f_X7_lay x1 x2 σ = some r) : CI yX7_lay cX7_lay 5 (some .boolean) 2 44 (fun ad => [.ref (ad 132), .int x1, .int x2]) σ r.1 r.2 :=
  CZ.of (by decide) (fun _ => Nat.le_of_ble_eq_true rfl) (fun X K hR hr => w_X7_lay K hR h hr)
def f_X7_add  (σ : Sg) : Option (Int32 × Sg) :=
  jn (setR σ 132 (upd (σ.1 132) 6 ((σ.1 132 6) + 1))) (fun σ1 =>
  Option.bind (f_X7_lay 999 (-6) σ1) (fun q3 =>
  if q3.1 = 0 then
  (jn (setR q3.2 132 (upd (q3.2.1 132) 6 ((q3.2.1 132 6) - 1))) (fun σ9 =>
  some ((-5), σ9)))
  else
  (if (q3.2.1 132 6) ≤ 40 then
  (some ((q3.2.1 132 6), q3.2))
  else
  (jn (setR q3.2 132 (upd (q3.2.1 132) 6 ((q3.2.1 132 6) - 1))) (fun σ7 =>
  some ((-4), σ7))))))
set_option maxRecDepth 20000 in
set_option maxHeartbeats 4000000 in
theorem w_X7_add {X : Ctx} (K : Cok X cX7_add 1 RX7) (hR : 3 ≤ X.R.frames ∧ 68 ≤ X.R.locals)  {σ : Sg}  {r : Int32 × Sg} (h : f_X7_add σ = some r) (hr : RI X cX7_add 1 r) : G X 1 0 [(0, .ref (X.ad 132))] [] σ := by
  unfold f_X7_add at h
  refine g_aload_n K 0 dX7_add_0 rfl rfl ?_
  refine g_dup K dX7_add_1 rfl ?_
  refine g_get (v := .int (σ.1 132 6)) K (e_ControlRegisterModel kd_132) ltN_132 rfl 6 (by decide) rfl fw_X7_70 u_X7 dX7_add_2 ?_
  refine g_iconst (v := 1) K dX7_add_5 ic_1 ?_
  refine g_iadd K dX7_add_6 ?_
  refine g_put (f' := (upd (σ.1 132) 6 ((σ.1 132 6) + 1))) K (e_ControlRegisterModel kd_132) ltN_132 rfl 6 (by decide) (e_ControlRegisterModel kd_132) tyX7 tyX7_ok nmX7 rfl (ty := .int) (by decide +kernel) rfl rfl (Nat.le_of_ble_eq_true rfl) fw_X7_70 u_X7 dX7_add_7 (fun σ1 s2 => ?_)
  replace h := jn_at s2 h
  refine g_aload_n K 0 dX7_add_10 rfl rfl ?_
  refine g_sipush (v := 999) K dX7_add_11 sp_999 ?_
  refine g_bipush (v := (-6)) K dX7_add_14 bp_m6 ?_
  obtain ⟨q3, e4, h⟩ := ob h
  refine g_cvi (As := [.int 999, .int (-6)]) (rest := []) K (m_X7_lay e4) yv_X7_lay ml_X7_89 rfl rfl rfl (e_ControlRegisterModel kd_132) ltN_132 rfl rfl ⟨Nat.le_trans (Nat.le_of_ble_eq_true rfl) hR.1, Nat.le_trans (Nat.le_of_ble_eq_true rfl) hR.2⟩ (Nat.le_of_ble_eq_true rfl) dX7_add_16 ?_
  refine g_if_ne (tgt := 35) K dX7_add_19 (by decide) (fun c5 => ?_) (fun c5 => ?_)
  · replace h := bn c5 h
    refine g_aload_n K 0 dX7_add_35 rfl rfl ?_
    refine g_get (v := .int (q3.2.1 132 6)) K (e_ControlRegisterModel kd_132) ltN_132 rfl 6 (by decide) rfl fw_X7_70 u_X7 dX7_add_36 ?_
    refine g_bipush (v := 40) K dX7_add_39 bp_40 ?_
    refine g_icmp_le (tgt := 57) K dX7_add_41 (by decide) (fun c6 => ?_) (fun c6 => ?_)
    · replace h := bp c6 h
      refine g_aload_n K 0 dX7_add_57 rfl rfl ?_
      refine g_get (v := .int (q3.2.1 132 6)) K (e_ControlRegisterModel kd_132) ltN_132 rfl 6 (by decide) rfl fw_X7_70 u_X7 dX7_add_58 ?_
      exact hr _ _ _ _ dX7_add_61 (rt2 h)
    · replace h := bn c6 h
      refine g_aload_n K 0 dX7_add_44 rfl rfl ?_
      refine g_dup K dX7_add_45 rfl ?_
      refine g_get (v := .int (q3.2.1 132 6)) K (e_ControlRegisterModel kd_132) ltN_132 rfl 6 (by decide) rfl fw_X7_70 u_X7 dX7_add_46 ?_
      refine g_iconst (v := 1) K dX7_add_49 ic_1 ?_
      refine g_isub K dX7_add_50 ?_
      refine g_put (f' := (upd (q3.2.1 132) 6 ((q3.2.1 132 6) - 1))) K (e_ControlRegisterModel kd_132) ltN_132 rfl 6 (by decide) (e_ControlRegisterModel kd_132) tyX7 tyX7_ok nmX7 rfl (ty := .int) (by decide +kernel) rfl rfl (Nat.le_of_ble_eq_true rfl) fw_X7_70 u_X7 dX7_add_51 (fun σ7 s8 => ?_)
      replace h := jn_at s8 h
      refine g_bipush (v := (-4)) K dX7_add_54 bp_m4 ?_
      exact hr _ _ _ _ dX7_add_56 (rt2 h)
  · replace h := bp c5 h
    refine g_aload_n K 0 dX7_add_22 rfl rfl ?_
    refine g_dup K dX7_add_23 rfl ?_
    refine g_get (v := .int (q3.2.1 132 6)) K (e_ControlRegisterModel kd_132) ltN_132 rfl 6 (by decide) rfl fw_X7_70 u_X7 dX7_add_24 ?_
    refine g_iconst (v := 1) K dX7_add_27 ic_1 ?_
    refine g_isub K dX7_add_28 ?_
    refine g_put (f' := (upd (q3.2.1 132) 6 ((q3.2.1 132 6) - 1))) K (e_ControlRegisterModel kd_132) ltN_132 rfl 6 (by decide) (e_ControlRegisterModel kd_132) tyX7 tyX7_ok nmX7 rfl (ty := .int) (by decide +kernel) rfl rfl (Nat.le_of_ble_eq_true rfl) fw_X7_70 u_X7 dX7_add_29 (fun σ9 s10 => ?_)
    replace h := jn_at s10 h
    refine g_bipush (v := (-5)) K dX7_add_32 bp_m5 ?_
    exact hr _ _ _ _ dX7_add_34 (rt2 h)
theorem m_X7_add  {σ : Sg}  {r : Int32 × Sg} (h : f_X7_add σ = some r) : CI yX7_add cX7_add 1 (some .int) 3 68 (fun ad => [.ref (ad 132)]) σ r.1 r.2 :=
  CI.of (by decide) (fun _ => Nat.le_of_ble_eq_true rfl) (fun X K hR hr => w_X7_add K hR h hr)
def f_X7_sell (x1 : Int32) (x2 : Int32) (x3 : Int32) (x4 : Int32) (x5 : Int32) (x6 : Int32) (σ : Sg) : Option (Int32 × Sg) :=
  if (f_X7_in x3 0 9) = 0 then
  (some ((-1), σ))
  else
  (if (f_X7_in x4 0 9) = 0 then
  (some ((-1), σ))
  else
  (if (f_X7_isFirm x5) = 0 then
  (some ((-1), σ))
  else
  (if (f_X7_in x2 0 999) = 0 then
  (some ((-2), σ))
  else
  (if (f_X7_in x6 1 100) = 0 then
  (some ((-2), σ))
  else
  (if x3 = x4 then
  (some ((-2), σ))
  else
  (if x3 = (4 + x5) then
  (some ((-2), σ))
  else
  (if x4 = (4 + x5) then
  (some ((-2), σ))
  else
  (Option.bind (f_X7_put (σ.1 132 6) x2 x5 x1 x3 x4 x6 σ) (fun q9 =>
  Option.bind (f_X7_add q9) (fun q11 =>
  some (q11.1, q11.2)))))))))))
set_option maxRecDepth 20000 in
set_option maxHeartbeats 4000000 in
theorem w_X7_sell {X : Ctx} (K : Cok X cX7_sell 7 RX7) (hR : 4 ≤ X.R.frames ∧ 88 ≤ X.R.locals) {x1 : Int32} {x2 : Int32} {x3 : Int32} {x4 : Int32} {x5 : Int32} {x6 : Int32} {σ : Sg}  {r : Int32 × Sg} (h : f_X7_sell x1 x2 x3 x4 x5 x6 σ = some r) (hr : RI X cX7_sell 7 r) : G X 7 0 [(0, .ref (X.ad 132)), (1, .int x1), (2, .int x2), (3, .int x3), (4, .int x4), (5, .int x5), (6, .int x6)] [] σ := by
  unfold f_X7_sell at h
  refine g_iload_n K 3 dX7_sell_0 rfl rfl ?_
  refine g_iconst (v := 0) K dX7_sell_1 ic_0 ?_
  refine g_bipush (v := 9) K dX7_sell_2 bp_9 ?_
  refine g_csi (As := [.int x3, .int 0, .int 9]) (rest := []) K (m_X7_in x3 0 9 σ) yv_X7_in ml_X7_66 rfl rfl rfl ⟨Nat.le_trans (Nat.le_of_ble_eq_true rfl) hR.1, Nat.le_trans (Nat.le_of_ble_eq_true rfl) hR.2⟩ (Nat.le_of_ble_eq_true rfl) dX7_sell_4 ?_
  refine g_if_eq (tgt := 29) K dX7_sell_7 (by decide) (fun c1 => ?_) (fun c1 => ?_)
  · replace h := bp c1 h
    refine g_iconst (v := (-1)) K dX7_sell_29 ic_m1 ?_
    exact hr _ _ _ _ dX7_sell_30 (rt2 h)
  · replace h := bn c1 h
    refine g_iload K 4 dX7_sell_10 rfl ?_
    refine g_iconst (v := 0) K dX7_sell_12 ic_0 ?_
    refine g_bipush (v := 9) K dX7_sell_13 bp_9 ?_
    refine g_csi (As := [.int x4, .int 0, .int 9]) (rest := []) K (m_X7_in x4 0 9 σ) yv_X7_in ml_X7_66 rfl rfl rfl ⟨Nat.le_trans (Nat.le_of_ble_eq_true rfl) hR.1, Nat.le_trans (Nat.le_of_ble_eq_true rfl) hR.2⟩ (Nat.le_of_ble_eq_true rfl) dX7_sell_15 ?_
    refine g_if_eq (tgt := 29) K dX7_sell_18 (by decide) (fun c2 => ?_) (fun c2 => ?_)
    · replace h := bp c2 h
      refine g_iconst (v := (-1)) K dX7_sell_29 ic_m1 ?_
      exact hr _ _ _ _ dX7_sell_30 (rt2 h)
    · replace h := bn c2 h
      refine g_iload K 5 dX7_sell_21 rfl ?_
      refine g_csi (As := [.int x5]) (rest := []) K (m_X7_isFirm x5 σ) yv_X7_isFirm ml_X7_93 rfl rfl rfl ⟨Nat.le_trans (Nat.le_of_ble_eq_true rfl) hR.1, Nat.le_trans (Nat.le_of_ble_eq_true rfl) hR.2⟩ (Nat.le_of_ble_eq_true rfl) dX7_sell_23 ?_
      refine g_if_ne (tgt := 31) K dX7_sell_26 (by decide) (fun c3 => ?_) (fun c3 => ?_)
      · replace h := bn c3 h
        refine g_iload_n K 2 dX7_sell_31 rfl rfl ?_
        refine g_iconst (v := 0) K dX7_sell_32 ic_0 ?_
        refine g_sipush (v := 999) K dX7_sell_33 sp_999 ?_
        refine g_csi (As := [.int x2, .int 0, .int 999]) (rest := []) K (m_X7_in x2 0 999 σ) yv_X7_in ml_X7_66 rfl rfl rfl ⟨Nat.le_trans (Nat.le_of_ble_eq_true rfl) hR.1, Nat.le_trans (Nat.le_of_ble_eq_true rfl) hR.2⟩ (Nat.le_of_ble_eq_true rfl) dX7_sell_36 ?_
        refine g_if_eq (tgt := 76) K dX7_sell_39 (by decide) (fun c4 => ?_) (fun c4 => ?_)
        · replace h := bp c4 h
          refine g_bipush (v := (-2)) K dX7_sell_76 bp_m2 ?_
          exact hr _ _ _ _ dX7_sell_78 (rt2 h)
        · replace h := bn c4 h
          refine g_iload K 6 dX7_sell_42 rfl ?_
          refine g_iconst (v := 1) K dX7_sell_44 ic_1 ?_
          refine g_bipush (v := 100) K dX7_sell_45 bp_100 ?_
          refine g_csi (As := [.int x6, .int 1, .int 100]) (rest := []) K (m_X7_in x6 1 100 σ) yv_X7_in ml_X7_66 rfl rfl rfl ⟨Nat.le_trans (Nat.le_of_ble_eq_true rfl) hR.1, Nat.le_trans (Nat.le_of_ble_eq_true rfl) hR.2⟩ (Nat.le_of_ble_eq_true rfl) dX7_sell_47 ?_
          refine g_if_eq (tgt := 76) K dX7_sell_50 (by decide) (fun c5 => ?_) (fun c5 => ?_)
          · replace h := bp c5 h
            refine g_bipush (v := (-2)) K dX7_sell_76 bp_m2 ?_
            exact hr _ _ _ _ dX7_sell_78 (rt2 h)
          · replace h := bn c5 h
            refine g_iload_n K 3 dX7_sell_53 rfl rfl ?_
            refine g_iload K 4 dX7_sell_54 rfl ?_
            refine g_icmp_eq (tgt := 76) K dX7_sell_56 (by decide) (fun c6 => ?_) (fun c6 => ?_)
            · replace h := bp c6 h
              refine g_bipush (v := (-2)) K dX7_sell_76 bp_m2 ?_
              exact hr _ _ _ _ dX7_sell_78 (rt2 h)
            · replace h := bn c6 h
              refine g_iload_n K 3 dX7_sell_59 rfl rfl ?_
              refine g_iconst (v := 4) K dX7_sell_60 ic_4 ?_
              refine g_iload K 5 dX7_sell_61 rfl ?_
              refine g_iadd K dX7_sell_63 ?_
              refine g_icmp_eq (tgt := 76) K dX7_sell_64 (by decide) (fun c7 => ?_) (fun c7 => ?_)
              · replace h := bp c7 h
                refine g_bipush (v := (-2)) K dX7_sell_76 bp_m2 ?_
                exact hr _ _ _ _ dX7_sell_78 (rt2 h)
              · replace h := bn c7 h
                refine g_iload K 4 dX7_sell_67 rfl ?_
                refine g_iconst (v := 4) K dX7_sell_69 ic_4 ?_
                refine g_iload K 5 dX7_sell_70 rfl ?_
                refine g_iadd K dX7_sell_72 ?_
                refine g_icmp_ne (tgt := 79) K dX7_sell_73 (by decide) (fun c8 => ?_) (fun c8 => ?_)
                · replace h := bn c8 h
                  refine g_aload_n K 0 dX7_sell_79 rfl rfl ?_
                  refine g_aload_n K 0 dX7_sell_80 rfl rfl ?_
                  refine g_get (v := .int (σ.1 132 6)) K (e_ControlRegisterModel kd_132) ltN_132 rfl 6 (by decide) rfl fw_X7_70 u_X7 dX7_sell_81 ?_
                  refine g_iload_n K 2 dX7_sell_84 rfl rfl ?_
                  refine g_iload K 5 dX7_sell_85 rfl ?_
                  refine g_iload_n K 1 dX7_sell_87 rfl rfl ?_
                  refine g_iload_n K 3 dX7_sell_88 rfl rfl ?_
                  refine g_iload K 4 dX7_sell_89 rfl ?_
                  refine g_iload K 6 dX7_sell_91 rfl ?_
                  obtain ⟨q9, e10, h⟩ := ob h
                  refine g_cvv (As := [.int (σ.1 132 6), .int x2, .int x5, .int x1, .int x3, .int x4, .int x6]) (rest := []) K (m_X7_put e10) yv_X7_put ml_X7_96 rfl rfl rfl (e_ControlRegisterModel kd_132) ltN_132 rfl rfl ⟨Nat.le_trans (Nat.le_of_ble_eq_true rfl) hR.1, Nat.le_trans (Nat.le_of_ble_eq_true rfl) hR.2⟩ (Nat.le_of_ble_eq_true rfl) dX7_sell_93 ?_
                  refine g_aload_n K 0 dX7_sell_96 rfl rfl ?_
                  obtain ⟨q11, e12, h⟩ := ob h
                  refine g_cvi (As := []) (rest := []) K (m_X7_add e12) yv_X7_add ml_X7_100 rfl rfl rfl (e_ControlRegisterModel kd_132) ltN_132 rfl rfl ⟨Nat.le_trans (Nat.le_of_ble_eq_true rfl) hR.1, Nat.le_trans (Nat.le_of_ble_eq_true rfl) hR.2⟩ (Nat.le_of_ble_eq_true rfl) dX7_sell_97 ?_
                  exact hr _ _ _ _ dX7_sell_100 (rt2 h)
                · replace h := bp c8 h
                  refine g_bipush (v := (-2)) K dX7_sell_76 bp_m2 ?_
                  exact hr _ _ _ _ dX7_sell_78 (rt2 h)
      · replace h := bp c3 h
        refine g_iconst (v := (-1)) K dX7_sell_29 ic_m1 ?_
        exact hr _ _ _ _ dX7_sell_30 (rt2 h)
theorem m_X7_sell {x1 : Int32} {x2 : Int32} {x3 : Int32} {x4 : Int32} {x5 : Int32} {x6 : Int32} {σ : Sg}  {r : Int32 × Sg} (h : f_X7_sell x1 x2 x3 x4 x5 x6 σ = some r) : CI yX7_sell cX7_sell 7 (some .int) 4 88 (fun ad => [.ref (ad 132), .int x1, .int x2, .int x3, .int x4, .int x5, .int x6]) σ r.1 r.2 :=
  CI.of (by decide) (fun _ => Nat.le_of_ble_eq_true rfl) (fun X K hR hr => w_X7_sell K hR h hr)
def f_X7_sellShares (x1 : Int32) (x2 : Int32) (x3 : Int32) (x4 : Int32) (x5 : Int32) (σ : Sg) : Option (Int32 × Sg) :=
  Option.bind (f_X7_sell 0 x1 x2 x3 x4 x5 σ) (fun q1 =>
  some (q1.1, q1.2))
set_option maxRecDepth 20000 in
set_option maxHeartbeats 4000000 in
theorem w_X7_sellShares {X : Ctx} (K : Cok X cX7_sellShares 6 RX7) (hR : 5 ≤ X.R.frames ∧ 114 ≤ X.R.locals) {x1 : Int32} {x2 : Int32} {x3 : Int32} {x4 : Int32} {x5 : Int32} {σ : Sg}  {r : Int32 × Sg} (h : f_X7_sellShares x1 x2 x3 x4 x5 σ = some r) (hr : RI X cX7_sellShares 6 r) : G X 6 0 [(0, .ref (X.ad 132)), (1, .int x1), (2, .int x2), (3, .int x3), (4, .int x4), (5, .int x5)] [] σ := by
  unfold f_X7_sellShares at h
  refine g_aload_n K 0 dX7_sellShares_0 rfl rfl ?_
  refine g_iconst (v := 0) K dX7_sellShares_1 ic_0 ?_
  refine g_iload_n K 1 dX7_sellShares_2 rfl rfl ?_
  refine g_iload_n K 2 dX7_sellShares_3 rfl rfl ?_
  refine g_iload_n K 3 dX7_sellShares_4 rfl rfl ?_
  refine g_iload K 4 dX7_sellShares_5 rfl ?_
  refine g_iload K 5 dX7_sellShares_7 rfl ?_
  obtain ⟨q1, e2, h⟩ := ob h
  refine g_cvi (As := [.int 0, .int x1, .int x2, .int x3, .int x4, .int x5]) (rest := []) K (m_X7_sell e2) yv_X7_sell ml_X7_104 rfl rfl rfl (e_ControlRegisterModel kd_132) ltN_132 rfl rfl ⟨Nat.le_trans (Nat.le_of_ble_eq_true rfl) hR.1, Nat.le_trans (Nat.le_of_ble_eq_true rfl) hR.2⟩ (Nat.le_of_ble_eq_true rfl) dX7_sellShares_9 ?_
  exact hr _ _ _ _ dX7_sellShares_12 (rt2 h)
theorem m_X7_sellShares {x1 : Int32} {x2 : Int32} {x3 : Int32} {x4 : Int32} {x5 : Int32} {σ : Sg}  {r : Int32 × Sg} (h : f_X7_sellShares x1 x2 x3 x4 x5 σ = some r) : CI yX7_sellShares cX7_sellShares 6 (some .int) 5 114 (fun ad => [.ref (ad 132), .int x1, .int x2, .int x3, .int x4, .int x5]) σ r.1 r.2 :=
  CI.of (by decide) (fun _ => Nat.le_of_ble_eq_true rfl) (fun X K hR hr => w_X7_sellShares K hR h hr)
def f_X7_sellVotes (x1 : Int32) (x2 : Int32) (x3 : Int32) (x4 : Int32) (x5 : Int32) (σ : Sg) : Option (Int32 × Sg) :=
  Option.bind (f_X7_sell 1 x1 x2 x3 x4 x5 σ) (fun q1 =>
  some (q1.1, q1.2))
set_option maxRecDepth 20000 in
set_option maxHeartbeats 4000000 in
theorem w_X7_sellVotes {X : Ctx} (K : Cok X cX7_sellVotes 6 RX7) (hR : 5 ≤ X.R.frames ∧ 114 ≤ X.R.locals) {x1 : Int32} {x2 : Int32} {x3 : Int32} {x4 : Int32} {x5 : Int32} {σ : Sg}  {r : Int32 × Sg} (h : f_X7_sellVotes x1 x2 x3 x4 x5 σ = some r) (hr : RI X cX7_sellVotes 6 r) : G X 6 0 [(0, .ref (X.ad 132)), (1, .int x1), (2, .int x2), (3, .int x3), (4, .int x4), (5, .int x5)] [] σ := by
  unfold f_X7_sellVotes at h
  refine g_aload_n K 0 dX7_sellVotes_0 rfl rfl ?_
  refine g_iconst (v := 1) K dX7_sellVotes_1 ic_1 ?_
  refine g_iload_n K 1 dX7_sellVotes_2 rfl rfl ?_
  refine g_iload_n K 2 dX7_sellVotes_3 rfl rfl ?_
  refine g_iload_n K 3 dX7_sellVotes_4 rfl rfl ?_
  refine g_iload K 4 dX7_sellVotes_5 rfl ?_
  refine g_iload K 5 dX7_sellVotes_7 rfl ?_
  obtain ⟨q1, e2, h⟩ := ob h
  refine g_cvi (As := [.int 1, .int x1, .int x2, .int x3, .int x4, .int x5]) (rest := []) K (m_X7_sell e2) yv_X7_sell ml_X7_104 rfl rfl rfl (e_ControlRegisterModel kd_132) ltN_132 rfl rfl ⟨Nat.le_trans (Nat.le_of_ble_eq_true rfl) hR.1, Nat.le_trans (Nat.le_of_ble_eq_true rfl) hR.2⟩ (Nat.le_of_ble_eq_true rfl) dX7_sellVotes_9 ?_
  exact hr _ _ _ _ dX7_sellVotes_12 (rt2 h)
theorem m_X7_sellVotes {x1 : Int32} {x2 : Int32} {x3 : Int32} {x4 : Int32} {x5 : Int32} {σ : Sg}  {r : Int32 × Sg} (h : f_X7_sellVotes x1 x2 x3 x4 x5 σ = some r) : CI yX7_sellVotes cX7_sellVotes 6 (some .int) 5 114 (fun ad => [.ref (ad 132), .int x1, .int x2, .int x3, .int x4, .int x5]) σ r.1 r.2 :=
  CI.of (by decide) (fun _ => Nat.le_of_ble_eq_true rfl) (fun X K hR hr => w_X7_sellVotes K hR h hr)
def f_X7_isOne (x0 : Int32) : Int32 :=
  (f_X7_in x0 0 8)
set_option maxRecDepth 20000 in
set_option maxHeartbeats 4000000 in
theorem w_X7_isOne {X : Ctx} (K : Cok X cX7_isOne 1 RX7) (hR : 1 ≤ X.R.frames ∧ 22 ≤ X.R.locals) {x0 : Int32} {σ : Sg}  {r : Int32} (h : f_X7_isOne x0 = r) (hr : RZ X cX7_isOne 1 (r, σ)) : G X 1 0 [(0, .int x0)] [] σ := by
  unfold f_X7_isOne at h
  refine g_iload_n K 0 dX7_isOne_0 rfl rfl ?_
  refine g_iconst (v := 0) K dX7_isOne_1 ic_0 ?_
  refine g_bipush (v := 8) K dX7_isOne_2 bp_8 ?_
  refine g_csi (As := [.int x0, .int 0, .int 8]) (rest := []) K (m_X7_in x0 0 8 σ) yv_X7_in ml_X7_66 rfl rfl rfl ⟨Nat.le_trans (Nat.le_of_ble_eq_true rfl) hR.1, Nat.le_trans (Nat.le_of_ble_eq_true rfl) hR.2⟩ (Nat.le_of_ble_eq_true rfl) dX7_isOne_4 ?_
  exact hr _ _ _ _ dX7_isOne_7 (rt0 h) (nz_X7_in x0 0 8)
theorem m_X7_isOne (x0 : Int32) (σ : Sg)  : CI yX7_isOne cX7_isOne 1 (some .boolean) 1 22 (fun ad => [.int x0]) σ (f_X7_isOne x0) σ :=
  CZ.of (by decide) (fun _ => Nat.le_of_ble_eq_true rfl) (fun X K hR hr => w_X7_isOne K hR rfl hr)
theorem nz_X7_isOne (x0 : Int32) : narrow .boolean (.int (f_X7_isOne x0)) = .int (f_X7_isOne x0) := by
  unfold f_X7_isOne
  (repeat' split) <;> first | rfl | exact nz_X7_in _ _ _
def f_X7_veto (x1 : Int32) (x2 : Int32) (x3 : Int32) (x4 : Int32) (σ : Sg) : Option (Int32 × Sg) :=
  if (f_X7_isOne x2) = 0 then
  (some ((-1), σ))
  else
  (if (f_X7_isFirm x3) = 0 then
  (some ((-1), σ))
  else
  (if (f_X7_in x1 0 999) = 0 then
  (some ((-2), σ))
  else
  (if (f_X7_in x4 0 1) = 0 then
  (some ((-2), σ))
  else
  (Option.bind (f_X7_put (σ.1 132 6) x1 x3 (3 - x4) 0 x2 0 σ) (fun q5 =>
  Option.bind (f_X7_add q5) (fun q7 =>
  some (q7.1, q7.2)))))))
set_option maxRecDepth 20000 in
set_option maxHeartbeats 4000000 in
theorem w_X7_veto {X : Ctx} (K : Cok X cX7_veto 5 RX7) (hR : 4 ≤ X.R.frames ∧ 88 ≤ X.R.locals) {x1 : Int32} {x2 : Int32} {x3 : Int32} {x4 : Int32} {σ : Sg}  {r : Int32 × Sg} (h : f_X7_veto x1 x2 x3 x4 σ = some r) (hr : RI X cX7_veto 5 r) : G X 5 0 [(0, .ref (X.ad 132)), (1, .int x1), (2, .int x2), (3, .int x3), (4, .int x4)] [] σ := by
  unfold f_X7_veto at h
  refine g_iload_n K 2 dX7_veto_0 rfl rfl ?_
  refine g_csi (As := [.int x2]) (rest := []) K (m_X7_isOne x2 σ) yv_X7_isOne ml_X7_108 rfl rfl rfl ⟨Nat.le_trans (Nat.le_of_ble_eq_true rfl) hR.1, Nat.le_trans (Nat.le_of_ble_eq_true rfl) hR.2⟩ (Nat.le_of_ble_eq_true rfl) dX7_veto_1 ?_
  refine g_if_eq (tgt := 14) K dX7_veto_4 (by decide) (fun c1 => ?_) (fun c1 => ?_)
  · replace h := bp c1 h
    refine g_iconst (v := (-1)) K dX7_veto_14 ic_m1 ?_
    exact hr _ _ _ _ dX7_veto_15 (rt2 h)
  · replace h := bn c1 h
    refine g_iload_n K 3 dX7_veto_7 rfl rfl ?_
    refine g_csi (As := [.int x3]) (rest := []) K (m_X7_isFirm x3 σ) yv_X7_isFirm ml_X7_93 rfl rfl rfl ⟨Nat.le_trans (Nat.le_of_ble_eq_true rfl) hR.1, Nat.le_trans (Nat.le_of_ble_eq_true rfl) hR.2⟩ (Nat.le_of_ble_eq_true rfl) dX7_veto_8 ?_
    refine g_if_ne (tgt := 16) K dX7_veto_11 (by decide) (fun c2 => ?_) (fun c2 => ?_)
    · replace h := bn c2 h
      refine g_iload_n K 1 dX7_veto_16 rfl rfl ?_
      refine g_iconst (v := 0) K dX7_veto_17 ic_0 ?_
      refine g_sipush (v := 999) K dX7_veto_18 sp_999 ?_
      refine g_csi (As := [.int x1, .int 0, .int 999]) (rest := []) K (m_X7_in x1 0 999 σ) yv_X7_in ml_X7_66 rfl rfl rfl ⟨Nat.le_trans (Nat.le_of_ble_eq_true rfl) hR.1, Nat.le_trans (Nat.le_of_ble_eq_true rfl) hR.2⟩ (Nat.le_of_ble_eq_true rfl) dX7_veto_21 ?_
      refine g_if_eq (tgt := 37) K dX7_veto_24 (by decide) (fun c3 => ?_) (fun c3 => ?_)
      · replace h := bp c3 h
        refine g_bipush (v := (-2)) K dX7_veto_37 bp_m2 ?_
        exact hr _ _ _ _ dX7_veto_39 (rt2 h)
      · replace h := bn c3 h
        refine g_iload K 4 dX7_veto_27 rfl ?_
        refine g_iconst (v := 0) K dX7_veto_29 ic_0 ?_
        refine g_iconst (v := 1) K dX7_veto_30 ic_1 ?_
        refine g_csi (As := [.int x4, .int 0, .int 1]) (rest := []) K (m_X7_in x4 0 1 σ) yv_X7_in ml_X7_66 rfl rfl rfl ⟨Nat.le_trans (Nat.le_of_ble_eq_true rfl) hR.1, Nat.le_trans (Nat.le_of_ble_eq_true rfl) hR.2⟩ (Nat.le_of_ble_eq_true rfl) dX7_veto_31 ?_
        refine g_if_ne (tgt := 40) K dX7_veto_34 (by decide) (fun c4 => ?_) (fun c4 => ?_)
        · replace h := bn c4 h
          refine g_aload_n K 0 dX7_veto_40 rfl rfl ?_
          refine g_aload_n K 0 dX7_veto_41 rfl rfl ?_
          refine g_get (v := .int (σ.1 132 6)) K (e_ControlRegisterModel kd_132) ltN_132 rfl 6 (by decide) rfl fw_X7_70 u_X7 dX7_veto_42 ?_
          refine g_iload_n K 1 dX7_veto_45 rfl rfl ?_
          refine g_iload_n K 3 dX7_veto_46 rfl rfl ?_
          refine g_iconst (v := 3) K dX7_veto_47 ic_3 ?_
          refine g_iload K 4 dX7_veto_48 rfl ?_
          refine g_isub K dX7_veto_50 ?_
          refine g_iconst (v := 0) K dX7_veto_51 ic_0 ?_
          refine g_iload_n K 2 dX7_veto_52 rfl rfl ?_
          refine g_iconst (v := 0) K dX7_veto_53 ic_0 ?_
          obtain ⟨q5, e6, h⟩ := ob h
          refine g_cvv (As := [.int (σ.1 132 6), .int x1, .int x3, .int (3 - x4), .int 0, .int x2, .int 0]) (rest := []) K (m_X7_put e6) yv_X7_put ml_X7_96 rfl rfl rfl (e_ControlRegisterModel kd_132) ltN_132 rfl rfl ⟨Nat.le_trans (Nat.le_of_ble_eq_true rfl) hR.1, Nat.le_trans (Nat.le_of_ble_eq_true rfl) hR.2⟩ (Nat.le_of_ble_eq_true rfl) dX7_veto_54 ?_
          refine g_aload_n K 0 dX7_veto_57 rfl rfl ?_
          obtain ⟨q7, e8, h⟩ := ob h
          refine g_cvi (As := []) (rest := []) K (m_X7_add e8) yv_X7_add ml_X7_100 rfl rfl rfl (e_ControlRegisterModel kd_132) ltN_132 rfl rfl ⟨Nat.le_trans (Nat.le_of_ble_eq_true rfl) hR.1, Nat.le_trans (Nat.le_of_ble_eq_true rfl) hR.2⟩ (Nat.le_of_ble_eq_true rfl) dX7_veto_58 ?_
          exact hr _ _ _ _ dX7_veto_61 (rt2 h)
        · replace h := bp c4 h
          refine g_bipush (v := (-2)) K dX7_veto_37 bp_m2 ?_
          exact hr _ _ _ _ dX7_veto_39 (rt2 h)
    · replace h := bp c2 h
      refine g_iconst (v := (-1)) K dX7_veto_14 ic_m1 ?_
      exact hr _ _ _ _ dX7_veto_15 (rt2 h)
theorem m_X7_veto {x1 : Int32} {x2 : Int32} {x3 : Int32} {x4 : Int32} {σ : Sg}  {r : Int32 × Sg} (h : f_X7_veto x1 x2 x3 x4 σ = some r) : CI yX7_veto cX7_veto 5 (some .int) 4 88 (fun ad => [.ref (ad 132), .int x1, .int x2, .int x3, .int x4]) σ r.1 r.2 :=
  CI.of (by decide) (fun _ => Nat.le_of_ble_eq_true rfl) (fun X K hR hr => w_X7_veto K hR h hr)
def f_X7_isDeal (x1 : Int32) (σ : Sg) : Option Int32 :=
  some (f_X7_in x1 0 ((σ.1 132 6) - 1))
set_option maxRecDepth 20000 in
set_option maxHeartbeats 4000000 in
theorem w_X7_isDeal {X : Ctx} (K : Cok X cX7_isDeal 2 RX7) (hR : 1 ≤ X.R.frames ∧ 22 ≤ X.R.locals) {x1 : Int32} {σ : Sg}  {r : Int32} (h : f_X7_isDeal x1 σ = some r) (hr : RZ X cX7_isDeal 2 (r, σ)) : G X 2 0 [(0, .ref (X.ad 132)), (1, .int x1)] [] σ := by
  unfold f_X7_isDeal at h
  refine g_iload_n K 1 dX7_isDeal_0 rfl rfl ?_
  refine g_iconst (v := 0) K dX7_isDeal_1 ic_0 ?_
  refine g_aload_n K 0 dX7_isDeal_2 rfl rfl ?_
  refine g_get (v := .int (σ.1 132 6)) K (e_ControlRegisterModel kd_132) ltN_132 rfl 6 (by decide) rfl fw_X7_70 u_X7 dX7_isDeal_3 ?_
  refine g_iconst (v := 1) K dX7_isDeal_6 ic_1 ?_
  refine g_isub K dX7_isDeal_7 ?_
  refine g_csi (As := [.int x1, .int 0, .int ((σ.1 132 6) - 1)]) (rest := []) K (m_X7_in x1 0 ((σ.1 132 6) - 1) σ) yv_X7_in ml_X7_66 rfl rfl rfl ⟨Nat.le_trans (Nat.le_of_ble_eq_true rfl) hR.1, Nat.le_trans (Nat.le_of_ble_eq_true rfl) hR.2⟩ (Nat.le_of_ble_eq_true rfl) dX7_isDeal_8 ?_
  exact hr _ _ _ _ dX7_isDeal_11 (rt1 h) (nz_X7_in x1 0 ((σ.1 132 6) - 1))
theorem m_X7_isDeal {x1 : Int32} {σ : Sg}  {r : Int32} (h : f_X7_isDeal x1 σ = some r) : CI yX7_isDeal cX7_isDeal 2 (some .boolean) 1 22 (fun ad => [.ref (ad 132), .int x1]) σ r σ :=
  CZ.of (by decide) (fun _ => Nat.le_of_ble_eq_true rfl) (fun X K hR hr => w_X7_isDeal K hR h hr)
def L_X7_cancel_36  : Nat → Int32 → Sg → Option (Int32 × Sg)
  | 0, _, _ => none
  | n + 1, x2, σ =>
    if (σ.1 132 6) ≤ x2 then
    (some (x2, σ))
    else
    (if inb (x2 + 1) 41 then
    (if inb (x2 + 1) 41 then
    (if inb (x2 + 1) 41 then
    (if inb (x2 + 1) 41 then
    (if inb (x2 + 1) 41 then
    (if inb (x2 + 1) 41 then
    (Option.bind (f_X7_put x2 (σ.1 133 (x2 + 1).toNatClampNeg) (σ.1 134 (x2 + 1).toNatClampNeg) (σ.1 135 (x2 + 1).toNatClampNeg) (σ.1 136 (x2 + 1).toNatClampNeg) (σ.1 137 (x2 + 1).toNatClampNeg) (σ.1 138 (x2 + 1).toNatClampNeg) σ) (fun q8 =>
    L_X7_cancel_36 n (x2 + 1) q8))
    else none)
    else none)
    else none)
    else none)
    else none)
    else none)
set_option maxRecDepth 20000 in
set_option maxHeartbeats 4000000 in
theorem l_X7_cancel_36 {X : Ctx} (K : Cok X cX7_cancel 3 RX7) (hR : 3 ≤ X.R.frames ∧ 68 ≤ X.R.locals)   :
    ∀ (n : Nat) (x2 : Int32) (σ : Sg) (o : (Int32 × Sg)), L_X7_cancel_36  n x2 σ = some o → G X 3 103 [(0, .ref (X.ad 132)), (2, .int o.1)] [] o.2 → G X 3 36 [(0, .ref (X.ad 132)), (2, .int x2)] [] σ := by
  intro n
  induction n with
  | zero => intro x2 σ o h; exact absurd h (by unfold L_X7_cancel_36; intro h; cases h)
  | succ n ih =>
    intro x2 σ o h hexit
    unfold L_X7_cancel_36 at h
    refine g_iload_n K 1 dX7_cancel_36 rfl rfl ?_
    refine g_aload_n K 0 dX7_cancel_37 rfl rfl ?_
    refine g_get (v := .int (σ.1 132 6)) K (e_ControlRegisterModel kd_132) ltN_132 rfl 6 (by decide) rfl fw_X7_70 u_X7 dX7_cancel_38 ?_
    refine g_icmp_ge (tgt := 103) K dX7_cancel_41 (by decide) (fun c1 => ?_) (fun c1 => ?_)
    · replace h := bp c1 h
      refine g_sub [0, 1] rfl ?_
      obtain rfl := Option.some.inj h
      exact hexit
    · replace h := bn c1 h
      refine g_aload_n K 0 dX7_cancel_44 rfl rfl ?_
      refine g_iload_n K 1 dX7_cancel_45 rfl rfl ?_
      refine g_aload_n K 0 dX7_cancel_46 rfl rfl ?_
      refine g_get (v := .ref (X.ad 133)) K (e_ControlRegisterModel kd_132) ltN_132 rfl 0 (by decide) rfl fw_X7_7 u_X7 dX7_cancel_47 ?_
      refine g_iload_n K 1 dX7_cancel_50 rfl rfl ?_
      refine g_iconst (v := 1) K dX7_cancel_51 ic_1 ?_
      refine g_iadd K dX7_cancel_52 ?_
      obtain ⟨g2, h⟩ := og h
      refine g_iald K kd_133 ltN_133 g2 dX7_cancel_53 ?_
      refine g_aload_n K 0 dX7_cancel_54 rfl rfl ?_
      refine g_get (v := .ref (X.ad 134)) K (e_ControlRegisterModel kd_132) ltN_132 rfl 1 (by decide) rfl fw_X7_13 u_X7 dX7_cancel_55 ?_
      refine g_iload_n K 1 dX7_cancel_58 rfl rfl ?_
      refine g_iconst (v := 1) K dX7_cancel_59 ic_1 ?_
      refine g_iadd K dX7_cancel_60 ?_
      obtain ⟨g3, h⟩ := og h
      refine g_iald K kd_134 ltN_134 g3 dX7_cancel_61 ?_
      refine g_aload_n K 0 dX7_cancel_62 rfl rfl ?_
      refine g_get (v := .ref (X.ad 135)) K (e_ControlRegisterModel kd_132) ltN_132 rfl 2 (by decide) rfl fw_X7_16 u_X7 dX7_cancel_63 ?_
      refine g_iload_n K 1 dX7_cancel_66 rfl rfl ?_
      refine g_iconst (v := 1) K dX7_cancel_67 ic_1 ?_
      refine g_iadd K dX7_cancel_68 ?_
      obtain ⟨g4, h⟩ := og h
      refine g_iald K kd_135 ltN_135 g4 dX7_cancel_69 ?_
      refine g_aload_n K 0 dX7_cancel_70 rfl rfl ?_
      refine g_get (v := .ref (X.ad 136)) K (e_ControlRegisterModel kd_132) ltN_132 rfl 3 (by decide) rfl fw_X7_19 u_X7 dX7_cancel_71 ?_
      refine g_iload_n K 1 dX7_cancel_74 rfl rfl ?_
      refine g_iconst (v := 1) K dX7_cancel_75 ic_1 ?_
      refine g_iadd K dX7_cancel_76 ?_
      obtain ⟨g5, h⟩ := og h
      refine g_iald K kd_136 ltN_136 g5 dX7_cancel_77 ?_
      refine g_aload_n K 0 dX7_cancel_78 rfl rfl ?_
      refine g_get (v := .ref (X.ad 137)) K (e_ControlRegisterModel kd_132) ltN_132 rfl 4 (by decide) rfl fw_X7_22 u_X7 dX7_cancel_79 ?_
      refine g_iload_n K 1 dX7_cancel_82 rfl rfl ?_
      refine g_iconst (v := 1) K dX7_cancel_83 ic_1 ?_
      refine g_iadd K dX7_cancel_84 ?_
      obtain ⟨g6, h⟩ := og h
      refine g_iald K kd_137 ltN_137 g6 dX7_cancel_85 ?_
      refine g_aload_n K 0 dX7_cancel_86 rfl rfl ?_
      refine g_get (v := .ref (X.ad 138)) K (e_ControlRegisterModel kd_132) ltN_132 rfl 5 (by decide) rfl fw_X7_25 u_X7 dX7_cancel_87 ?_
      refine g_iload_n K 1 dX7_cancel_90 rfl rfl ?_
      refine g_iconst (v := 1) K dX7_cancel_91 ic_1 ?_
      refine g_iadd K dX7_cancel_92 ?_
      obtain ⟨g7, h⟩ := og h
      refine g_iald K kd_138 ltN_138 g7 dX7_cancel_93 ?_
      obtain ⟨q8, e9, h⟩ := ob h
      refine g_cvv (As := [.int x2, .int (σ.1 133 (x2 + 1).toNatClampNeg), .int (σ.1 134 (x2 + 1).toNatClampNeg), .int (σ.1 135 (x2 + 1).toNatClampNeg), .int (σ.1 136 (x2 + 1).toNatClampNeg), .int (σ.1 137 (x2 + 1).toNatClampNeg), .int (σ.1 138 (x2 + 1).toNatClampNeg)]) (rest := []) K (m_X7_put e9) yv_X7_put ml_X7_96 rfl rfl rfl (e_ControlRegisterModel kd_132) ltN_132 rfl rfl ⟨Nat.le_trans (Nat.le_of_ble_eq_true rfl) hR.1, Nat.le_trans (Nat.le_of_ble_eq_true rfl) hR.2⟩ (Nat.le_of_ble_eq_true rfl) dX7_cancel_94 ?_
      refine g_iinc (lv' := [(2, .int (x2 + 1)), (0, .ref (X.ad 132))]) K 1 dX7_cancel_97 rfl (by rw [ic_1]) (by decide) rfl ?_
      refine g_goto (tgt := 36) K dX7_cancel_100 (by decide) ?_
      refine g_sub [1, 0] rfl ?_
      exact ih _ _ _ h hexit
def f_X7_cancel (x1 : Int32) (σ : Sg) : Option (Int32 × Sg) :=
  Option.bind (f_X7_isDeal x1 σ) (fun r1 =>
  if r1 = 0 then
  (some ((-1), σ))
  else
  (Option.bind (f_X7_lay 999 x1 σ) (fun q4 =>
  if q4.1 = 0 then
  (some ((-5), q4.2))
  else
  (jn (setR q4.2 132 (upd (q4.2.1 132) 6 ((q4.2.1 132 6) - 1))) (fun σ7 =>
  Option.bind (L_X7_cancel_36 FU x1 σ7) (fun o9 =>
  some ((o9.2.1 132 6), o9.2)))))))
set_option maxRecDepth 20000 in
set_option maxHeartbeats 4000000 in
theorem w_X7_cancel {X : Ctx} (K : Cok X cX7_cancel 3 RX7) (hR : 3 ≤ X.R.frames ∧ 68 ≤ X.R.locals) {x1 : Int32} {σ : Sg}  {r : Int32 × Sg} (h : f_X7_cancel x1 σ = some r) (hr : RI X cX7_cancel 3 r) : G X 3 0 [(0, .ref (X.ad 132)), (1, .int x1)] [] σ := by
  unfold f_X7_cancel at h
  refine g_aload_n K 0 dX7_cancel_0 rfl rfl ?_
  refine g_iload_n K 1 dX7_cancel_1 rfl rfl ?_
  obtain ⟨r1, e2, h⟩ := ob h
  refine g_cvi (As := [.int x1]) (rest := []) K (m_X7_isDeal e2) yv_X7_isDeal ml_X7_111 rfl rfl rfl (e_ControlRegisterModel kd_132) ltN_132 rfl rfl ⟨Nat.le_trans (Nat.le_of_ble_eq_true rfl) hR.1, Nat.le_trans (Nat.le_of_ble_eq_true rfl) hR.2⟩ (Nat.le_of_ble_eq_true rfl) dX7_cancel_2 ?_
  refine g_if_ne (tgt := 10) K dX7_cancel_5 (by decide) (fun c3 => ?_) (fun c3 => ?_)
  · replace h := bn c3 h
    refine g_aload_n K 0 dX7_cancel_10 rfl rfl ?_
    refine g_sipush (v := 999) K dX7_cancel_11 sp_999 ?_
    refine g_iload_n K 1 dX7_cancel_14 rfl rfl ?_
    obtain ⟨q4, e5, h⟩ := ob h
    refine g_cvi (As := [.int 999, .int x1]) (rest := []) K (m_X7_lay e5) yv_X7_lay ml_X7_89 rfl rfl rfl (e_ControlRegisterModel kd_132) ltN_132 rfl rfl ⟨Nat.le_trans (Nat.le_of_ble_eq_true rfl) hR.1, Nat.le_trans (Nat.le_of_ble_eq_true rfl) hR.2⟩ (Nat.le_of_ble_eq_true rfl) dX7_cancel_15 ?_
    refine g_if_ne (tgt := 24) K dX7_cancel_18 (by decide) (fun c6 => ?_) (fun c6 => ?_)
    · replace h := bn c6 h
      refine g_aload_n K 0 dX7_cancel_24 rfl rfl ?_
      refine g_dup K dX7_cancel_25 rfl ?_
      refine g_get (v := .int (q4.2.1 132 6)) K (e_ControlRegisterModel kd_132) ltN_132 rfl 6 (by decide) rfl fw_X7_70 u_X7 dX7_cancel_26 ?_
      refine g_iconst (v := 1) K dX7_cancel_29 ic_1 ?_
      refine g_isub K dX7_cancel_30 ?_
      refine g_put (f' := (upd (q4.2.1 132) 6 ((q4.2.1 132 6) - 1))) K (e_ControlRegisterModel kd_132) ltN_132 rfl 6 (by decide) (e_ControlRegisterModel kd_132) tyX7 tyX7_ok nmX7 rfl (ty := .int) (by decide +kernel) rfl rfl (Nat.le_of_ble_eq_true rfl) fw_X7_70 u_X7 dX7_cancel_31 (fun σ7 s8 => ?_)
      replace h := jn_at s8 h
      refine g_iload_n K 1 dX7_cancel_34 rfl rfl ?_
      refine g_istore_n (lv' := [(2, .int x1), (0, .ref (X.ad 132)), (1, .int x1)]) K dX7_cancel_35 rfl (by decide) rfl ?_
      obtain ⟨o9, e10, h⟩ := ob h
      refine g_sub [1, 0] rfl ?_
      refine l_X7_cancel_36 K hR _ _ _ _ e10 ?_
      refine g_aload_n K 0 dX7_cancel_103 rfl rfl ?_
      refine g_get (v := .int (o9.2.1 132 6)) K (e_ControlRegisterModel kd_132) ltN_132 rfl 6 (by decide) rfl fw_X7_70 u_X7 dX7_cancel_104 ?_
      exact hr _ _ _ _ dX7_cancel_107 (rt2 h)
    · replace h := bp c6 h
      refine g_bipush (v := (-5)) K dX7_cancel_21 bp_m5 ?_
      exact hr _ _ _ _ dX7_cancel_23 (rt2 h)
  · replace h := bp c3 h
    refine g_iconst (v := (-1)) K dX7_cancel_8 ic_m1 ?_
    exact hr _ _ _ _ dX7_cancel_9 (rt2 h)
theorem m_X7_cancel {x1 : Int32} {σ : Sg}  {r : Int32 × Sg} (h : f_X7_cancel x1 σ = some r) : CI yX7_cancel cX7_cancel 3 (some .int) 3 68 (fun ad => [.ref (ad 132), .int x1]) σ r.1 r.2 :=
  CI.of (by decide) (fun _ => Nat.le_of_ble_eq_true rfl) (fun X K hR hr => w_X7_cancel K hR h hr)
def f_X7_told (x1 : Int32) (x2 : Int32) (σ : Sg) : Option Int32 :=
  Option.bind (f_X7_isDeal x1 σ) (fun r1 =>
  if r1 = 0 then
  (some (-1))
  else
  (if x2 = 0 then
  (if inb x1 41 then
  (some (σ.1 133 x1.toNatClampNeg))
  else none)
  else
  (if x2 = 1 then
  (if inb x1 41 then
  (some (σ.1 134 x1.toNatClampNeg))
  else none)
  else
  (if x2 = 2 then
  (if inb x1 41 then
  (some (σ.1 135 x1.toNatClampNeg))
  else none)
  else
  (if x2 = 3 then
  (if inb x1 41 then
  (if (σ.1 135 x1.toNatClampNeg) ≤ 1 then
  (if inb x1 41 then
  (some (σ.1 136 x1.toNatClampNeg))
  else none)
  else
  (some (-6)))
  else none)
  else
  (if x2 = 4 then
  (if inb x1 41 then
  (some (σ.1 137 x1.toNatClampNeg))
  else none)
  else
  (if x2 = 5 then
  (if inb x1 41 then
  (some (σ.1 138 x1.toNatClampNeg))
  else none)
  else
  (if x2 = 6 then
  (Option.bind (f_X7_placeOf x1 σ) (fun r19 =>
  some r19))
  else
  (if x2 = 7 then
  (if inb x1 41 then
  (if (σ.1 132 7) < (σ.1 133 x1.toNatClampNeg) then
  (some 0)
  else
  (some 1))
  else none)
  else
  (some (-2)))))))))))
set_option maxRecDepth 20000 in
set_option maxHeartbeats 4000000 in
theorem w_X7_told {X : Ctx} (K : Cok X cX7_told 3 RX7) (hR : 2 ≤ X.R.frames ∧ 43 ≤ X.R.locals) {x1 : Int32} {x2 : Int32} {σ : Sg}  {r : Int32} (h : f_X7_told x1 x2 σ = some r) (hr : RI X cX7_told 3 (r, σ)) : G X 3 0 [(0, .ref (X.ad 132)), (1, .int x1), (2, .int x2)] [] σ := by
  unfold f_X7_told at h
  refine g_aload_n K 0 dX7_told_0 rfl rfl ?_
  refine g_iload_n K 1 dX7_told_1 rfl rfl ?_
  obtain ⟨r1, e2, h⟩ := ob h
  refine g_cvi (As := [.int x1]) (rest := []) K (m_X7_isDeal e2) yv_X7_isDeal ml_X7_111 rfl rfl rfl (e_ControlRegisterModel kd_132) ltN_132 rfl rfl ⟨Nat.le_trans (Nat.le_of_ble_eq_true rfl) hR.1, Nat.le_trans (Nat.le_of_ble_eq_true rfl) hR.2⟩ (Nat.le_of_ble_eq_true rfl) dX7_told_2 ?_
  refine g_if_ne (tgt := 10) K dX7_told_5 (by decide) (fun c3 => ?_) (fun c3 => ?_)
  · replace h := bn c3 h
    refine g_iload_n K 2 dX7_told_10 rfl rfl ?_
    rcases Classical.em (x2 = 0) with c4 | c4
    · replace h := bp c4 h
      refine g_tableIn (y := 0) (off := 45) (tgt := 56) K dX7_told_11 c4 (by decide) (by decide) (by decide) (by decide) ?_
      refine g_aload_n K 0 dX7_told_56 rfl rfl ?_
      refine g_get (v := .ref (X.ad 133)) K (e_ControlRegisterModel kd_132) ltN_132 rfl 0 (by decide) rfl fw_X7_7 u_X7 dX7_told_57 ?_
      refine g_iload_n K 1 dX7_told_60 rfl rfl ?_
      obtain ⟨g5, h⟩ := og h
      refine g_iald K kd_133 ltN_133 g5 dX7_told_61 ?_
      exact hr _ _ _ _ dX7_told_62 (rt1 h)
    · replace h := bn c4 h
      rcases Classical.em (x2 = 1) with c6 | c6
      · replace h := bp c6 h
        refine g_tableIn (y := 1) (off := 52) (tgt := 63) K dX7_told_11 c6 (by decide) (by decide) (by decide) (by decide) ?_
        refine g_aload_n K 0 dX7_told_63 rfl rfl ?_
        refine g_get (v := .ref (X.ad 134)) K (e_ControlRegisterModel kd_132) ltN_132 rfl 1 (by decide) rfl fw_X7_13 u_X7 dX7_told_64 ?_
        refine g_iload_n K 1 dX7_told_67 rfl rfl ?_
        obtain ⟨g7, h⟩ := og h
        refine g_iald K kd_134 ltN_134 g7 dX7_told_68 ?_
        exact hr _ _ _ _ dX7_told_69 (rt1 h)
      · replace h := bn c6 h
        rcases Classical.em (x2 = 2) with c8 | c8
        · replace h := bp c8 h
          refine g_tableIn (y := 2) (off := 59) (tgt := 70) K dX7_told_11 c8 (by decide) (by decide) (by decide) (by decide) ?_
          refine g_aload_n K 0 dX7_told_70 rfl rfl ?_
          refine g_get (v := .ref (X.ad 135)) K (e_ControlRegisterModel kd_132) ltN_132 rfl 2 (by decide) rfl fw_X7_16 u_X7 dX7_told_71 ?_
          refine g_iload_n K 1 dX7_told_74 rfl rfl ?_
          obtain ⟨g9, h⟩ := og h
          refine g_iald K kd_135 ltN_135 g9 dX7_told_75 ?_
          exact hr _ _ _ _ dX7_told_76 (rt1 h)
        · replace h := bn c8 h
          rcases Classical.em (x2 = 3) with c10 | c10
          · replace h := bp c10 h
            refine g_tableIn (y := 3) (off := 66) (tgt := 77) K dX7_told_11 c10 (by decide) (by decide) (by decide) (by decide) ?_
            refine g_aload_n K 0 dX7_told_77 rfl rfl ?_
            refine g_get (v := .ref (X.ad 135)) K (e_ControlRegisterModel kd_132) ltN_132 rfl 2 (by decide) rfl fw_X7_16 u_X7 dX7_told_78 ?_
            refine g_iload_n K 1 dX7_told_81 rfl rfl ?_
            obtain ⟨g11, h⟩ := og h
            refine g_iald K kd_135 ltN_135 g11 dX7_told_82 ?_
            refine g_iconst (v := 1) K dX7_told_83 ic_1 ?_
            refine g_icmp_le (tgt := 92) K dX7_told_84 (by decide) (fun c12 => ?_) (fun c12 => ?_)
            · replace h := bp c12 h
              refine g_aload_n K 0 dX7_told_92 rfl rfl ?_
              refine g_get (v := .ref (X.ad 136)) K (e_ControlRegisterModel kd_132) ltN_132 rfl 3 (by decide) rfl fw_X7_19 u_X7 dX7_told_93 ?_
              refine g_iload_n K 1 dX7_told_96 rfl rfl ?_
              obtain ⟨g13, h⟩ := og h
              refine g_iald K kd_136 ltN_136 g13 dX7_told_97 ?_
              exact hr _ _ _ _ dX7_told_98 (rt1 h)
            · replace h := bn c12 h
              refine g_bipush (v := (-6)) K dX7_told_87 bp_m6 ?_
              refine g_goto (tgt := 98) K dX7_told_89 (by decide) ?_
              exact hr _ _ _ _ dX7_told_98 (rt1 h)
          · replace h := bn c10 h
            rcases Classical.em (x2 = 4) with c14 | c14
            · replace h := bp c14 h
              refine g_tableIn (y := 4) (off := 88) (tgt := 99) K dX7_told_11 c14 (by decide) (by decide) (by decide) (by decide) ?_
              refine g_aload_n K 0 dX7_told_99 rfl rfl ?_
              refine g_get (v := .ref (X.ad 137)) K (e_ControlRegisterModel kd_132) ltN_132 rfl 4 (by decide) rfl fw_X7_22 u_X7 dX7_told_100 ?_
              refine g_iload_n K 1 dX7_told_103 rfl rfl ?_
              obtain ⟨g15, h⟩ := og h
              refine g_iald K kd_137 ltN_137 g15 dX7_told_104 ?_
              exact hr _ _ _ _ dX7_told_105 (rt1 h)
            · replace h := bn c14 h
              rcases Classical.em (x2 = 5) with c16 | c16
              · replace h := bp c16 h
                refine g_tableIn (y := 5) (off := 95) (tgt := 106) K dX7_told_11 c16 (by decide) (by decide) (by decide) (by decide) ?_
                refine g_aload_n K 0 dX7_told_106 rfl rfl ?_
                refine g_get (v := .ref (X.ad 138)) K (e_ControlRegisterModel kd_132) ltN_132 rfl 5 (by decide) rfl fw_X7_25 u_X7 dX7_told_107 ?_
                refine g_iload_n K 1 dX7_told_110 rfl rfl ?_
                obtain ⟨g17, h⟩ := og h
                refine g_iald K kd_138 ltN_138 g17 dX7_told_111 ?_
                exact hr _ _ _ _ dX7_told_112 (rt1 h)
              · replace h := bn c16 h
                rcases Classical.em (x2 = 6) with c18 | c18
                · replace h := bp c18 h
                  refine g_tableIn (y := 6) (off := 102) (tgt := 113) K dX7_told_11 c18 (by decide) (by decide) (by decide) (by decide) ?_
                  refine g_aload_n K 0 dX7_told_113 rfl rfl ?_
                  refine g_iload_n K 1 dX7_told_114 rfl rfl ?_
                  obtain ⟨r19, e20, h⟩ := ob h
                  refine g_cvi (As := [.int x1]) (rest := []) K (m_X7_placeOf e20) yv_X7_placeOf ml_X7_74 rfl rfl rfl (e_ControlRegisterModel kd_132) ltN_132 rfl rfl ⟨Nat.le_trans (Nat.le_of_ble_eq_true rfl) hR.1, Nat.le_trans (Nat.le_of_ble_eq_true rfl) hR.2⟩ (Nat.le_of_ble_eq_true rfl) dX7_told_115 ?_
                  exact hr _ _ _ _ dX7_told_118 (rt1 h)
                · replace h := bn c18 h
                  rcases Classical.em (x2 = 7) with c21 | c21
                  · replace h := bp c21 h
                    refine g_tableIn (y := 7) (off := 108) (tgt := 119) K dX7_told_11 c21 (by decide) (by decide) (by decide) (by decide) ?_
                    refine g_aload_n K 0 dX7_told_119 rfl rfl ?_
                    refine g_get (v := .ref (X.ad 133)) K (e_ControlRegisterModel kd_132) ltN_132 rfl 0 (by decide) rfl fw_X7_7 u_X7 dX7_told_120 ?_
                    refine g_iload_n K 1 dX7_told_123 rfl rfl ?_
                    obtain ⟨g22, h⟩ := og h
                    refine g_iald K kd_133 ltN_133 g22 dX7_told_124 ?_
                    refine g_aload_n K 0 dX7_told_125 rfl rfl ?_
                    refine g_get (v := .int (σ.1 132 7)) K (e_ControlRegisterModel kd_132) ltN_132 rfl 7 (by decide) rfl fw_X7_114 u_X7 dX7_told_126 ?_
                    refine g_icmp_gt (tgt := 136) K dX7_told_129 (by decide) (fun c23 => ?_) (fun c23 => ?_)
                    · replace h := bp c23 h
                      refine g_iconst (v := 0) K dX7_told_136 ic_0 ?_
                      exact hr _ _ _ _ dX7_told_137 (rt1 h)
                    · replace h := bn c23 h
                      refine g_iconst (v := 1) K dX7_told_132 ic_1 ?_
                      refine g_goto (tgt := 137) K dX7_told_133 (by decide) ?_
                      exact hr _ _ _ _ dX7_told_137 (rt1 h)
                  · replace h := bn c21 h
                    refine g_tableOut (tgt := 138) K dX7_told_11 (by have w0 := lv_neT (a := 0) c4 (by decide); have w1 := lv_neT (a := 1) c6 (by decide); have w2 := lv_neT (a := 2) c8 (by decide); have w3 := lv_neT (a := 3) c10 (by decide); have w4 := lv_neT (a := 4) c14 (by decide); have w5 := lv_neT (a := 5) c16 (by decide); have w6 := lv_neT (a := 6) c18 (by decide); have w7 := lv_neT (a := 7) c21 (by decide); omega) (by decide) ?_
                    refine g_bipush (v := (-2)) K dX7_told_138 bp_m2 ?_
                    exact hr _ _ _ _ dX7_told_140 (rt1 h)
  · replace h := bp c3 h
    refine g_iconst (v := (-1)) K dX7_told_8 ic_m1 ?_
    exact hr _ _ _ _ dX7_told_9 (rt1 h)
theorem m_X7_told {x1 : Int32} {x2 : Int32} {σ : Sg}  {r : Int32} (h : f_X7_told x1 x2 σ = some r) : CI yX7_told cX7_told 3 (some .int) 2 43 (fun ad => [.ref (ad 132), .int x1, .int x2]) σ r σ :=
  CI.of (by decide) (fun _ => Nat.le_of_ble_eq_true rfl) (fun X K hR hr => w_X7_told K hR h hr)
def f_X7_look (x1 : Int32) (σ : Sg) : Option (Int32 × Sg) :=
  if (f_X7_in x1 0 999) = 0 then
  (some ((-2), σ))
  else
  (jn (setR σ 132 (upd (σ.1 132) 7 x1)) (fun σ2 =>
  some ((σ.1 132 7), σ2)))
set_option maxRecDepth 20000 in
set_option maxHeartbeats 4000000 in
theorem w_X7_look {X : Ctx} (K : Cok X cX7_look 3 RX7) (hR : 1 ≤ X.R.frames ∧ 22 ≤ X.R.locals) {x1 : Int32} {σ : Sg}  {r : Int32 × Sg} (h : f_X7_look x1 σ = some r) (hr : RI X cX7_look 3 r) : G X 3 0 [(0, .ref (X.ad 132)), (1, .int x1)] [] σ := by
  unfold f_X7_look at h
  refine g_iload_n K 1 dX7_look_0 rfl rfl ?_
  refine g_iconst (v := 0) K dX7_look_1 ic_0 ?_
  refine g_sipush (v := 999) K dX7_look_2 sp_999 ?_
  refine g_csi (As := [.int x1, .int 0, .int 999]) (rest := []) K (m_X7_in x1 0 999 σ) yv_X7_in ml_X7_66 rfl rfl rfl ⟨Nat.le_trans (Nat.le_of_ble_eq_true rfl) hR.1, Nat.le_trans (Nat.le_of_ble_eq_true rfl) hR.2⟩ (Nat.le_of_ble_eq_true rfl) dX7_look_5 ?_
  refine g_if_ne (tgt := 14) K dX7_look_8 (by decide) (fun c1 => ?_) (fun c1 => ?_)
  · replace h := bn c1 h
    refine g_aload_n K 0 dX7_look_14 rfl rfl ?_
    refine g_get (v := .int (σ.1 132 7)) K (e_ControlRegisterModel kd_132) ltN_132 rfl 7 (by decide) rfl fw_X7_114 u_X7 dX7_look_15 ?_
    refine g_istore_n (lv' := [(2, .int (σ.1 132 7)), (0, .ref (X.ad 132)), (1, .int x1)]) K dX7_look_18 rfl (by decide) rfl ?_
    refine g_aload_n K 1 dX7_look_19 rfl rfl ?_
    refine g_iload_n K 2 dX7_look_20 rfl rfl ?_
    refine g_put (f' := (upd (σ.1 132) 7 x1)) K (e_ControlRegisterModel kd_132) ltN_132 rfl 7 (by decide) (e_ControlRegisterModel kd_132) tyX7 tyX7_ok nmX7 rfl (ty := .int) (by decide +kernel) rfl rfl (Nat.le_of_ble_eq_true rfl) fw_X7_114 u_X7 dX7_look_21 (fun σ2 s3 => ?_)
    replace h := jn_at s3 h
    refine g_iload_n K 0 dX7_look_24 rfl rfl ?_
    exact hr _ _ _ _ dX7_look_25 (rt2 h)
  · replace h := bp c1 h
    refine g_bipush (v := (-2)) K dX7_look_11 bp_m2 ?_
    exact hr _ _ _ _ dX7_look_13 (rt2 h)
theorem m_X7_look {x1 : Int32} {σ : Sg}  {r : Int32 × Sg} (h : f_X7_look x1 σ = some r) : CI yX7_look cX7_look 3 (some .int) 1 22 (fun ad => [.ref (ad 132), .int x1]) σ r.1 r.2 :=
  CI.of (by decide) (fun _ => Nat.le_of_ble_eq_true rfl) (fun X K hR hr => w_X7_look K hR h hr)
