def L_X1_newFirms_6 (b0 : Nat) (x1 : Int32) (b2 : Nat) (b3 : Nat) (σ : Sg) : Nat → Int32 → Int32 → Option (Int32 × Int32)
  | 0, _, _ => none
  | n + 1, x4, x5 =>
    if 5 ≤ x5 then
    (some (x4, x5))
    else
    (if inb x1 9 then
    (if (f_X6_has (σ.1 (b0 + 1) x1.toNatClampNeg) x5) = 0 then
    (if inb x1 9 then
    (Option.bind (f_X2_falls b2 x5 x1 (σ.1 (b0 + 1) x1.toNatClampNeg) b3 σ) (fun r5 =>
    if r5 = 0 then
    (L_X1_newFirms_6 b0 x1 b2 b3 σ n x4 (x5 + 1))
    else
    (L_X1_newFirms_6 b0 x1 b2 b3 σ n (x4 ||| (1 <<< (x5 &&& 31))) (x5 + 1))))
    else none)
    else
    (L_X1_newFirms_6 b0 x1 b2 b3 σ n x4 (x5 + 1)))
    else none)
set_option maxRecDepth 20000 in
set_option maxHeartbeats 4000000 in
theorem l_X1_newFirms_6 {X : Ctx} (K : Cok X cX1_newFirms 6 RX1) (hR : 2 ≤ X.R.frames ∧ 50 ≤ X.R.locals) {b0 : Nat} {x1 : Int32} {b2 : Nat} {b3 : Nat} {σ : Sg} (hb0 : isCtrl b0) (hb2 : isHold b2) (hb3 : isBook b3) :
    ∀ (n : Nat) (x4 : Int32) (x5 : Int32) (o : (Int32 × Int32)), L_X1_newFirms_6 b0 x1 b2 b3 σ n x4 x5 = some o → G X 6 58 [(0, .ref (X.ad b0)), (1, .int x1), (2, .ref (X.ad b2)), (3, .ref (X.ad b3)), (4, .int o.1), (5, .int o.2)] [] σ → G X 6 6 [(0, .ref (X.ad b0)), (1, .int x1), (2, .ref (X.ad b2)), (3, .ref (X.ad b3)), (4, .int x4), (5, .int x5)] [] σ := by
  intro n
  induction n with
  | zero => intro x4 x5 o h; exact absurd h (by unfold L_X1_newFirms_6; intro h; cases h)
  | succ n ih =>
    intro x4 x5 o h hexit
    unfold L_X1_newFirms_6 at h
    refine g_iload K 5 dX1_newFirms_6 rfl ?_
    refine g_iconst (v := 5) K dX1_newFirms_8 ic_5 ?_
    refine g_icmp_ge (tgt := 58) K dX1_newFirms_9 (by decide) (fun c1 => ?_) (fun c1 => ?_)
    · replace h := bp c1 h
      refine g_sub [0, 1, 2, 3, 4, 5] rfl ?_
      obtain rfl := Option.some.inj h
      exact hexit
    · replace h := bn c1 h
      refine g_aload_n K 0 dX1_newFirms_12 rfl rfl ?_
      refine g_get (v := .ref (X.ad (b0 + 1))) K (e_Control (ct_k0 hb0)) (ct_l0 hb0) rfl 0 (by decide) rfl fw_X1_9 u_X1 dX1_newFirms_13 ?_
      refine g_iload_n K 1 dX1_newFirms_16 rfl rfl ?_
      obtain ⟨g2, h⟩ := og h
      refine g_iald K (ct_k1 hb0) (ct_l1 hb0) g2 dX1_newFirms_17 ?_
      refine g_iload K 5 dX1_newFirms_18 rfl ?_
      refine g_cni (As := [.int (σ.1 (b0 + 1) x1.toNatClampNeg), .int x5]) (rest := []) K (m_X6_has (σ.1 (b0 + 1) x1.toNatClampNeg) x5 σ) yv_X6_has ne_X1_31 rfl rfl rfl ⟨Nat.le_trans (Nat.le_of_ble_eq_true rfl) hR.1, Nat.le_trans (Nat.le_of_ble_eq_true rfl) hR.2⟩ (Nat.le_of_ble_eq_true rfl) dX1_newFirms_20 ?_
      refine g_if_ne (tgt := 52) K dX1_newFirms_23 (by decide) (fun c3 => ?_) (fun c3 => ?_)
      · replace h := bn c3 h
        refine g_iinc (lv' := [(5, .int (x5 + 1)), (0, .ref (X.ad b0)), (1, .int x1), (2, .ref (X.ad b2)), (3, .ref (X.ad b3)), (4, .int x4)]) K 5 dX1_newFirms_52 rfl (by rw [ic_1]) (by decide) rfl ?_
        refine g_goto (tgt := 6) K dX1_newFirms_55 (by decide) ?_
        refine g_sub [1, 2, 3, 4, 5, 0] rfl ?_
        exact ih _ _ _ h hexit
      · replace h := bp c3 h
        refine g_aload_n K 2 dX1_newFirms_26 rfl rfl ?_
        refine g_iload K 5 dX1_newFirms_27 rfl ?_
        refine g_iload_n K 1 dX1_newFirms_29 rfl rfl ?_
        refine g_aload_n K 0 dX1_newFirms_30 rfl rfl ?_
        refine g_get (v := .ref (X.ad (b0 + 1))) K (e_Control (ct_k0 hb0)) (ct_l0 hb0) rfl 0 (by decide) rfl fw_X1_9 u_X1 dX1_newFirms_31 ?_
        refine g_iload_n K 1 dX1_newFirms_34 rfl rfl ?_
        obtain ⟨g4, h⟩ := og h
        refine g_iald K (ct_k1 hb0) (ct_l1 hb0) g4 dX1_newFirms_35 ?_
        refine g_aload_n K 3 dX1_newFirms_36 rfl rfl ?_
        obtain ⟨r5, e6, h⟩ := ob h
        refine g_cvi (As := [.int x5, .int x1, .int (σ.1 (b0 + 1) x1.toNatClampNeg), .ref (X.ad b3)]) (rest := []) K (m_X2_falls hb2 hb3 e6) yv_X2_falls ml_X1_35 rfl rfl rfl (e_Holdings (hd_k0 hb2)) (hd_l0 hb2) rfl rfl ⟨Nat.le_trans (Nat.le_of_ble_eq_true rfl) hR.1, Nat.le_trans (Nat.le_of_ble_eq_true rfl) hR.2⟩ (Nat.le_of_ble_eq_true rfl) dX1_newFirms_37 ?_
        refine g_if_eq (tgt := 52) K dX1_newFirms_40 (by decide) (fun c7 => ?_) (fun c7 => ?_)
        · replace h := bp c7 h
          refine g_iinc (lv' := [(5, .int (x5 + 1)), (0, .ref (X.ad b0)), (1, .int x1), (2, .ref (X.ad b2)), (3, .ref (X.ad b3)), (4, .int x4)]) K 5 dX1_newFirms_52 rfl (by rw [ic_1]) (by decide) rfl ?_
          refine g_goto (tgt := 6) K dX1_newFirms_55 (by decide) ?_
          refine g_sub [1, 2, 3, 4, 5, 0] rfl ?_
          exact ih _ _ _ h hexit
        · replace h := bn c7 h
          refine g_iload K 4 dX1_newFirms_43 rfl ?_
          refine g_iconst (v := 1) K dX1_newFirms_45 ic_1 ?_
          refine g_iload K 5 dX1_newFirms_46 rfl ?_
          refine g_ishl K dX1_newFirms_48 ?_
          refine g_ior K dX1_newFirms_49 ?_
          refine g_istore (lv' := [(4, .int (x4 ||| (1 <<< (x5 &&& 31)))), (0, .ref (X.ad b0)), (1, .int x1), (2, .ref (X.ad b2)), (3, .ref (X.ad b3)), (5, .int x5)]) K dX1_newFirms_50 (by decide) rfl ?_
          refine g_iinc (lv' := [(5, .int (x5 + 1)), (4, .int (x4 ||| (1 <<< (x5 &&& 31)))), (0, .ref (X.ad b0)), (1, .int x1), (2, .ref (X.ad b2)), (3, .ref (X.ad b3))]) K 5 dX1_newFirms_52 rfl (by rw [ic_1]) (by decide) rfl ?_
          refine g_goto (tgt := 6) K dX1_newFirms_55 (by decide) ?_
          refine g_sub [2, 3, 4, 5, 1, 0] rfl ?_
          exact ih _ _ _ h hexit
def f_X1_newFirms (b0 : Nat) (x1 : Int32) (b2 : Nat) (b3 : Nat) (σ : Sg) : Option Int32 :=
  Option.bind (L_X1_newFirms_6 b0 x1 b2 b3 σ FU 0 0) (fun o1 =>
  some o1.1)
set_option maxRecDepth 20000 in
set_option maxHeartbeats 4000000 in
theorem w_X1_newFirms {X : Ctx} (K : Cok X cX1_newFirms 6 RX1) (hR : 2 ≤ X.R.frames ∧ 50 ≤ X.R.locals) {b0 : Nat} {x1 : Int32} {b2 : Nat} {b3 : Nat} {σ : Sg} (hb0 : isCtrl b0) (hb2 : isHold b2) (hb3 : isBook b3) {r : Int32} (h : f_X1_newFirms b0 x1 b2 b3 σ = some r) (hr : RI X cX1_newFirms 6 (r, σ)) : G X 6 0 [(0, .ref (X.ad b0)), (1, .int x1), (2, .ref (X.ad b2)), (3, .ref (X.ad b3))] [] σ := by
  unfold f_X1_newFirms at h
  refine g_iconst (v := 0) K dX1_newFirms_0 ic_0 ?_
  refine g_istore (lv' := [(4, .int 0), (0, .ref (X.ad b0)), (1, .int x1), (2, .ref (X.ad b2)), (3, .ref (X.ad b3))]) K dX1_newFirms_1 (by decide) rfl ?_
  refine g_iconst (v := 0) K dX1_newFirms_3 ic_0 ?_
  refine g_istore (lv' := [(5, .int 0), (4, .int 0), (0, .ref (X.ad b0)), (1, .int x1), (2, .ref (X.ad b2)), (3, .ref (X.ad b3))]) K dX1_newFirms_4 (by decide) rfl ?_
  obtain ⟨o1, e2, h⟩ := ob h
  refine g_sub [2, 3, 4, 5, 1, 0] rfl ?_
  refine l_X1_newFirms_6 K hR hb0 hb2 hb3 _ _ _ _ e2 ?_
  refine g_iload K 4 dX1_newFirms_58 rfl ?_
  exact hr _ _ _ _ dX1_newFirms_60 (rt1 h)
theorem m_X1_newFirms {b0 : Nat} {x1 : Int32} {b2 : Nat} {b3 : Nat} {σ : Sg} (hb0 : isCtrl b0) (hb2 : isHold b2) (hb3 : isBook b3) {r : Int32} (h : f_X1_newFirms b0 x1 b2 b3 σ = some r) : CI yX1_newFirms cX1_newFirms 6 (some .int) 2 50 (fun ad => [.ref (ad b0), .int x1, .ref (ad b2), .ref (ad b3)]) σ r σ :=
  CI.of (by decide) (fun _ => Nat.le_of_ble_eq_true rfl) (fun X K hR hr => w_X1_newFirms K hR hb0 hb2 hb3 h hr)
def L_X1_workOut_17 (b0 : Nat) (x1 : Int32) (b2 : Nat) (b3 : Nat) : Nat → Int32 → Sg → Option (Int32 × Sg)
  | 0, _, _ => none
  | n + 1, x4, σ =>
    if 5 ≤ x4 then
    (some (x4, σ))
    else
    (if inb x1 9 then
    (if inb x4 5 then
    (jn (setR σ ((b0 + 2) + 1 + x1.toNatClampNeg) (upd (σ.1 ((b0 + 2) + 1 + x1.toNatClampNeg)) x4.toNatClampNeg (-6))) (fun σ4 =>
    L_X1_workOut_17 b0 x1 b2 b3 n (x4 + 1) σ4))
    else none)
    else none)
set_option maxRecDepth 20000 in
set_option maxHeartbeats 4000000 in
theorem l_X1_workOut_17 {X : Ctx} (K : Cok X cX1_workOut 7 RX1) (hR : 3 ≤ X.R.frames ∧ 75 ≤ X.R.locals) {b0 : Nat} {x1 : Int32} {b2 : Nat} {b3 : Nat} (hb0 : isCtrl b0) (hb2 : isHold b2) (hb3 : isBook b3) :
    ∀ (n : Nat) (x4 : Int32) (σ : Sg) (o : (Int32 × Sg)), L_X1_workOut_17 b0 x1 b2 b3 n x4 σ = some o → G X 7 40 [(0, .ref (X.ad b0)), (1, .int x1), (2, .ref (X.ad b2)), (3, .ref (X.ad b3)), (4, .int o.1)] [] o.2 → G X 7 17 [(0, .ref (X.ad b0)), (1, .int x1), (2, .ref (X.ad b2)), (3, .ref (X.ad b3)), (4, .int x4)] [] σ := by
  intro n
  induction n with
  | zero => intro x4 σ o h; exact absurd h (by unfold L_X1_workOut_17; intro h; cases h)
  | succ n ih =>
    intro x4 σ o h hexit
    unfold L_X1_workOut_17 at h
    refine g_iload K 4 dX1_workOut_17 rfl ?_
    refine g_iconst (v := 5) K dX1_workOut_19 ic_5 ?_
    refine g_icmp_ge (tgt := 40) K dX1_workOut_20 (by decide) (fun c1 => ?_) (fun c1 => ?_)
    · replace h := bp c1 h
      refine g_sub [0, 1, 2, 3, 4] rfl ?_
      obtain rfl := Option.some.inj h
      exact hexit
    · replace h := bn c1 h
      refine g_aload_n K 0 dX1_workOut_23 rfl rfl ?_
      refine g_get (v := .ref (X.ad (b0 + 2))) K (e_Control (ct_k0 hb0)) (ct_l0 hb0) rfl 1 (by decide) rfl fw_X1_17 u_X1 dX1_workOut_24 ?_
      refine g_iload_n K 1 dX1_workOut_27 rfl rfl ?_
      obtain ⟨g2, h⟩ := og h
      refine g_aaldI K (ct_k2 hb0) (ct_l2 hb0) g2 dX1_workOut_28 ?_
      refine g_iload K 4 dX1_workOut_29 rfl ?_
      refine g_bipush (v := (-6)) K dX1_workOut_31 bp_m6 ?_
      obtain ⟨g3, h⟩ := og h
      refine g_iast K (ct_r2 hb0 g2) (ct_s2 hb0 g2) g3 dX1_workOut_33 (fun σ4 s5 => ?_)
      replace h := jn_at s5 h
      refine g_iinc (lv' := [(4, .int (x4 + 1)), (0, .ref (X.ad b0)), (1, .int x1), (2, .ref (X.ad b2)), (3, .ref (X.ad b3))]) K 4 dX1_workOut_34 rfl (by rw [ic_1]) (by decide) rfl ?_
      refine g_goto (tgt := 17) K dX1_workOut_37 (by decide) ?_
      refine g_sub [1, 2, 3, 4, 0] rfl ?_
      exact ih _ _ _ h hexit
def L_X1_workOut_86 (b0 : Nat) (x1 : Int32) (b2 : Nat) (b3 : Nat) (x4 : Int32) (x5 : Int32) : Nat → Int32 → Sg → Option (Int32 × Sg)
  | 0, _, _ => none
  | n + 1, x6, σ =>
    if 5 ≤ x6 then
    (some (x6, σ))
    else
    (if (f_X6_has x5 x6) = 0 then
    (L_X1_workOut_86 b0 x1 b2 b3 x4 x5 n (x6 + 1) σ)
    else
    (if inb x1 9 then
    (if inb x6 5 then
    (jn (setR σ ((b0 + 2) + 1 + x1.toNatClampNeg) (upd (σ.1 ((b0 + 2) + 1 + x1.toNatClampNeg)) x6.toNatClampNeg x4)) (fun σ5 =>
    L_X1_workOut_86 b0 x1 b2 b3 x4 x5 n (x6 + 1) σ5))
    else none)
    else none))
set_option maxRecDepth 20000 in
set_option maxHeartbeats 4000000 in
theorem l_X1_workOut_86 {X : Ctx} (K : Cok X cX1_workOut 7 RX1) (hR : 3 ≤ X.R.frames ∧ 75 ≤ X.R.locals) {b0 : Nat} {x1 : Int32} {b2 : Nat} {b3 : Nat} {x4 : Int32} {x5 : Int32} (hb0 : isCtrl b0) (hb2 : isHold b2) (hb3 : isBook b3) :
    ∀ (n : Nat) (x6 : Int32) (σ : Sg) (o : (Int32 × Sg)), L_X1_workOut_86 b0 x1 b2 b3 x4 x5 n x6 σ = some o → G X 7 119 [(0, .ref (X.ad b0)), (1, .int x1), (2, .ref (X.ad b2)), (3, .ref (X.ad b3)), (4, .int x4), (5, .int x5), (6, .int o.1)] [] o.2 → G X 7 86 [(0, .ref (X.ad b0)), (1, .int x1), (2, .ref (X.ad b2)), (3, .ref (X.ad b3)), (4, .int x4), (5, .int x5), (6, .int x6)] [] σ := by
  intro n
  induction n with
  | zero => intro x6 σ o h; exact absurd h (by unfold L_X1_workOut_86; intro h; cases h)
  | succ n ih =>
    intro x6 σ o h hexit
    unfold L_X1_workOut_86 at h
    refine g_iload K 6 dX1_workOut_86 rfl ?_
    refine g_iconst (v := 5) K dX1_workOut_88 ic_5 ?_
    refine g_icmp_ge (tgt := 119) K dX1_workOut_89 (by decide) (fun c1 => ?_) (fun c1 => ?_)
    · replace h := bp c1 h
      refine g_sub [0, 1, 2, 3, 4, 5, 6] rfl ?_
      obtain rfl := Option.some.inj h
      exact hexit
    · replace h := bn c1 h
      refine g_iload K 5 dX1_workOut_92 rfl ?_
      refine g_iload K 6 dX1_workOut_94 rfl ?_
      refine g_cni (As := [.int x5, .int x6]) (rest := []) K (m_X6_has x5 x6 σ) yv_X6_has ne_X1_31 rfl rfl rfl ⟨Nat.le_trans (Nat.le_of_ble_eq_true rfl) hR.1, Nat.le_trans (Nat.le_of_ble_eq_true rfl) hR.2⟩ (Nat.le_of_ble_eq_true rfl) dX1_workOut_96 ?_
      refine g_if_eq (tgt := 113) K dX1_workOut_99 (by decide) (fun c2 => ?_) (fun c2 => ?_)
      · replace h := bp c2 h
        refine g_iinc (lv' := [(6, .int (x6 + 1)), (0, .ref (X.ad b0)), (1, .int x1), (2, .ref (X.ad b2)), (3, .ref (X.ad b3)), (4, .int x4), (5, .int x5)]) K 6 dX1_workOut_113 rfl (by rw [ic_1]) (by decide) rfl ?_
        refine g_goto (tgt := 86) K dX1_workOut_116 (by decide) ?_
        refine g_sub [1, 2, 3, 4, 5, 6, 0] rfl ?_
        exact ih _ _ _ h hexit
      · replace h := bn c2 h
        refine g_aload_n K 0 dX1_workOut_102 rfl rfl ?_
        refine g_get (v := .ref (X.ad (b0 + 2))) K (e_Control (ct_k0 hb0)) (ct_l0 hb0) rfl 1 (by decide) rfl fw_X1_17 u_X1 dX1_workOut_103 ?_
        refine g_iload_n K 1 dX1_workOut_106 rfl rfl ?_
        obtain ⟨g3, h⟩ := og h
        refine g_aaldI K (ct_k2 hb0) (ct_l2 hb0) g3 dX1_workOut_107 ?_
        refine g_iload K 6 dX1_workOut_108 rfl ?_
        refine g_iload K 4 dX1_workOut_110 rfl ?_
        obtain ⟨g4, h⟩ := og h
        refine g_iast K (ct_r2 hb0 g3) (ct_s2 hb0 g3) g4 dX1_workOut_112 (fun σ5 s6 => ?_)
        replace h := jn_at s6 h
        refine g_iinc (lv' := [(6, .int (x6 + 1)), (0, .ref (X.ad b0)), (1, .int x1), (2, .ref (X.ad b2)), (3, .ref (X.ad b3)), (4, .int x4), (5, .int x5)]) K 6 dX1_workOut_113 rfl (by rw [ic_1]) (by decide) rfl ?_
        refine g_goto (tgt := 86) K dX1_workOut_116 (by decide) ?_
        refine g_sub [1, 2, 3, 4, 5, 6, 0] rfl ?_
        exact ih _ _ _ h hexit
def L_X1_workOut_43 (b0 : Nat) (x1 : Int32) (b2 : Nat) (b3 : Nat) : Nat → Int32 → Sg → Option ((Sg) ⊕ (Int32 × Sg))
  | 0, _, _ => none
  | n + 1, x4, σ =>
    if 5 < x4 then
    (some (.inr (x4, σ)))
    else
    (Option.bind (f_X1_newFirms b0 x1 b2 b3 σ) (fun r2 =>
    if r2 = 0 then
    (some (.inl (σ)))
    else
    (if inb x1 9 then
    (if inb x1 9 then
    (jn (setR σ (b0 + 1) (upd (σ.1 (b0 + 1)) x1.toNatClampNeg ((σ.1 (b0 + 1) x1.toNatClampNeg) ||| r2))) (fun σ7 =>
    if inb x1 9 then
    (jn (setR σ7 (b0 + 12) (upd (σ7.1 (b0 + 12)) x1.toNatClampNeg x4)) (fun σ10 =>
    Option.bind (L_X1_workOut_86 b0 x1 b2 b3 x4 r2 FU 0 σ10) (fun o12 =>
    L_X1_workOut_43 b0 x1 b2 b3 n (x4 + 1) o12.2)))
    else none))
    else none)
    else none)))
set_option maxRecDepth 20000 in
set_option maxHeartbeats 4000000 in
theorem l_X1_workOut_43 {X : Ctx} (K : Cok X cX1_workOut 7 RX1) (hR : 3 ≤ X.R.frames ∧ 75 ≤ X.R.locals) {res : Sg} (hr : RV X cX1_workOut 7 res) {b0 : Nat} {x1 : Int32} {b2 : Nat} {b3 : Nat} (hb0 : isCtrl b0) (hb2 : isHold b2) (hb3 : isBook b3) :
    ∀ (n : Nat) (x4 : Int32) (σ : Sg) (o : ((Sg) ⊕ (Int32 × Sg))), L_X1_workOut_43 b0 x1 b2 b3 n x4 σ = some o → (∀ q, o = .inl q → q = res) → (∀ q, o = .inr q → G X 7 125 [(0, .ref (X.ad b0)), (1, .int x1), (2, .ref (X.ad b2)), (3, .ref (X.ad b3)), (4, .int q.1)] [] q.2) → G X 7 43 [(0, .ref (X.ad b0)), (1, .int x1), (2, .ref (X.ad b2)), (3, .ref (X.ad b3)), (4, .int x4)] [] σ := by
  intro n
  induction n with
  | zero => intro x4 σ o h; exact absurd h (by unfold L_X1_workOut_43; intro h; cases h)
  | succ n ih =>
    intro x4 σ o h hret hexit
    unfold L_X1_workOut_43 at h
    refine g_iload K 4 dX1_workOut_43 rfl ?_
    refine g_iconst (v := 5) K dX1_workOut_45 ic_5 ?_
    refine g_icmp_gt (tgt := 125) K dX1_workOut_46 (by decide) (fun c1 => ?_) (fun c1 => ?_)
    · replace h := bp c1 h
      refine g_sub [0, 1, 2, 3, 4] rfl ?_
      exact hexit _ (Option.some.inj h).symm
    · replace h := bn c1 h
      refine g_aload_n K 0 dX1_workOut_49 rfl rfl ?_
      refine g_iload_n K 1 dX1_workOut_50 rfl rfl ?_
      refine g_aload_n K 2 dX1_workOut_51 rfl rfl ?_
      refine g_aload_n K 3 dX1_workOut_52 rfl rfl ?_
      obtain ⟨r2, e3, h⟩ := ob h
      refine g_cvi (As := [.int x1, .ref (X.ad b2), .ref (X.ad b3)]) (rest := []) K (m_X1_newFirms hb0 hb2 hb3 e3) yv_X1_newFirms ml_X1_27 rfl rfl rfl (e_Control (ct_k0 hb0)) (ct_l0 hb0) rfl rfl ⟨Nat.le_trans (Nat.le_of_ble_eq_true rfl) hR.1, Nat.le_trans (Nat.le_of_ble_eq_true rfl) hR.2⟩ (Nat.le_of_ble_eq_true rfl) dX1_workOut_53 ?_
      refine g_istore (lv' := [(5, .int r2), (0, .ref (X.ad b0)), (1, .int x1), (2, .ref (X.ad b2)), (3, .ref (X.ad b3)), (4, .int x4)]) K dX1_workOut_56 (by decide) rfl ?_
      refine g_iload K 0 dX1_workOut_58 rfl ?_
      refine g_if_ne (tgt := 64) K dX1_workOut_60 (by decide) (fun c4 => ?_) (fun c4 => ?_)
      · replace h := bn c4 h
        refine g_aload_n K 1 dX1_workOut_64 rfl rfl ?_
        refine g_get (v := .ref (X.ad (b0 + 1))) K (e_Control (ct_k0 hb0)) (ct_l0 hb0) rfl 0 (by decide) rfl fw_X1_9 u_X1 dX1_workOut_65 ?_
        refine g_iload_n K 2 dX1_workOut_68 rfl rfl ?_
        refine g_dup2 K dX1_workOut_69 rfl rfl ?_
        obtain ⟨g5, h⟩ := og h
        refine g_iald K (ct_k1 hb0) (ct_l1 hb0) g5 dX1_workOut_70 ?_
        refine g_iload K 0 dX1_workOut_71 rfl ?_
        refine g_ior K dX1_workOut_73 ?_
        obtain ⟨g6, h⟩ := og h
        refine g_iast K (ct_k1 hb0) (ct_l1 hb0) g6 dX1_workOut_74 (fun σ7 s8 => ?_)
        replace h := jn_at s8 h
        refine g_aload_n K 1 dX1_workOut_75 rfl rfl ?_
        refine g_get (v := .ref (X.ad (b0 + 12))) K (e_Control (ct_k0 hb0)) (ct_l0 hb0) rfl 2 (by decide) rfl fw_X1_20 u_X1 dX1_workOut_76 ?_
        refine g_iload_n K 2 dX1_workOut_79 rfl rfl ?_
        refine g_iload K 5 dX1_workOut_80 rfl ?_
        obtain ⟨g9, h⟩ := og h
        refine g_iast K (ct_k12 hb0) (ct_l12 hb0) g9 dX1_workOut_82 (fun σ10 s11 => ?_)
        replace h := jn_at s11 h
        refine g_iconst (v := 0) K dX1_workOut_83 ic_0 ?_
        refine g_istore (lv' := [(6, .int 0), (5, .int r2), (0, .ref (X.ad b0)), (1, .int x1), (2, .ref (X.ad b2)), (3, .ref (X.ad b3)), (4, .int x4)]) K dX1_workOut_84 (by decide) rfl ?_
        obtain ⟨o12, e13, h⟩ := ob h
        refine g_sub [2, 3, 4, 5, 6, 1, 0] rfl ?_
        refine l_X1_workOut_86 K hR hb0 hb2 hb3 _ _ _ _ e13 ?_
        refine g_iinc (lv' := [(4, .int (x4 + 1)), (0, .ref (X.ad b0)), (1, .int x1), (2, .ref (X.ad b2)), (3, .ref (X.ad b3)), (5, .int r2), (6, .int o12.1)]) K 4 dX1_workOut_119 rfl (by rw [ic_1]) (by decide) rfl ?_
        refine g_goto (tgt := 43) K dX1_workOut_122 (by decide) ?_
        refine g_sub [1, 2, 3, 4, 0] rfl ?_
        exact ih _ _ _ h hret hexit
      · replace h := bp c4 h
        exact hr _ _ _ dX1_workOut_63 (hret _ (Option.some.inj h).symm)
def f_X1_workOut (b0 : Nat) (x1 : Int32) (b2 : Nat) (b3 : Nat) (σ : Sg) : Option Sg :=
  if inb x1 9 then
  (jn (setR σ (b0 + 1) (upd (σ.1 (b0 + 1)) x1.toNatClampNeg 0)) (fun σ2 =>
  if inb x1 9 then
  (jn (setR σ2 (b0 + 12) (upd (σ2.1 (b0 + 12)) x1.toNatClampNeg 0)) (fun σ5 =>
  Option.bind (L_X1_workOut_17 b0 x1 b2 b3 FU 0 σ5) (fun o7 =>
  Option.bind (L_X1_workOut_43 b0 x1 b2 b3 FU 1 o7.2) (fun o9 => Sum.elim (fun x => some x) (fun o9 =>
  some o9.2) o9))))
  else none))
  else none
set_option maxRecDepth 20000 in
set_option maxHeartbeats 4000000 in
theorem w_X1_workOut {X : Ctx} (K : Cok X cX1_workOut 7 RX1) (hR : 3 ≤ X.R.frames ∧ 75 ≤ X.R.locals) {b0 : Nat} {x1 : Int32} {b2 : Nat} {b3 : Nat} {σ : Sg} (hb0 : isCtrl b0) (hb2 : isHold b2) (hb3 : isBook b3) {r : Sg} (h : f_X1_workOut b0 x1 b2 b3 σ = some r) (hr : RV X cX1_workOut 7 r) : G X 7 0 [(0, .ref (X.ad b0)), (1, .int x1), (2, .ref (X.ad b2)), (3, .ref (X.ad b3))] [] σ := by
  unfold f_X1_workOut at h
  refine g_aload_n K 0 dX1_workOut_0 rfl rfl ?_
  refine g_get (v := .ref (X.ad (b0 + 1))) K (e_Control (ct_k0 hb0)) (ct_l0 hb0) rfl 0 (by decide) rfl fw_X1_9 u_X1 dX1_workOut_1 ?_
  refine g_iload_n K 1 dX1_workOut_4 rfl rfl ?_
  refine g_iconst (v := 0) K dX1_workOut_5 ic_0 ?_
  obtain ⟨g1, h⟩ := og h
  refine g_iast K (ct_k1 hb0) (ct_l1 hb0) g1 dX1_workOut_6 (fun σ2 s3 => ?_)
  replace h := jn_at s3 h
  refine g_aload_n K 0 dX1_workOut_7 rfl rfl ?_
  refine g_get (v := .ref (X.ad (b0 + 12))) K (e_Control (ct_k0 hb0)) (ct_l0 hb0) rfl 2 (by decide) rfl fw_X1_20 u_X1 dX1_workOut_8 ?_
  refine g_iload_n K 1 dX1_workOut_11 rfl rfl ?_
  refine g_iconst (v := 0) K dX1_workOut_12 ic_0 ?_
  obtain ⟨g4, h⟩ := og h
  refine g_iast K (ct_k12 hb0) (ct_l12 hb0) g4 dX1_workOut_13 (fun σ5 s6 => ?_)
  replace h := jn_at s6 h
  refine g_iconst (v := 0) K dX1_workOut_14 ic_0 ?_
  refine g_istore (lv' := [(4, .int 0), (0, .ref (X.ad b0)), (1, .int x1), (2, .ref (X.ad b2)), (3, .ref (X.ad b3))]) K dX1_workOut_15 (by decide) rfl ?_
  obtain ⟨o7, e8, h⟩ := ob h
  refine g_sub [1, 2, 3, 4, 0] rfl ?_
  refine l_X1_workOut_17 K hR hb0 hb2 hb3 _ _ _ _ e8 ?_
  refine g_iconst (v := 1) K dX1_workOut_40 ic_1 ?_
  refine g_istore (lv' := [(4, .int 1), (0, .ref (X.ad b0)), (1, .int x1), (2, .ref (X.ad b2)), (3, .ref (X.ad b3))]) K dX1_workOut_41 (by decide) rfl ?_
  obtain ⟨o9, e10, h⟩ := ob h
  refine g_sub [1, 2, 3, 4, 0] rfl ?_
  refine l_X1_workOut_43 K hR hr hb0 hb2 hb3 _ _ _ _ e10 (fun x hx => ?_) (fun o9 hx => ?_)
  · subst hx
    exact rt2 h
  · subst hx
    dsimp only [Sum.elim_inr] at h
    exact hr _ _ _ dX1_workOut_125 (rt2 h)
theorem m_X1_workOut {b0 : Nat} {x1 : Int32} {b2 : Nat} {b3 : Nat} {σ : Sg} (hb0 : isCtrl b0) (hb2 : isHold b2) (hb3 : isBook b3) {r : Sg} (h : f_X1_workOut b0 x1 b2 b3 σ = some r) : CV yX1_workOut cX1_workOut 7 none 3 75 (fun ad => [.ref (ad b0), .int x1, .ref (ad b2), .ref (ad b3)]) σ r :=
  CV.of (by decide) (fun _ => Nat.le_of_ble_eq_true rfl) (fun X K hR hr => w_X1_workOut K hR hb0 hb2 hb3 h hr)
def L_X1_workOutAll_2 (b0 : Nat) (b1 : Nat) (b2 : Nat) : Nat → Int32 → Sg → Option (Int32 × Sg)
  | 0, _, _ => none
  | n + 1, x3, σ =>
    if 9 ≤ x3 then
    (some (x3, σ))
    else
    (Option.bind (f_X1_workOut b0 x3 b1 b2 σ) (fun q2 =>
    L_X1_workOutAll_2 b0 b1 b2 n (x3 + 1) q2))
set_option maxRecDepth 20000 in
set_option maxHeartbeats 4000000 in
theorem l_X1_workOutAll_2 {X : Ctx} (K : Cok X cX1_workOutAll 4 RX1) (hR : 4 ≤ X.R.frames ∧ 101 ≤ X.R.locals) {b0 : Nat} {b1 : Nat} {b2 : Nat} (hb0 : isCtrl b0) (hb1 : isHold b1) (hb2 : isBook b2) :
    ∀ (n : Nat) (x3 : Int32) (σ : Sg) (o : (Int32 × Sg)), L_X1_workOutAll_2 b0 b1 b2 n x3 σ = some o → G X 4 21 [(0, .ref (X.ad b0)), (1, .ref (X.ad b1)), (2, .ref (X.ad b2)), (3, .int o.1)] [] o.2 → G X 4 2 [(0, .ref (X.ad b0)), (1, .ref (X.ad b1)), (2, .ref (X.ad b2)), (3, .int x3)] [] σ := by
  intro n
  induction n with
  | zero => intro x3 σ o h; exact absurd h (by unfold L_X1_workOutAll_2; intro h; cases h)
  | succ n ih =>
    intro x3 σ o h hexit
    unfold L_X1_workOutAll_2 at h
    refine g_iload_n K 3 dX1_workOutAll_2 rfl rfl ?_
    refine g_bipush (v := 9) K dX1_workOutAll_3 bp_9 ?_
    refine g_icmp_ge (tgt := 21) K dX1_workOutAll_5 (by decide) (fun c1 => ?_) (fun c1 => ?_)
    · replace h := bp c1 h
      refine g_sub [0, 1, 2, 3] rfl ?_
      obtain rfl := Option.some.inj h
      exact hexit
    · replace h := bn c1 h
      refine g_aload_n K 0 dX1_workOutAll_8 rfl rfl ?_
      refine g_iload_n K 3 dX1_workOutAll_9 rfl rfl ?_
      refine g_aload_n K 1 dX1_workOutAll_10 rfl rfl ?_
      refine g_aload_n K 2 dX1_workOutAll_11 rfl rfl ?_
      obtain ⟨q2, e3, h⟩ := ob h
      refine g_cvv (As := [.int x3, .ref (X.ad b1), .ref (X.ad b2)]) (rest := []) K (m_X1_workOut hb0 hb1 hb2 e3) yv_X1_workOut ml_X1_23 rfl rfl rfl (e_Control (ct_k0 hb0)) (ct_l0 hb0) rfl rfl ⟨Nat.le_trans (Nat.le_of_ble_eq_true rfl) hR.1, Nat.le_trans (Nat.le_of_ble_eq_true rfl) hR.2⟩ (Nat.le_of_ble_eq_true rfl) dX1_workOutAll_12 ?_
      refine g_iinc (lv' := [(3, .int (x3 + 1)), (0, .ref (X.ad b0)), (1, .ref (X.ad b1)), (2, .ref (X.ad b2))]) K 3 dX1_workOutAll_15 rfl (by rw [ic_1]) (by decide) rfl ?_
      refine g_goto (tgt := 2) K dX1_workOutAll_18 (by decide) ?_
      refine g_sub [1, 2, 3, 0] rfl ?_
      exact ih _ _ _ h hexit
def f_X1_workOutAll (b0 : Nat) (b1 : Nat) (b2 : Nat) (σ : Sg) : Option Sg :=
  Option.bind (L_X1_workOutAll_2 b0 b1 b2 FU 0 σ) (fun o1 =>
  some o1.2)
set_option maxRecDepth 20000 in
set_option maxHeartbeats 4000000 in
theorem w_X1_workOutAll {X : Ctx} (K : Cok X cX1_workOutAll 4 RX1) (hR : 4 ≤ X.R.frames ∧ 101 ≤ X.R.locals) {b0 : Nat} {b1 : Nat} {b2 : Nat} {σ : Sg} (hb0 : isCtrl b0) (hb1 : isHold b1) (hb2 : isBook b2) {r : Sg} (h : f_X1_workOutAll b0 b1 b2 σ = some r) (hr : RV X cX1_workOutAll 4 r) : G X 4 0 [(0, .ref (X.ad b0)), (1, .ref (X.ad b1)), (2, .ref (X.ad b2))] [] σ := by
  unfold f_X1_workOutAll at h
  refine g_iconst (v := 0) K dX1_workOutAll_0 ic_0 ?_
  refine g_istore_n (lv' := [(3, .int 0), (0, .ref (X.ad b0)), (1, .ref (X.ad b1)), (2, .ref (X.ad b2))]) K dX1_workOutAll_1 rfl (by decide) rfl ?_
  obtain ⟨o1, e2, h⟩ := ob h
  refine g_sub [1, 2, 3, 0] rfl ?_
  refine l_X1_workOutAll_2 K hR hb0 hb1 hb2 _ _ _ _ e2 ?_
  exact hr _ _ _ dX1_workOutAll_21 (rt2 h)
theorem m_X1_workOutAll {b0 : Nat} {b1 : Nat} {b2 : Nat} {σ : Sg} (hb0 : isCtrl b0) (hb1 : isHold b1) (hb2 : isBook b2) {r : Sg} (h : f_X1_workOutAll b0 b1 b2 σ = some r) : CV yX1_workOutAll cX1_workOutAll 4 none 4 101 (fun ad => [.ref (ad b0), .ref (ad b1), .ref (ad b2)]) σ r :=
  CV.of (by decide) (fun _ => Nat.le_of_ble_eq_true rfl) (fun X K hR hr => w_X1_workOutAll K hR hb0 hb1 hb2 h hr)
def L_X1_firmsBefore_5 (b0 : Nat) (x1 : Int32) (x2 : Int32) (σ : Sg) : Nat → Int32 → Int32 → Option (Int32 × Int32)
  | 0, _, _ => none
  | n + 1, x3, x4 =>
    if 5 ≤ x4 then
    (some (x3, x4))
    else
    (if inb x1 9 then
    (if (f_X6_has (σ.1 (b0 + 1) x1.toNatClampNeg) x4) = 0 then
    (L_X1_firmsBefore_5 b0 x1 x2 σ n x3 (x4 + 1))
    else
    (if inb x1 9 then
    (if inb x4 5 then
    (if x2 ≤ (σ.1 ((b0 + 2) + 1 + x1.toNatClampNeg) x4.toNatClampNeg) then
    (L_X1_firmsBefore_5 b0 x1 x2 σ n x3 (x4 + 1))
    else
    (L_X1_firmsBefore_5 b0 x1 x2 σ n (x3 ||| (1 <<< (x4 &&& 31))) (x4 + 1)))
    else none)
    else none))
    else none)
set_option maxRecDepth 20000 in
set_option maxHeartbeats 4000000 in
theorem l_X1_firmsBefore_5 {X : Ctx} (K : Cok X cX1_firmsBefore 5 RX1) (hR : 1 ≤ X.R.frames ∧ 21 ≤ X.R.locals) {b0 : Nat} {x1 : Int32} {x2 : Int32} {σ : Sg} (hb0 : isCtrl b0) :
    ∀ (n : Nat) (x3 : Int32) (x4 : Int32) (o : (Int32 × Int32)), L_X1_firmsBefore_5 b0 x1 x2 σ n x3 x4 = some o → G X 5 51 [(0, .ref (X.ad b0)), (1, .int x1), (2, .int x2), (3, .int o.1), (4, .int o.2)] [] σ → G X 5 5 [(0, .ref (X.ad b0)), (1, .int x1), (2, .int x2), (3, .int x3), (4, .int x4)] [] σ := by
  intro n
  induction n with
  | zero => intro x3 x4 o h; exact absurd h (by unfold L_X1_firmsBefore_5; intro h; cases h)
  | succ n ih =>
    intro x3 x4 o h hexit
    unfold L_X1_firmsBefore_5 at h
    refine g_iload K 4 dX1_firmsBefore_5 rfl ?_
    refine g_iconst (v := 5) K dX1_firmsBefore_7 ic_5 ?_
    refine g_icmp_ge (tgt := 51) K dX1_firmsBefore_8 (by decide) (fun c1 => ?_) (fun c1 => ?_)
    · replace h := bp c1 h
      refine g_sub [0, 1, 2, 3, 4] rfl ?_
      obtain rfl := Option.some.inj h
      exact hexit
    · replace h := bn c1 h
      refine g_aload_n K 0 dX1_firmsBefore_11 rfl rfl ?_
      refine g_get (v := .ref (X.ad (b0 + 1))) K (e_Control (ct_k0 hb0)) (ct_l0 hb0) rfl 0 (by decide) rfl fw_X1_9 u_X1 dX1_firmsBefore_12 ?_
      refine g_iload_n K 1 dX1_firmsBefore_15 rfl rfl ?_
      obtain ⟨g2, h⟩ := og h
      refine g_iald K (ct_k1 hb0) (ct_l1 hb0) g2 dX1_firmsBefore_16 ?_
      refine g_iload K 4 dX1_firmsBefore_17 rfl ?_
      refine g_cni (As := [.int (σ.1 (b0 + 1) x1.toNatClampNeg), .int x4]) (rest := []) K (m_X6_has (σ.1 (b0 + 1) x1.toNatClampNeg) x4 σ) yv_X6_has ne_X1_31 rfl rfl rfl ⟨Nat.le_trans (Nat.le_of_ble_eq_true rfl) hR.1, Nat.le_trans (Nat.le_of_ble_eq_true rfl) hR.2⟩ (Nat.le_of_ble_eq_true rfl) dX1_firmsBefore_19 ?_
      refine g_if_eq (tgt := 45) K dX1_firmsBefore_22 (by decide) (fun c3 => ?_) (fun c3 => ?_)
      · replace h := bp c3 h
        refine g_iinc (lv' := [(4, .int (x4 + 1)), (0, .ref (X.ad b0)), (1, .int x1), (2, .int x2), (3, .int x3)]) K 4 dX1_firmsBefore_45 rfl (by rw [ic_1]) (by decide) rfl ?_
        refine g_goto (tgt := 5) K dX1_firmsBefore_48 (by decide) ?_
        refine g_sub [1, 2, 3, 4, 0] rfl ?_
        exact ih _ _ _ h hexit
      · replace h := bn c3 h
        refine g_aload_n K 0 dX1_firmsBefore_25 rfl rfl ?_
        refine g_get (v := .ref (X.ad (b0 + 2))) K (e_Control (ct_k0 hb0)) (ct_l0 hb0) rfl 1 (by decide) rfl fw_X1_17 u_X1 dX1_firmsBefore_26 ?_
        refine g_iload_n K 1 dX1_firmsBefore_29 rfl rfl ?_
        obtain ⟨g4, h⟩ := og h
        refine g_aaldI K (ct_k2 hb0) (ct_l2 hb0) g4 dX1_firmsBefore_30 ?_
        refine g_iload K 4 dX1_firmsBefore_31 rfl ?_
        obtain ⟨g5, h⟩ := og h
        refine g_iald K (ct_r2 hb0 g4) (ct_s2 hb0 g4) g5 dX1_firmsBefore_33 ?_
        refine g_iload_n K 2 dX1_firmsBefore_34 rfl rfl ?_
        refine g_icmp_ge (tgt := 45) K dX1_firmsBefore_35 (by decide) (fun c6 => ?_) (fun c6 => ?_)
        · replace h := bp c6 h
          refine g_iinc (lv' := [(4, .int (x4 + 1)), (0, .ref (X.ad b0)), (1, .int x1), (2, .int x2), (3, .int x3)]) K 4 dX1_firmsBefore_45 rfl (by rw [ic_1]) (by decide) rfl ?_
          refine g_goto (tgt := 5) K dX1_firmsBefore_48 (by decide) ?_
          refine g_sub [1, 2, 3, 4, 0] rfl ?_
          exact ih _ _ _ h hexit
        · replace h := bn c6 h
          refine g_iload_n K 3 dX1_firmsBefore_38 rfl rfl ?_
          refine g_iconst (v := 1) K dX1_firmsBefore_39 ic_1 ?_
          refine g_iload K 4 dX1_firmsBefore_40 rfl ?_
          refine g_ishl K dX1_firmsBefore_42 ?_
          refine g_ior K dX1_firmsBefore_43 ?_
          refine g_istore_n (lv' := [(3, .int (x3 ||| (1 <<< (x4 &&& 31)))), (0, .ref (X.ad b0)), (1, .int x1), (2, .int x2), (4, .int x4)]) K dX1_firmsBefore_44 rfl (by decide) rfl ?_
          refine g_iinc (lv' := [(4, .int (x4 + 1)), (3, .int (x3 ||| (1 <<< (x4 &&& 31)))), (0, .ref (X.ad b0)), (1, .int x1), (2, .int x2)]) K 4 dX1_firmsBefore_45 rfl (by rw [ic_1]) (by decide) rfl ?_
          refine g_goto (tgt := 5) K dX1_firmsBefore_48 (by decide) ?_
          refine g_sub [2, 3, 4, 1, 0] rfl ?_
          exact ih _ _ _ h hexit
def f_X1_firmsBefore (b0 : Nat) (x1 : Int32) (x2 : Int32) (σ : Sg) : Option Int32 :=
  Option.bind (L_X1_firmsBefore_5 b0 x1 x2 σ FU 0 0) (fun o1 =>
  some o1.1)
set_option maxRecDepth 20000 in
set_option maxHeartbeats 4000000 in
theorem w_X1_firmsBefore {X : Ctx} (K : Cok X cX1_firmsBefore 5 RX1) (hR : 1 ≤ X.R.frames ∧ 21 ≤ X.R.locals) {b0 : Nat} {x1 : Int32} {x2 : Int32} {σ : Sg} (hb0 : isCtrl b0) {r : Int32} (h : f_X1_firmsBefore b0 x1 x2 σ = some r) (hr : RI X cX1_firmsBefore 5 (r, σ)) : G X 5 0 [(0, .ref (X.ad b0)), (1, .int x1), (2, .int x2)] [] σ := by
  unfold f_X1_firmsBefore at h
  refine g_iconst (v := 0) K dX1_firmsBefore_0 ic_0 ?_
  refine g_istore_n (lv' := [(3, .int 0), (0, .ref (X.ad b0)), (1, .int x1), (2, .int x2)]) K dX1_firmsBefore_1 rfl (by decide) rfl ?_
  refine g_iconst (v := 0) K dX1_firmsBefore_2 ic_0 ?_
  refine g_istore (lv' := [(4, .int 0), (3, .int 0), (0, .ref (X.ad b0)), (1, .int x1), (2, .int x2)]) K dX1_firmsBefore_3 (by decide) rfl ?_
  obtain ⟨o1, e2, h⟩ := ob h
  refine g_sub [2, 3, 4, 1, 0] rfl ?_
  refine l_X1_firmsBefore_5 K hR hb0 _ _ _ _ e2 ?_
  refine g_iload_n K 3 dX1_firmsBefore_51 rfl rfl ?_
  exact hr _ _ _ _ dX1_firmsBefore_52 (rt1 h)
theorem m_X1_firmsBefore {b0 : Nat} {x1 : Int32} {x2 : Int32} {σ : Sg} (hb0 : isCtrl b0) {r : Int32} (h : f_X1_firmsBefore b0 x1 x2 σ = some r) : CI yX1_firmsBefore cX1_firmsBefore 5 (some .int) 1 21 (fun ad => [.ref (ad b0), .int x1, .int x2]) σ r σ :=
  CI.of (by decide) (fun _ => Nat.le_of_ble_eq_true rfl) (fun X K hR hr => w_X1_firmsBefore K hR hb0 h hr)
def L_X1_witnessOf_38 (x1 : Int32) (x2 : Int32) (b3 : Nat) (b4 : Nat) (x5 : Int32) (σ : Sg) : Nat → Int32 → Int32 → Option (Int32 × Int32)
  | 0, _, _ => none
  | n + 1, x6, x7 =>
    if x5 ≤ x7 then
    (some (x6, x7))
    else
    (jn (if (x7 &&& (x5 ^^^ (-1))) = 0 then (if (f_J6_bitCount_0f7a4 x6) ≤ (f_J6_bitCount_0f7a4 x7) then (0) else (1)) else (0) : Int32) (fun v5 =>
    if v5 = 0 then
    (L_X1_witnessOf_38 x1 x2 b3 b4 x5 σ n x6 (x7 + 1))
    else
    (Option.bind (f_X2_falls b3 x2 x1 x7 b4 σ) (fun r9 =>
    if r9 = 0 then
    (L_X1_witnessOf_38 x1 x2 b3 b4 x5 σ n x6 (x7 + 1))
    else
    (L_X1_witnessOf_38 x1 x2 b3 b4 x5 σ n x7 (x7 + 1))))))
set_option maxRecDepth 20000 in
set_option maxHeartbeats 4000000 in
theorem l_X1_witnessOf_38 {X : Ctx} (K : Cok X cX1_witnessOf 9 RX1) (hR : 2 ≤ X.R.frames ∧ 50 ≤ X.R.locals) {x1 : Int32} {x2 : Int32} {b3 : Nat} {b4 : Nat} {x5 : Int32} {σ : Sg} (hb3 : isHold b3) (hb4 : isBook b4) :
    ∀ (n : Nat) (x6 : Int32) (x7 : Int32) (o : (Int32 × Int32)), L_X1_witnessOf_38 x1 x2 b3 b4 x5 σ n x6 x7 = some o → G X 9 103 [(1, .int x1), (2, .int x2), (3, .ref (X.ad b3)), (4, .ref (X.ad b4)), (5, .int x5), (6, .int o.1), (7, .int o.2)] [] σ → G X 9 38 [(1, .int x1), (2, .int x2), (3, .ref (X.ad b3)), (4, .ref (X.ad b4)), (5, .int x5), (6, .int x6), (7, .int x7)] [] σ := by
  intro n
  induction n with
  | zero => intro x6 x7 o h; exact absurd h (by unfold L_X1_witnessOf_38; intro h; cases h)
  | succ n ih =>
    intro x6 x7 o h hexit
    unfold L_X1_witnessOf_38 at h
    refine g_iload K 6 dX1_witnessOf_38 rfl ?_
    refine g_iload K 4 dX1_witnessOf_40 rfl ?_
    refine g_icmp_ge (tgt := 103) K dX1_witnessOf_42 (by decide) (fun c1 => ?_) (fun c1 => ?_)
    · replace h := bp c1 h
      refine g_sub [0, 1, 2, 3, 4, 5, 6] rfl ?_
      obtain rfl := Option.some.inj h
      exact hexit
    · replace h := bn c1 h
      refine g_iload K 6 dX1_witnessOf_45 rfl ?_
      refine g_iload K 4 dX1_witnessOf_47 rfl ?_
      refine g_iconst (v := (-1)) K dX1_witnessOf_49 ic_m1 ?_
      refine g_ixor K dX1_witnessOf_50 ?_
      refine g_iand K dX1_witnessOf_51 ?_
      refine jn_cut h (P := (fun v5 => G X 9 73 [(1, .int x1), (2, .int x2), (3, .ref (X.ad b3)), (4, .ref (X.ad b4)), (5, .int x5), (6, .int x6), (7, .int x7)] [.int v5] σ)) (fun v5 h => ?_) (fun tail_4 => ?_)
      · refine g_istore (lv' := [(8, .int v5), (1, .int x1), (2, .int x2), (3, .ref (X.ad b3)), (4, .ref (X.ad b4)), (5, .int x5), (6, .int x6), (7, .int x7)]) K dX1_witnessOf_73 (by decide) rfl ?_
        refine g_iload K 0 dX1_witnessOf_75 rfl ?_
        refine g_if_eq (tgt := 97) K dX1_witnessOf_77 (by decide) (fun c8 => ?_) (fun c8 => ?_)
        · replace h := bp c8 h
          refine g_iinc (lv' := [(7, .int (x7 + 1)), (8, .int v5), (1, .int x1), (2, .int x2), (3, .ref (X.ad b3)), (4, .ref (X.ad b4)), (5, .int x5), (6, .int x6)]) K 7 dX1_witnessOf_97 rfl (by rw [ic_1]) (by decide) rfl ?_
          refine g_goto (tgt := 38) K dX1_witnessOf_100 (by decide) ?_
          refine g_sub [2, 3, 4, 5, 6, 7, 0] rfl ?_
          exact ih _ _ _ h hexit
        · replace h := bn c8 h
          refine g_aload_n K 3 dX1_witnessOf_80 rfl rfl ?_
          refine g_iload_n K 2 dX1_witnessOf_81 rfl rfl ?_
          refine g_iload_n K 1 dX1_witnessOf_82 rfl rfl ?_
          refine g_iload K 7 dX1_witnessOf_83 rfl ?_
          refine g_aload K 4 dX1_witnessOf_85 rfl ?_
          obtain ⟨r9, e10, h⟩ := ob h
          refine g_cvi (As := [.int x2, .int x1, .int x7, .ref (X.ad b4)]) (rest := []) K (m_X2_falls hb3 hb4 e10) yv_X2_falls ml_X1_35 rfl rfl rfl (e_Holdings (hd_k0 hb3)) (hd_l0 hb3) rfl rfl ⟨Nat.le_trans (Nat.le_of_ble_eq_true rfl) hR.1, Nat.le_trans (Nat.le_of_ble_eq_true rfl) hR.2⟩ (Nat.le_of_ble_eq_true rfl) dX1_witnessOf_87 ?_
          refine g_if_eq (tgt := 97) K dX1_witnessOf_90 (by decide) (fun c11 => ?_) (fun c11 => ?_)
          · replace h := bp c11 h
            refine g_iinc (lv' := [(7, .int (x7 + 1)), (8, .int v5), (1, .int x1), (2, .int x2), (3, .ref (X.ad b3)), (4, .ref (X.ad b4)), (5, .int x5), (6, .int x6)]) K 7 dX1_witnessOf_97 rfl (by rw [ic_1]) (by decide) rfl ?_
            refine g_goto (tgt := 38) K dX1_witnessOf_100 (by decide) ?_
            refine g_sub [2, 3, 4, 5, 6, 7, 0] rfl ?_
            exact ih _ _ _ h hexit
          · replace h := bn c11 h
            refine g_iload K 7 dX1_witnessOf_93 rfl ?_
            refine g_istore (lv' := [(6, .int x7), (8, .int v5), (1, .int x1), (2, .int x2), (3, .ref (X.ad b3)), (4, .ref (X.ad b4)), (5, .int x5), (7, .int x7)]) K dX1_witnessOf_95 (by decide) rfl ?_
            refine g_iinc (lv' := [(7, .int (x7 + 1)), (6, .int x7), (8, .int v5), (1, .int x1), (2, .int x2), (3, .ref (X.ad b3)), (4, .ref (X.ad b4)), (5, .int x5)]) K 7 dX1_witnessOf_97 rfl (by rw [ic_1]) (by decide) rfl ?_
            refine g_goto (tgt := 38) K dX1_witnessOf_100 (by decide) ?_
            refine g_sub [3, 4, 5, 6, 7, 1, 0] rfl ?_
            exact ih _ _ _ h hexit
      · refine g_if_ne (tgt := 72) K dX1_witnessOf_52 (by decide) (fun c6 => ?_) (fun c6 => ?_)
        · replace h := jpn c6 h
          refine g_iconst (v := 0) K dX1_witnessOf_72 ic_0 ?_
          exact tail_4 _ h
        · replace h := jpp c6 h
          refine g_iload K 6 dX1_witnessOf_55 rfl ?_
          refine g_csi (As := [.int x7]) (rest := []) K (m_J6_bitCount_0f7a4 x7 σ) yv_J6_bitCount_0f7a4 ml_X1_45 rfl rfl rfl ⟨Nat.le_trans (Nat.le_of_ble_eq_true rfl) hR.1, Nat.le_trans (Nat.le_of_ble_eq_true rfl) hR.2⟩ (Nat.le_of_ble_eq_true rfl) dX1_witnessOf_57 ?_
          refine g_iload K 5 dX1_witnessOf_60 rfl ?_
          refine g_csi (As := [.int x6]) (rest := [.int (f_J6_bitCount_0f7a4 x7)]) K (m_J6_bitCount_0f7a4 x6 σ) yv_J6_bitCount_0f7a4 ml_X1_45 rfl rfl rfl ⟨Nat.le_trans (Nat.le_of_ble_eq_true rfl) hR.1, Nat.le_trans (Nat.le_of_ble_eq_true rfl) hR.2⟩ (Nat.le_of_ble_eq_true rfl) dX1_witnessOf_62 ?_
          refine g_icmp_ge (tgt := 72) K dX1_witnessOf_65 (by decide) (fun c7 => ?_) (fun c7 => ?_)
          · replace h := jpp c7 h
            refine g_iconst (v := 0) K dX1_witnessOf_72 ic_0 ?_
            exact tail_4 _ h
          · replace h := jpn c7 h
            refine g_iconst (v := 1) K dX1_witnessOf_68 ic_1 ?_
            refine g_goto (tgt := 73) K dX1_witnessOf_69 (by decide) ?_
            exact tail_4 _ h
def f_X1_witnessOf (b0 : Nat) (x1 : Int32) (x2 : Int32) (b3 : Nat) (b4 : Nat) (σ : Sg) : Option Int32 :=
  if inb x1 9 then
  (if (f_X6_has (σ.1 (b0 + 1) x1.toNatClampNeg) x2) = 0 then
  (some (-6))
  else
  (if inb x1 9 then
  (if inb x2 5 then
  (Option.bind (f_X1_firmsBefore b0 x1 (σ.1 ((b0 + 2) + 1 + x1.toNatClampNeg) x2.toNatClampNeg) σ) (fun r5 =>
  Option.bind (L_X1_witnessOf_38 x1 x2 b3 b4 r5 σ FU r5 0) (fun o7 =>
  some o7.1)))
  else none)
  else none))
  else none
set_option maxRecDepth 20000 in
set_option maxHeartbeats 4000000 in
theorem w_X1_witnessOf {X : Ctx} (K : Cok X cX1_witnessOf 9 RX1) (hR : 2 ≤ X.R.frames ∧ 50 ≤ X.R.locals) {b0 : Nat} {x1 : Int32} {x2 : Int32} {b3 : Nat} {b4 : Nat} {σ : Sg} (hb0 : isCtrl b0) (hb3 : isHold b3) (hb4 : isBook b4) {r : Int32} (h : f_X1_witnessOf b0 x1 x2 b3 b4 σ = some r) (hr : RI X cX1_witnessOf 9 (r, σ)) : G X 9 0 [(0, .ref (X.ad b0)), (1, .int x1), (2, .int x2), (3, .ref (X.ad b3)), (4, .ref (X.ad b4))] [] σ := by
  unfold f_X1_witnessOf at h
  refine g_aload_n K 0 dX1_witnessOf_0 rfl rfl ?_
  refine g_get (v := .ref (X.ad (b0 + 1))) K (e_Control (ct_k0 hb0)) (ct_l0 hb0) rfl 0 (by decide) rfl fw_X1_9 u_X1 dX1_witnessOf_1 ?_
  refine g_iload_n K 1 dX1_witnessOf_4 rfl rfl ?_
  obtain ⟨g1, h⟩ := og h
  refine g_iald K (ct_k1 hb0) (ct_l1 hb0) g1 dX1_witnessOf_5 ?_
  refine g_iload_n K 2 dX1_witnessOf_6 rfl rfl ?_
  refine g_cni (As := [.int (σ.1 (b0 + 1) x1.toNatClampNeg), .int x2]) (rest := []) K (m_X6_has (σ.1 (b0 + 1) x1.toNatClampNeg) x2 σ) yv_X6_has ne_X1_31 rfl rfl rfl ⟨Nat.le_trans (Nat.le_of_ble_eq_true rfl) hR.1, Nat.le_trans (Nat.le_of_ble_eq_true rfl) hR.2⟩ (Nat.le_of_ble_eq_true rfl) dX1_witnessOf_7 ?_
  refine g_if_ne (tgt := 16) K dX1_witnessOf_10 (by decide) (fun c2 => ?_) (fun c2 => ?_)
  · replace h := bn c2 h
    refine g_aload_n K 0 dX1_witnessOf_16 rfl rfl ?_
    refine g_iload_n K 1 dX1_witnessOf_17 rfl rfl ?_
    refine g_aload_n K 0 dX1_witnessOf_18 rfl rfl ?_
    refine g_get (v := .ref (X.ad (b0 + 2))) K (e_Control (ct_k0 hb0)) (ct_l0 hb0) rfl 1 (by decide) rfl fw_X1_17 u_X1 dX1_witnessOf_19 ?_
    refine g_iload_n K 1 dX1_witnessOf_22 rfl rfl ?_
    obtain ⟨g3, h⟩ := og h
    refine g_aaldI K (ct_k2 hb0) (ct_l2 hb0) g3 dX1_witnessOf_23 ?_
    refine g_iload_n K 2 dX1_witnessOf_24 rfl rfl ?_
    obtain ⟨g4, h⟩ := og h
    refine g_iald K (ct_r2 hb0 g3) (ct_s2 hb0 g3) g4 dX1_witnessOf_25 ?_
    obtain ⟨r5, e6, h⟩ := ob h
    refine g_cvi (As := [.int x1, .int (σ.1 ((b0 + 2) + 1 + x1.toNatClampNeg) x2.toNatClampNeg)]) (rest := []) K (m_X1_firmsBefore hb0 e6) yv_X1_firmsBefore ml_X1_41 rfl rfl rfl (e_Control (ct_k0 hb0)) (ct_l0 hb0) rfl rfl ⟨Nat.le_trans (Nat.le_of_ble_eq_true rfl) hR.1, Nat.le_trans (Nat.le_of_ble_eq_true rfl) hR.2⟩ (Nat.le_of_ble_eq_true rfl) dX1_witnessOf_26 ?_
    refine g_istore (lv' := [(5, .int r5), (0, .ref (X.ad b0)), (1, .int x1), (2, .int x2), (3, .ref (X.ad b3)), (4, .ref (X.ad b4))]) K dX1_witnessOf_29 (by decide) rfl ?_
    refine g_iload K 0 dX1_witnessOf_31 rfl ?_
    refine g_istore (lv' := [(6, .int r5), (5, .int r5), (0, .ref (X.ad b0)), (1, .int x1), (2, .int x2), (3, .ref (X.ad b3)), (4, .ref (X.ad b4))]) K dX1_witnessOf_33 (by decide) rfl ?_
    refine g_iconst (v := 0) K dX1_witnessOf_35 ic_0 ?_
    refine g_istore (lv' := [(7, .int 0), (6, .int r5), (5, .int r5), (0, .ref (X.ad b0)), (1, .int x1), (2, .int x2), (3, .ref (X.ad b3)), (4, .ref (X.ad b4))]) K dX1_witnessOf_36 (by decide) rfl ?_
    obtain ⟨o7, e8, h⟩ := ob h
    refine g_sub [4, 5, 6, 7, 2, 1, 0] rfl ?_
    refine l_X1_witnessOf_38 K hR hb3 hb4 _ _ _ _ e8 ?_
    refine g_iload K 5 dX1_witnessOf_103 rfl ?_
    exact hr _ _ _ _ dX1_witnessOf_105 (rt1 h)
  · replace h := bp c2 h
    refine g_bipush (v := (-6)) K dX1_witnessOf_13 bp_m6 ?_
    exact hr _ _ _ _ dX1_witnessOf_15 (rt1 h)
theorem m_X1_witnessOf {b0 : Nat} {x1 : Int32} {x2 : Int32} {b3 : Nat} {b4 : Nat} {σ : Sg} (hb0 : isCtrl b0) (hb3 : isHold b3) (hb4 : isBook b4) {r : Int32} (h : f_X1_witnessOf b0 x1 x2 b3 b4 σ = some r) : CI yX1_witnessOf cX1_witnessOf 9 (some .int) 2 50 (fun ad => [.ref (ad b0), .int x1, .int x2, .ref (ad b3), .ref (ad b4)]) σ r σ :=
  CI.of (by decide) (fun _ => Nat.le_of_ble_eq_true rfl) (fun X K hR hr => w_X1_witnessOf K hR hb0 hb3 hb4 h hr)
def L_X1_chainOf_31 (b0 : Nat) (x1 : Int32) (b3 : Nat) (b4 : Nat) (x6 : Int32) (σ : Sg) : Nat → Int32 → Int32 → Option (Int32 × Int32)
  | 0, _, _ => none
  | n + 1, x5, x7 =>
    if 5 ≤ x7 then
    (some (x5, x7))
    else
    (if (f_X6_has x5 x7) = 0 then
    (L_X1_chainOf_31 b0 x1 b3 b4 x6 σ n x5 (x7 + 1))
    else
    (if inb x1 9 then
    (if inb x7 5 then
    (if (σ.1 ((b0 + 2) + 1 + x1.toNatClampNeg) x7.toNatClampNeg) = x6 then
    (Option.bind (f_X1_witnessOf b0 x1 x7 b3 b4 σ) (fun r6 =>
    L_X1_chainOf_31 b0 x1 b3 b4 x6 σ n (x5 ||| r6) (x7 + 1)))
    else
    (L_X1_chainOf_31 b0 x1 b3 b4 x6 σ n x5 (x7 + 1)))
    else none)
    else none))
set_option maxRecDepth 20000 in
set_option maxHeartbeats 4000000 in
theorem l_X1_chainOf_31 {X : Ctx} (K : Cok X cX1_chainOf 8 RX1) (hR : 3 ≤ X.R.frames ∧ 78 ≤ X.R.locals) {b0 : Nat} {x1 : Int32} {b3 : Nat} {b4 : Nat} {x6 : Int32} {σ : Sg} (hb0 : isCtrl b0) (hb3 : isHold b3) (hb4 : isBook b4) :
    ∀ (n : Nat) (x5 : Int32) (x7 : Int32) (o : (Int32 × Int32)), L_X1_chainOf_31 b0 x1 b3 b4 x6 σ n x5 x7 = some o → G X 8 82 [(0, .ref (X.ad b0)), (1, .int x1), (3, .ref (X.ad b3)), (4, .ref (X.ad b4)), (5, .int o.1), (6, .int x6), (7, .int o.2)] [] σ → G X 8 31 [(0, .ref (X.ad b0)), (1, .int x1), (3, .ref (X.ad b3)), (4, .ref (X.ad b4)), (5, .int x5), (6, .int x6), (7, .int x7)] [] σ := by
  intro n
  induction n with
  | zero => intro x5 x7 o h; exact absurd h (by unfold L_X1_chainOf_31; intro h; cases h)
  | succ n ih =>
    intro x5 x7 o h hexit
    unfold L_X1_chainOf_31 at h
    refine g_iload K 6 dX1_chainOf_31 rfl ?_
    refine g_iconst (v := 5) K dX1_chainOf_33 ic_5 ?_
    refine g_icmp_ge (tgt := 82) K dX1_chainOf_34 (by decide) (fun c1 => ?_) (fun c1 => ?_)
    · replace h := bp c1 h
      refine g_sub [0, 1, 2, 3, 4, 5, 6] rfl ?_
      obtain rfl := Option.some.inj h
      exact hexit
    · replace h := bn c1 h
      refine g_iload K 4 dX1_chainOf_37 rfl ?_
      refine g_iload K 6 dX1_chainOf_39 rfl ?_
      refine g_cni (As := [.int x5, .int x7]) (rest := []) K (m_X6_has x5 x7 σ) yv_X6_has ne_X1_31 rfl rfl rfl ⟨Nat.le_trans (Nat.le_of_ble_eq_true rfl) hR.1, Nat.le_trans (Nat.le_of_ble_eq_true rfl) hR.2⟩ (Nat.le_of_ble_eq_true rfl) dX1_chainOf_41 ?_
      refine g_if_eq (tgt := 76) K dX1_chainOf_44 (by decide) (fun c2 => ?_) (fun c2 => ?_)
      · replace h := bp c2 h
        refine g_iinc (lv' := [(7, .int (x7 + 1)), (0, .ref (X.ad b0)), (1, .int x1), (3, .ref (X.ad b3)), (4, .ref (X.ad b4)), (5, .int x5), (6, .int x6)]) K 6 dX1_chainOf_76 rfl (by rw [ic_1]) (by decide) rfl ?_
        refine g_goto (tgt := 31) K dX1_chainOf_79 (by decide) ?_
        refine g_sub [1, 2, 3, 4, 5, 6, 0] rfl ?_
        exact ih _ _ _ h hexit
      · replace h := bn c2 h
        refine g_aload_n K 0 dX1_chainOf_47 rfl rfl ?_
        refine g_get (v := .ref (X.ad (b0 + 2))) K (e_Control (ct_k0 hb0)) (ct_l0 hb0) rfl 1 (by decide) rfl fw_X1_17 u_X1 dX1_chainOf_48 ?_
        refine g_iload_n K 1 dX1_chainOf_51 rfl rfl ?_
        obtain ⟨g3, h⟩ := og h
        refine g_aaldI K (ct_k2 hb0) (ct_l2 hb0) g3 dX1_chainOf_52 ?_
        refine g_iload K 6 dX1_chainOf_53 rfl ?_
        obtain ⟨g4, h⟩ := og h
        refine g_iald K (ct_r2 hb0 g3) (ct_s2 hb0 g3) g4 dX1_chainOf_55 ?_
        refine g_iload K 5 dX1_chainOf_56 rfl ?_
        refine g_icmp_ne (tgt := 76) K dX1_chainOf_58 (by decide) (fun c5 => ?_) (fun c5 => ?_)
        · replace h := bn c5 h
          refine g_iinc (lv' := [(7, .int (x7 + 1)), (0, .ref (X.ad b0)), (1, .int x1), (3, .ref (X.ad b3)), (4, .ref (X.ad b4)), (5, .int x5), (6, .int x6)]) K 6 dX1_chainOf_76 rfl (by rw [ic_1]) (by decide) rfl ?_
          refine g_goto (tgt := 31) K dX1_chainOf_79 (by decide) ?_
          refine g_sub [1, 2, 3, 4, 5, 6, 0] rfl ?_
          exact ih _ _ _ h hexit
        · replace h := bp c5 h
          refine g_iload K 4 dX1_chainOf_61 rfl ?_
          refine g_aload_n K 0 dX1_chainOf_63 rfl rfl ?_
          refine g_iload_n K 1 dX1_chainOf_64 rfl rfl ?_
          refine g_iload K 6 dX1_chainOf_65 rfl ?_
          refine g_aload_n K 2 dX1_chainOf_67 rfl rfl ?_
          refine g_aload K 3 dX1_chainOf_68 rfl ?_
          obtain ⟨r6, e7, h⟩ := ob h
          refine g_cvi (As := [.int x1, .int x7, .ref (X.ad b3), .ref (X.ad b4)]) (rest := [.int x5]) K (m_X1_witnessOf hb0 hb3 hb4 e7) yv_X1_witnessOf ml_X1_51 rfl rfl rfl (e_Control (ct_k0 hb0)) (ct_l0 hb0) rfl rfl ⟨Nat.le_trans (Nat.le_of_ble_eq_true rfl) hR.1, Nat.le_trans (Nat.le_of_ble_eq_true rfl) hR.2⟩ (Nat.le_of_ble_eq_true rfl) dX1_chainOf_70 ?_
          refine g_ior K dX1_chainOf_73 ?_
          refine g_istore (lv' := [(5, .int (x5 ||| r6)), (0, .ref (X.ad b0)), (1, .int x1), (3, .ref (X.ad b3)), (4, .ref (X.ad b4)), (6, .int x6), (7, .int x7)]) K dX1_chainOf_74 (by decide) rfl ?_
          refine g_iinc (lv' := [(7, .int (x7 + 1)), (5, .int (x5 ||| r6)), (0, .ref (X.ad b0)), (1, .int x1), (3, .ref (X.ad b3)), (4, .ref (X.ad b4)), (6, .int x6)]) K 6 dX1_chainOf_76 rfl (by rw [ic_1]) (by decide) rfl ?_
          refine g_goto (tgt := 31) K dX1_chainOf_79 (by decide) ?_
          refine g_sub [2, 3, 4, 5, 1, 6, 0] rfl ?_
          exact ih _ _ _ h hexit
def L_X1_chainOf_23 (b0 : Nat) (x1 : Int32) (b3 : Nat) (b4 : Nat) (σ : Sg) : Nat → Int32 → Int32 → Option (Int32 × Int32)
  | 0, _, _ => none
  | n + 1, x5, x6 =>
    if x6 ≤ 0 then
    (some (x5, x6))
    else
    (Option.bind (L_X1_chainOf_31 b0 x1 b3 b4 x6 σ FU x5 0) (fun o2 =>
    L_X1_chainOf_23 b0 x1 b3 b4 σ n o2.1 (x6 + (-1))))
set_option maxRecDepth 20000 in
set_option maxHeartbeats 4000000 in
theorem l_X1_chainOf_23 {X : Ctx} (K : Cok X cX1_chainOf 8 RX1) (hR : 3 ≤ X.R.frames ∧ 78 ≤ X.R.locals) {b0 : Nat} {x1 : Int32} {b3 : Nat} {b4 : Nat} {σ : Sg} (hb0 : isCtrl b0) (hb3 : isHold b3) (hb4 : isBook b4) :
    ∀ (n : Nat) (x5 : Int32) (x6 : Int32) (o : (Int32 × Int32)), L_X1_chainOf_23 b0 x1 b3 b4 σ n x5 x6 = some o → G X 8 88 [(0, .ref (X.ad b0)), (1, .int x1), (3, .ref (X.ad b3)), (4, .ref (X.ad b4)), (5, .int o.1), (6, .int o.2)] [] σ → G X 8 23 [(0, .ref (X.ad b0)), (1, .int x1), (3, .ref (X.ad b3)), (4, .ref (X.ad b4)), (5, .int x5), (6, .int x6)] [] σ := by
  intro n
  induction n with
  | zero => intro x5 x6 o h; exact absurd h (by unfold L_X1_chainOf_23; intro h; cases h)
  | succ n ih =>
    intro x5 x6 o h hexit
    unfold L_X1_chainOf_23 at h
    refine g_iload K 5 dX1_chainOf_23 rfl ?_
    refine g_if_le (tgt := 88) K dX1_chainOf_25 (by decide) (fun c1 => ?_) (fun c1 => ?_)
    · replace h := bp c1 h
      refine g_sub [0, 1, 2, 3, 4, 5] rfl ?_
      obtain rfl := Option.some.inj h
      exact hexit
    · replace h := bn c1 h
      refine g_iconst (v := 0) K dX1_chainOf_28 ic_0 ?_
      refine g_istore (lv' := [(7, .int 0), (0, .ref (X.ad b0)), (1, .int x1), (3, .ref (X.ad b3)), (4, .ref (X.ad b4)), (5, .int x5), (6, .int x6)]) K dX1_chainOf_29 (by decide) rfl ?_
      obtain ⟨o2, e3, h⟩ := ob h
      refine g_sub [1, 2, 3, 4, 5, 6, 0] rfl ?_
      refine l_X1_chainOf_31 K hR hb0 hb3 hb4 _ _ _ _ e3 ?_
      refine g_iinc (lv' := [(6, .int (x6 + (-1))), (0, .ref (X.ad b0)), (1, .int x1), (3, .ref (X.ad b3)), (4, .ref (X.ad b4)), (5, .int o2.1), (7, .int o2.2)]) K 5 dX1_chainOf_82 rfl (by rw [ic_m1]) (by decide) rfl ?_
      refine g_goto (tgt := 23) K dX1_chainOf_85 (by decide) ?_
      refine g_sub [1, 2, 3, 4, 5, 0] rfl ?_
      exact ih _ _ _ h hexit
def f_X1_chainOf (b0 : Nat) (x1 : Int32) (x2 : Int32) (b3 : Nat) (b4 : Nat) (σ : Sg) : Option Int32 :=
  Option.bind (f_X1_witnessOf b0 x1 x2 b3 b4 σ) (fun r1 =>
  if inb x1 9 then
  (if inb x2 5 then
  (Option.bind (L_X1_chainOf_23 b0 x1 b3 b4 σ FU r1 ((σ.1 ((b0 + 2) + 1 + x1.toNatClampNeg) x2.toNatClampNeg) - 1)) (fun o5 =>
  some o5.1))
  else none)
  else none)
set_option maxRecDepth 20000 in
set_option maxHeartbeats 4000000 in
theorem w_X1_chainOf {X : Ctx} (K : Cok X cX1_chainOf 8 RX1) (hR : 3 ≤ X.R.frames ∧ 78 ≤ X.R.locals) {b0 : Nat} {x1 : Int32} {x2 : Int32} {b3 : Nat} {b4 : Nat} {σ : Sg} (hb0 : isCtrl b0) (hb3 : isHold b3) (hb4 : isBook b4) {r : Int32} (h : f_X1_chainOf b0 x1 x2 b3 b4 σ = some r) (hr : RI X cX1_chainOf 8 (r, σ)) : G X 8 0 [(0, .ref (X.ad b0)), (1, .int x1), (2, .int x2), (3, .ref (X.ad b3)), (4, .ref (X.ad b4))] [] σ := by
  unfold f_X1_chainOf at h
  refine g_aload_n K 0 dX1_chainOf_0 rfl rfl ?_
  refine g_iload_n K 1 dX1_chainOf_1 rfl rfl ?_
  refine g_iload_n K 2 dX1_chainOf_2 rfl rfl ?_
  refine g_aload_n K 3 dX1_chainOf_3 rfl rfl ?_
  refine g_aload K 4 dX1_chainOf_4 rfl ?_
  obtain ⟨r1, e2, h⟩ := ob h
  refine g_cvi (As := [.int x1, .int x2, .ref (X.ad b3), .ref (X.ad b4)]) (rest := []) K (m_X1_witnessOf hb0 hb3 hb4 e2) yv_X1_witnessOf ml_X1_51 rfl rfl rfl (e_Control (ct_k0 hb0)) (ct_l0 hb0) rfl rfl ⟨Nat.le_trans (Nat.le_of_ble_eq_true rfl) hR.1, Nat.le_trans (Nat.le_of_ble_eq_true rfl) hR.2⟩ (Nat.le_of_ble_eq_true rfl) dX1_chainOf_6 ?_
  refine g_istore (lv' := [(5, .int r1), (0, .ref (X.ad b0)), (1, .int x1), (2, .int x2), (3, .ref (X.ad b3)), (4, .ref (X.ad b4))]) K dX1_chainOf_9 (by decide) rfl ?_
  refine g_aload_n K 1 dX1_chainOf_11 rfl rfl ?_
  refine g_get (v := .ref (X.ad (b0 + 2))) K (e_Control (ct_k0 hb0)) (ct_l0 hb0) rfl 1 (by decide) rfl fw_X1_17 u_X1 dX1_chainOf_12 ?_
  refine g_iload_n K 2 dX1_chainOf_15 rfl rfl ?_
  obtain ⟨g3, h⟩ := og h
  refine g_aaldI K (ct_k2 hb0) (ct_l2 hb0) g3 dX1_chainOf_16 ?_
  refine g_iload_n K 3 dX1_chainOf_17 rfl rfl ?_
  obtain ⟨g4, h⟩ := og h
  refine g_iald K (ct_r2 hb0 g3) (ct_s2 hb0 g3) g4 dX1_chainOf_18 ?_
  refine g_iconst (v := 1) K dX1_chainOf_19 ic_1 ?_
  refine g_isub K dX1_chainOf_20 ?_
  refine g_istore (lv' := [(6, .int ((σ.1 ((b0 + 2) + 1 + x1.toNatClampNeg) x2.toNatClampNeg) - 1)), (5, .int r1), (0, .ref (X.ad b0)), (1, .int x1), (2, .int x2), (3, .ref (X.ad b3)), (4, .ref (X.ad b4))]) K dX1_chainOf_21 (by decide) rfl ?_
  obtain ⟨o5, e6, h⟩ := ob h
  refine g_sub [2, 3, 5, 6, 1, 0] rfl ?_
  refine l_X1_chainOf_23 K hR hb0 hb3 hb4 _ _ _ _ e6 ?_
  refine g_iload K 4 dX1_chainOf_88 rfl ?_
  exact hr _ _ _ _ dX1_chainOf_90 (rt1 h)
theorem m_X1_chainOf {b0 : Nat} {x1 : Int32} {x2 : Int32} {b3 : Nat} {b4 : Nat} {σ : Sg} (hb0 : isCtrl b0) (hb3 : isHold b3) (hb4 : isBook b4) {r : Int32} (h : f_X1_chainOf b0 x1 x2 b3 b4 σ = some r) : CI yX1_chainOf cX1_chainOf 8 (some .int) 3 78 (fun ad => [.ref (ad b0), .int x1, .int x2, .ref (ad b3), .ref (ad b4)]) σ r σ :=
  CI.of (by decide) (fun _ => Nat.le_of_ble_eq_true rfl) (fun X K hR hr => w_X1_chainOf K hR hb0 hb3 hb4 h hr)
def L_X1_thoseOver_6 (b0 : Nat) (x1 : Int32) (x2 : Int32) (x3 : Int32) (σ : Sg) : Nat → Int32 → Int32 → Option (Int32 × Int32)
  | 0, _, _ => none
  | n + 1, x4, x5 =>
    if x3 ≤ x5 then
    (some (x4, x5))
    else
    (if inb (x2 + x5) 9 then
    (if (f_X6_has (σ.1 (b0 + 1) (x2 + x5).toNatClampNeg) x1) = 0 then
    (L_X1_thoseOver_6 b0 x1 x2 x3 σ n x4 (x5 + 1))
    else
    (L_X1_thoseOver_6 b0 x1 x2 x3 σ n (x4 ||| (1 <<< (x5 &&& 31))) (x5 + 1)))
    else none)
set_option maxRecDepth 20000 in
set_option maxHeartbeats 4000000 in
theorem l_X1_thoseOver_6 {X : Ctx} (K : Cok X cX1_thoseOver 6 RX1) (hR : 1 ≤ X.R.frames ∧ 21 ≤ X.R.locals) {b0 : Nat} {x1 : Int32} {x2 : Int32} {x3 : Int32} {σ : Sg} (hb0 : isCtrl b0) :
    ∀ (n : Nat) (x4 : Int32) (x5 : Int32) (o : (Int32 × Int32)), L_X1_thoseOver_6 b0 x1 x2 x3 σ n x4 x5 = some o → G X 6 43 [(0, .ref (X.ad b0)), (1, .int x1), (2, .int x2), (3, .int x3), (4, .int o.1), (5, .int o.2)] [] σ → G X 6 6 [(0, .ref (X.ad b0)), (1, .int x1), (2, .int x2), (3, .int x3), (4, .int x4), (5, .int x5)] [] σ := by
  intro n
  induction n with
  | zero => intro x4 x5 o h; exact absurd h (by unfold L_X1_thoseOver_6; intro h; cases h)
  | succ n ih =>
    intro x4 x5 o h hexit
    unfold L_X1_thoseOver_6 at h
    refine g_iload K 5 dX1_thoseOver_6 rfl ?_
    refine g_iload_n K 3 dX1_thoseOver_8 rfl rfl ?_
    refine g_icmp_ge (tgt := 43) K dX1_thoseOver_9 (by decide) (fun c1 => ?_) (fun c1 => ?_)
    · replace h := bp c1 h
      refine g_sub [0, 1, 2, 3, 4, 5] rfl ?_
      obtain rfl := Option.some.inj h
      exact hexit
    · replace h := bn c1 h
      refine g_aload_n K 0 dX1_thoseOver_12 rfl rfl ?_
      refine g_get (v := .ref (X.ad (b0 + 1))) K (e_Control (ct_k0 hb0)) (ct_l0 hb0) rfl 0 (by decide) rfl fw_X1_9 u_X1 dX1_thoseOver_13 ?_
      refine g_iload_n K 2 dX1_thoseOver_16 rfl rfl ?_
      refine g_iload K 5 dX1_thoseOver_17 rfl ?_
      refine g_iadd K dX1_thoseOver_19 ?_
      obtain ⟨g2, h⟩ := og h
      refine g_iald K (ct_k1 hb0) (ct_l1 hb0) g2 dX1_thoseOver_20 ?_
      refine g_iload_n K 1 dX1_thoseOver_21 rfl rfl ?_
      refine g_cni (As := [.int (σ.1 (b0 + 1) (x2 + x5).toNatClampNeg), .int x1]) (rest := []) K (m_X6_has (σ.1 (b0 + 1) (x2 + x5).toNatClampNeg) x1 σ) yv_X6_has ne_X1_31 rfl rfl rfl ⟨Nat.le_trans (Nat.le_of_ble_eq_true rfl) hR.1, Nat.le_trans (Nat.le_of_ble_eq_true rfl) hR.2⟩ (Nat.le_of_ble_eq_true rfl) dX1_thoseOver_22 ?_
      refine g_if_eq (tgt := 37) K dX1_thoseOver_25 (by decide) (fun c3 => ?_) (fun c3 => ?_)
      · replace h := bp c3 h
        refine g_iinc (lv' := [(5, .int (x5 + 1)), (0, .ref (X.ad b0)), (1, .int x1), (2, .int x2), (3, .int x3), (4, .int x4)]) K 5 dX1_thoseOver_37 rfl (by rw [ic_1]) (by decide) rfl ?_
        refine g_goto (tgt := 6) K dX1_thoseOver_40 (by decide) ?_
        refine g_sub [1, 2, 3, 4, 5, 0] rfl ?_
        exact ih _ _ _ h hexit
      · replace h := bn c3 h
        refine g_iload K 4 dX1_thoseOver_28 rfl ?_
        refine g_iconst (v := 1) K dX1_thoseOver_30 ic_1 ?_
        refine g_iload K 5 dX1_thoseOver_31 rfl ?_
        refine g_ishl K dX1_thoseOver_33 ?_
        refine g_ior K dX1_thoseOver_34 ?_
        refine g_istore (lv' := [(4, .int (x4 ||| (1 <<< (x5 &&& 31)))), (0, .ref (X.ad b0)), (1, .int x1), (2, .int x2), (3, .int x3), (5, .int x5)]) K dX1_thoseOver_35 (by decide) rfl ?_
        refine g_iinc (lv' := [(5, .int (x5 + 1)), (4, .int (x4 ||| (1 <<< (x5 &&& 31)))), (0, .ref (X.ad b0)), (1, .int x1), (2, .int x2), (3, .int x3)]) K 5 dX1_thoseOver_37 rfl (by rw [ic_1]) (by decide) rfl ?_
        refine g_goto (tgt := 6) K dX1_thoseOver_40 (by decide) ?_
        refine g_sub [2, 3, 4, 5, 1, 0] rfl ?_
        exact ih _ _ _ h hexit
def f_X1_thoseOver (b0 : Nat) (x1 : Int32) (x2 : Int32) (x3 : Int32) (σ : Sg) : Option Int32 :=
  Option.bind (L_X1_thoseOver_6 b0 x1 x2 x3 σ FU 0 0) (fun o1 =>
  some o1.1)
set_option maxRecDepth 20000 in
set_option maxHeartbeats 4000000 in
theorem w_X1_thoseOver {X : Ctx} (K : Cok X cX1_thoseOver 6 RX1) (hR : 1 ≤ X.R.frames ∧ 21 ≤ X.R.locals) {b0 : Nat} {x1 : Int32} {x2 : Int32} {x3 : Int32} {σ : Sg} (hb0 : isCtrl b0) {r : Int32} (h : f_X1_thoseOver b0 x1 x2 x3 σ = some r) (hr : RI X cX1_thoseOver 6 (r, σ)) : G X 6 0 [(0, .ref (X.ad b0)), (1, .int x1), (2, .int x2), (3, .int x3)] [] σ := by
  unfold f_X1_thoseOver at h
  refine g_iconst (v := 0) K dX1_thoseOver_0 ic_0 ?_
  refine g_istore (lv' := [(4, .int 0), (0, .ref (X.ad b0)), (1, .int x1), (2, .int x2), (3, .int x3)]) K dX1_thoseOver_1 (by decide) rfl ?_
  refine g_iconst (v := 0) K dX1_thoseOver_3 ic_0 ?_
  refine g_istore (lv' := [(5, .int 0), (4, .int 0), (0, .ref (X.ad b0)), (1, .int x1), (2, .int x2), (3, .int x3)]) K dX1_thoseOver_4 (by decide) rfl ?_
  obtain ⟨o1, e2, h⟩ := ob h
  refine g_sub [2, 3, 4, 5, 1, 0] rfl ?_
  refine l_X1_thoseOver_6 K hR hb0 _ _ _ _ e2 ?_
  refine g_iload K 4 dX1_thoseOver_43 rfl ?_
  exact hr _ _ _ _ dX1_thoseOver_45 (rt1 h)
theorem m_X1_thoseOver {b0 : Nat} {x1 : Int32} {x2 : Int32} {x3 : Int32} {σ : Sg} (hb0 : isCtrl b0) {r : Int32} (h : f_X1_thoseOver b0 x1 x2 x3 σ = some r) : CI yX1_thoseOver cX1_thoseOver 6 (some .int) 1 21 (fun ad => [.ref (ad b0), .int x1, .int x2, .int x3]) σ r σ :=
  CI.of (by decide) (fun _ => Nat.le_of_ble_eq_true rfl) (fun X K hR hr => w_X1_thoseOver K hR hb0 h hr)
def L_X1_mostRounds_4 (b0 : Nat) (σ : Sg) : Nat → Int32 → Int32 → Option (Int32 × Int32)
  | 0, _, _ => none
  | n + 1, x1, x2 =>
    if 9 ≤ x2 then
    (some (x1, x2))
    else
    (if inb x2 9 then
    (L_X1_mostRounds_4 b0 σ n (f_max x1 (σ.1 (b0 + 12) x2.toNatClampNeg)) (x2 + 1))
    else none)
set_option maxRecDepth 20000 in
set_option maxHeartbeats 4000000 in
theorem l_X1_mostRounds_4 {X : Ctx} (K : Cok X cX1_mostRounds 3 RX1) (hR : 1 ≤ X.R.frames ∧ 21 ≤ X.R.locals) {b0 : Nat} {σ : Sg} (hb0 : isCtrl b0) :
    ∀ (n : Nat) (x1 : Int32) (x2 : Int32) (o : (Int32 × Int32)), L_X1_mostRounds_4 b0 σ n x1 x2 = some o → G X 3 27 [(0, .ref (X.ad b0)), (1, .int o.1), (2, .int o.2)] [] σ → G X 3 4 [(0, .ref (X.ad b0)), (1, .int x1), (2, .int x2)] [] σ := by
  intro n
  induction n with
  | zero => intro x1 x2 o h; exact absurd h (by unfold L_X1_mostRounds_4; intro h; cases h)
  | succ n ih =>
    intro x1 x2 o h hexit
    unfold L_X1_mostRounds_4 at h
    refine g_iload_n K 2 dX1_mostRounds_4 rfl rfl ?_
    refine g_bipush (v := 9) K dX1_mostRounds_5 bp_9 ?_
    refine g_icmp_ge (tgt := 27) K dX1_mostRounds_7 (by decide) (fun c1 => ?_) (fun c1 => ?_)
    · replace h := bp c1 h
      refine g_sub [0, 1, 2] rfl ?_
      obtain rfl := Option.some.inj h
      exact hexit
    · replace h := bn c1 h
      refine g_iload_n K 1 dX1_mostRounds_10 rfl rfl ?_
      refine g_aload_n K 0 dX1_mostRounds_11 rfl rfl ?_
      refine g_get (v := .ref (X.ad (b0 + 12))) K (e_Control (ct_k0 hb0)) (ct_l0 hb0) rfl 2 (by decide) rfl fw_X1_20 u_X1 dX1_mostRounds_12 ?_
      refine g_iload_n K 2 dX1_mostRounds_15 rfl rfl ?_
      obtain ⟨g2, h⟩ := og h
      refine g_iald K (ct_k12 hb0) (ct_l12 hb0) g2 dX1_mostRounds_16 ?_
      refine g_mmax K mm_link mm_static mm_init mm_code (Nat.le_trans (Nat.le_of_ble_eq_true rfl) hR.1) (Nat.le_trans (Nat.le_of_ble_eq_true rfl) hR.2) dX1_mostRounds_17 ?_
      refine g_istore_n (lv' := [(1, .int (f_max x1 (σ.1 (b0 + 12) x2.toNatClampNeg))), (0, .ref (X.ad b0)), (2, .int x2)]) K dX1_mostRounds_20 rfl (by decide) rfl ?_
      refine g_iinc (lv' := [(2, .int (x2 + 1)), (1, .int (f_max x1 (σ.1 (b0 + 12) x2.toNatClampNeg))), (0, .ref (X.ad b0))]) K 2 dX1_mostRounds_21 rfl (by rw [ic_1]) (by decide) rfl ?_
      refine g_goto (tgt := 4) K dX1_mostRounds_24 (by decide) ?_
      refine g_sub [2, 1, 0] rfl ?_
      exact ih _ _ _ h hexit
def f_X1_mostRounds (b0 : Nat) (σ : Sg) : Option Int32 :=
  Option.bind (L_X1_mostRounds_4 b0 σ FU 0 0) (fun o1 =>
  some o1.1)
set_option maxRecDepth 20000 in
set_option maxHeartbeats 4000000 in
theorem w_X1_mostRounds {X : Ctx} (K : Cok X cX1_mostRounds 3 RX1) (hR : 1 ≤ X.R.frames ∧ 21 ≤ X.R.locals) {b0 : Nat} {σ : Sg} (hb0 : isCtrl b0) {r : Int32} (h : f_X1_mostRounds b0 σ = some r) (hr : RI X cX1_mostRounds 3 (r, σ)) : G X 3 0 [(0, .ref (X.ad b0))] [] σ := by
  unfold f_X1_mostRounds at h
  refine g_iconst (v := 0) K dX1_mostRounds_0 ic_0 ?_
  refine g_istore_n (lv' := [(1, .int 0), (0, .ref (X.ad b0))]) K dX1_mostRounds_1 rfl (by decide) rfl ?_
  refine g_iconst (v := 0) K dX1_mostRounds_2 ic_0 ?_
  refine g_istore_n (lv' := [(2, .int 0), (1, .int 0), (0, .ref (X.ad b0))]) K dX1_mostRounds_3 rfl (by decide) rfl ?_
  obtain ⟨o1, e2, h⟩ := ob h
  refine g_sub [2, 1, 0] rfl ?_
  refine l_X1_mostRounds_4 K hR hb0 _ _ _ _ e2 ?_
  refine g_iload_n K 1 dX1_mostRounds_27 rfl rfl ?_
  exact hr _ _ _ _ dX1_mostRounds_28 (rt1 h)
theorem m_X1_mostRounds {b0 : Nat} {σ : Sg} (hb0 : isCtrl b0) {r : Int32} (h : f_X1_mostRounds b0 σ = some r) : CI yX1_mostRounds cX1_mostRounds 3 (some .int) 1 21 (fun ad => [.ref (ad b0)]) σ r σ :=
  CI.of (by decide) (fun _ => Nat.le_of_ble_eq_true rfl) (fun X K hR hr => w_X1_mostRounds K hR hb0 h hr)
