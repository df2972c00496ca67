def L_X4_lockedFirms_12 (b0 : Nat) (x2 : Int32) (σ : Sg) : Nat → Int32 → Int32 → Option (Int32 × Int32)
  | 0, _, _ => none
  | n + 1, x1, x3 =>
    if 5 ≤ x3 then
    (some (x1, x3))
    else
    (if (f_X6_has x1 x3) = 0 then
    (L_X4_lockedFirms_12 b0 x2 σ n x1 (x3 + 1))
    else
    (Option.bind (f_X2_sharesHeldBy b0 x3 x1 σ) (fun r3 =>
    if 100 ≤ r3 then
    (L_X4_lockedFirms_12 b0 x2 σ n x1 (x3 + 1))
    else
    (L_X4_lockedFirms_12 b0 x2 σ n (x1 &&& ((1 <<< (x3 &&& 31)) ^^^ (-1))) (x3 + 1)))))
set_option maxRecDepth 20000 in
set_option maxHeartbeats 4000000 in
theorem l_X4_lockedFirms_12 {X : Ctx} (K : Cok X cX4_lockedFirms 4 RX4) (hR : 2 ≤ X.R.frames ∧ 45 ≤ X.R.locals) {b0 : Nat} {x2 : Int32} {σ : Sg} (hb0 : isHold b0) :
    ∀ (n : Nat) (x1 : Int32) (x3 : Int32) (o : (Int32 × Int32)), L_X4_lockedFirms_12 b0 x2 σ n x1 x3 = some o → G X 4 50 [(0, .ref (X.ad b0)), (1, .int o.1), (2, .int x2), (3, .int o.2)] [] σ → G X 4 12 [(0, .ref (X.ad b0)), (1, .int x1), (2, .int x2), (3, .int x3)] [] σ := by
  intro n
  induction n with
  | zero => intro x1 x3 o h; exact absurd h (by unfold L_X4_lockedFirms_12; intro h; cases h)
  | succ n ih =>
    intro x1 x3 o h hexit
    unfold L_X4_lockedFirms_12 at h
    refine g_iload_n K 3 dX4_lockedFirms_12 rfl rfl ?_
    refine g_iconst (v := 5) K dX4_lockedFirms_13 ic_5 ?_
    refine g_icmp_ge (tgt := 50) K dX4_lockedFirms_14 (by decide) (fun c1 => ?_) (fun c1 => ?_)
    · replace h := bp c1 h
      refine g_sub [0, 1, 2, 3] rfl ?_
      obtain rfl := Option.some.inj h
      exact hexit
    · replace h := bn c1 h
      refine g_iload_n K 1 dX4_lockedFirms_17 rfl rfl ?_
      refine g_iload_n K 3 dX4_lockedFirms_18 rfl rfl ?_
      refine g_cni (As := [.int x1, .int x3]) (rest := []) K (m_X6_has x1 x3 σ) yv_X6_has ne_X4_31 rfl rfl rfl ⟨Nat.le_trans (Nat.le_of_ble_eq_true rfl) hR.1, Nat.le_trans (Nat.le_of_ble_eq_true rfl) hR.2⟩ (Nat.le_of_ble_eq_true rfl) dX4_lockedFirms_19 ?_
      refine g_if_eq (tgt := 44) K dX4_lockedFirms_22 (by decide) (fun c2 => ?_) (fun c2 => ?_)
      · replace h := bp c2 h
        refine g_iinc (lv' := [(3, .int (x3 + 1)), (0, .ref (X.ad b0)), (1, .int x1), (2, .int x2)]) K 3 dX4_lockedFirms_44 rfl (by rw [ic_1]) (by decide) rfl ?_
        refine g_goto (tgt := 12) K dX4_lockedFirms_47 (by decide) ?_
        refine g_sub [1, 2, 3, 0] rfl ?_
        exact ih _ _ _ h hexit
      · replace h := bn c2 h
        refine g_aload_n K 0 dX4_lockedFirms_25 rfl rfl ?_
        refine g_iload_n K 3 dX4_lockedFirms_26 rfl rfl ?_
        refine g_iload_n K 1 dX4_lockedFirms_27 rfl rfl ?_
        obtain ⟨r3, e4, h⟩ := ob h
        refine g_cvi (As := [.int x3, .int x1]) (rest := []) K (m_X2_sharesHeldBy hb0 e4) yv_X2_sharesHeldBy ml_X4_35 rfl rfl rfl (e_Holdings (hd_k0 hb0)) (hd_l0 hb0) rfl rfl ⟨Nat.le_trans (Nat.le_of_ble_eq_true rfl) hR.1, Nat.le_trans (Nat.le_of_ble_eq_true rfl) hR.2⟩ (Nat.le_of_ble_eq_true rfl) dX4_lockedFirms_28 ?_
        refine g_bipush (v := 100) K dX4_lockedFirms_31 bp_100 ?_
        refine g_icmp_ge (tgt := 44) K dX4_lockedFirms_33 (by decide) (fun c5 => ?_) (fun c5 => ?_)
        · replace h := bp c5 h
          refine g_iinc (lv' := [(3, .int (x3 + 1)), (0, .ref (X.ad b0)), (1, .int x1), (2, .int x2)]) K 3 dX4_lockedFirms_44 rfl (by rw [ic_1]) (by decide) rfl ?_
          refine g_goto (tgt := 12) K dX4_lockedFirms_47 (by decide) ?_
          refine g_sub [1, 2, 3, 0] rfl ?_
          exact ih _ _ _ h hexit
        · replace h := bn c5 h
          refine g_iload_n K 1 dX4_lockedFirms_36 rfl rfl ?_
          refine g_iconst (v := 1) K dX4_lockedFirms_37 ic_1 ?_
          refine g_iload_n K 3 dX4_lockedFirms_38 rfl rfl ?_
          refine g_ishl K dX4_lockedFirms_39 ?_
          refine g_iconst (v := (-1)) K dX4_lockedFirms_40 ic_m1 ?_
          refine g_ixor K dX4_lockedFirms_41 ?_
          refine g_iand K dX4_lockedFirms_42 ?_
          refine g_istore_n (lv' := [(1, .int (x1 &&& ((1 <<< (x3 &&& 31)) ^^^ (-1)))), (0, .ref (X.ad b0)), (2, .int x2), (3, .int x3)]) K dX4_lockedFirms_43 rfl (by decide) rfl ?_
          refine g_iinc (lv' := [(3, .int (x3 + 1)), (1, .int (x1 &&& ((1 <<< (x3 &&& 31)) ^^^ (-1)))), (0, .ref (X.ad b0)), (2, .int x2)]) K 3 dX4_lockedFirms_44 rfl (by rw [ic_1]) (by decide) rfl ?_
          refine g_goto (tgt := 12) K dX4_lockedFirms_47 (by decide) ?_
          refine g_sub [2, 1, 3, 0] rfl ?_
          exact ih _ _ _ h hexit
def L_X4_lockedFirms_5 (b0 : Nat) (σ : Sg) : Nat → Int32 → Int32 → Option (Int32 × Int32)
  | 0, _, _ => none
  | n + 1, x1, x2 =>
    if 5 ≤ x2 then
    (some (x1, x2))
    else
    (Option.bind (L_X4_lockedFirms_12 b0 x2 σ FU x1 0) (fun o2 =>
    L_X4_lockedFirms_5 b0 σ n o2.1 (x2 + 1)))
set_option maxRecDepth 20000 in
set_option maxHeartbeats 4000000 in
theorem l_X4_lockedFirms_5 {X : Ctx} (K : Cok X cX4_lockedFirms 4 RX4) (hR : 2 ≤ X.R.frames ∧ 45 ≤ X.R.locals) {b0 : Nat} {σ : Sg} (hb0 : isHold b0) :
    ∀ (n : Nat) (x1 : Int32) (x2 : Int32) (o : (Int32 × Int32)), L_X4_lockedFirms_5 b0 σ n x1 x2 = some o → G X 4 56 [(0, .ref (X.ad b0)), (1, .int o.1), (2, .int o.2)] [] σ → G X 4 5 [(0, .ref (X.ad b0)), (1, .int x1), (2, .int x2)] [] σ := by
  intro n
  induction n with
  | zero => intro x1 x2 o h; exact absurd h (by unfold L_X4_lockedFirms_5; intro h; cases h)
  | succ n ih =>
    intro x1 x2 o h hexit
    unfold L_X4_lockedFirms_5 at h
    refine g_iload_n K 2 dX4_lockedFirms_5 rfl rfl ?_
    refine g_iconst (v := 5) K dX4_lockedFirms_6 ic_5 ?_
    refine g_icmp_ge (tgt := 56) K dX4_lockedFirms_7 (by decide) (fun c1 => ?_) (fun c1 => ?_)
    · replace h := bp c1 h
      refine g_sub [0, 1, 2] rfl ?_
      obtain rfl := Option.some.inj h
      exact hexit
    · replace h := bn c1 h
      refine g_iconst (v := 0) K dX4_lockedFirms_10 ic_0 ?_
      refine g_istore_n (lv' := [(3, .int 0), (0, .ref (X.ad b0)), (1, .int x1), (2, .int x2)]) K dX4_lockedFirms_11 rfl (by decide) rfl ?_
      obtain ⟨o2, e3, h⟩ := ob h
      refine g_sub [1, 2, 3, 0] rfl ?_
      refine l_X4_lockedFirms_12 K hR hb0 _ _ _ _ e3 ?_
      refine g_iinc (lv' := [(2, .int (x2 + 1)), (0, .ref (X.ad b0)), (1, .int o2.1), (3, .int o2.2)]) K 2 dX4_lockedFirms_50 rfl (by rw [ic_1]) (by decide) rfl ?_
      refine g_goto (tgt := 5) K dX4_lockedFirms_53 (by decide) ?_
      refine g_sub [1, 2, 0] rfl ?_
      exact ih _ _ _ h hexit
def f_X4_lockedFirms (b0 : Nat) (σ : Sg) : Option Int32 :=
  Option.bind (L_X4_lockedFirms_5 b0 σ FU 31 0) (fun o1 =>
  some o1.1)
set_option maxRecDepth 20000 in
set_option maxHeartbeats 4000000 in
theorem w_X4_lockedFirms {X : Ctx} (K : Cok X cX4_lockedFirms 4 RX4) (hR : 2 ≤ X.R.frames ∧ 45 ≤ X.R.locals) {b0 : Nat} {σ : Sg} (hb0 : isHold b0) {r : Int32} (h : f_X4_lockedFirms b0 σ = some r) (hr : RI X cX4_lockedFirms 4 (r, σ)) : G X 4 0 [(0, .ref (X.ad b0))] [] σ := by
  unfold f_X4_lockedFirms at h
  refine g_bipush (v := 31) K dX4_lockedFirms_0 bp_31 ?_
  refine g_istore_n (lv' := [(1, .int 31), (0, .ref (X.ad b0))]) K dX4_lockedFirms_2 rfl (by decide) rfl ?_
  refine g_iconst (v := 0) K dX4_lockedFirms_3 ic_0 ?_
  refine g_istore_n (lv' := [(2, .int 0), (1, .int 31), (0, .ref (X.ad b0))]) K dX4_lockedFirms_4 rfl (by decide) rfl ?_
  obtain ⟨o1, e2, h⟩ := ob h
  refine g_sub [2, 1, 0] rfl ?_
  refine l_X4_lockedFirms_5 K hR hb0 _ _ _ _ e2 ?_
  refine g_iload_n K 1 dX4_lockedFirms_56 rfl rfl ?_
  exact hr _ _ _ _ dX4_lockedFirms_57 (rt1 h)
theorem m_X4_lockedFirms {b0 : Nat} {σ : Sg} (hb0 : isHold b0) {r : Int32} (h : f_X4_lockedFirms b0 σ = some r) : CI yX4_lockedFirms cX4_lockedFirms 4 (some .int) 2 45 (fun ad => [.ref (ad b0)]) σ r σ :=
  CI.of (by decide) (fun _ => Nat.le_of_ble_eq_true rfl) (fun X K hR hr => w_X4_lockedFirms K hR hb0 h hr)
def L_X4_writeRow_12 (b1 : Nat) (x2 : Int32) (x3 : Int32) : Nat → Int32 → Sg → Option (Int32 × Sg)
  | 0, _, _ => none
  | n + 1, x4, σ =>
    if 5 ≤ x4 then
    (some (x4, σ))
    else
    (jn (if x3 = 0 then (if (f_X6_has (σ.1 79 0) x4) = 0 then (1) else (0)) else (0) : Int32) (fun v5 =>
    if inb x2 5 then
    (Option.bind (if v5 = 0 then (some 0) else (if inb x2 5 then (if inb (f_X6_holderOf x4) 10 then (some (Int32.toInt64 (-(σ.1 ((b1 + 1) + 1 + x2.toNatClampNeg) (f_X6_holderOf x4).toNatClampNeg)))) else none) else none) : Option Int64) (fun v13 =>
    if inb x4 10 then
    (jn (setL σ (80 + 1 + x2.toNatClampNeg) (vp_updL (σ.2 (80 + 1 + x2.toNatClampNeg)) x4.toNatClampNeg v13)) (fun σ18 =>
    L_X4_writeRow_12 b1 x2 x3 n (x4 + 1) σ18))
    else none))
    else none))
set_option maxRecDepth 20000 in
set_option maxHeartbeats 4000000 in
theorem l_X4_writeRow_12 {X : Ctx} (K : Cok X cX4_writeRow 6 RX4) (hR : 1 ≤ X.R.frames ∧ 21 ≤ X.R.locals) {b1 : Nat} {x2 : Int32} {x3 : Int32} (hb1 : isHold b1) :
    ∀ (n : Nat) (x4 : Int32) (σ : Sg) (o : (Int32 × Sg)), L_X4_writeRow_12 b1 x2 x3 n x4 σ = some o → G X 6 79 [(0, .ref (X.ad 79)), (1, .ref (X.ad b1)), (2, .int x2), (3, .int x3), (4, .int o.1)] [] o.2 → G X 6 12 [(0, .ref (X.ad 79)), (1, .ref (X.ad b1)), (2, .int x2), (3, .int x3), (4, .int x4)] [] σ := by
  intro n
  induction n with
  | zero => intro x4 σ o h; exact absurd h (by unfold L_X4_writeRow_12; intro h; cases h)
  | succ n ih =>
    intro x4 σ o h hexit
    unfold L_X4_writeRow_12 at h
    refine g_iload K 4 dX4_writeRow_12 rfl ?_
    refine g_iconst (v := 5) K dX4_writeRow_14 ic_5 ?_
    refine g_icmp_ge (tgt := 79) K dX4_writeRow_15 (by decide) (fun c1 => ?_) (fun c1 => ?_)
    · replace h := bp c1 h
      refine g_sub [0, 1, 2, 3, 4] rfl ?_
      obtain rfl := Option.some.inj h
      exact hexit
    · replace h := bn c1 h
      refine g_iload_n K 3 dX4_writeRow_18 rfl rfl ?_
      refine jn_cut h (P := (fun v5 => G X 6 39 [(0, .ref (X.ad 79)), (1, .ref (X.ad b1)), (2, .int x2), (3, .int x3), (4, .int x4)] [.int v5] σ)) (fun v5 h => ?_) (fun tail_4 => ?_)
      · refine g_istore (lv' := [(5, .int v5), (0, .ref (X.ad 79)), (1, .ref (X.ad b1)), (2, .int x2), (3, .int x3), (4, .int x4)]) K dX4_writeRow_39 (by decide) rfl ?_
        refine g_aload_n K 1 dX4_writeRow_41 rfl rfl ?_
        refine g_get (v := .ref (X.ad 80)) K (e_Stakes kd_79) ltN_79 rfl 1 (by decide) rfl fw_X4_13 u_X4 dX4_writeRow_42 ?_
        refine g_iload_n K 3 dX4_writeRow_45 rfl rfl ?_
        obtain ⟨g8, h⟩ := og h
        refine g_aaldL K kd_80 ltN_80 g8 dX4_writeRow_46 ?_
        refine g_iload K 5 dX4_writeRow_47 rfl ?_
        refine g_iload K 0 dX4_writeRow_49 rfl ?_
        refine bd_cut h (P := (fun v13 => G X 6 72 [(5, .int v5), (0, .ref (X.ad 79)), (1, .ref (X.ad b1)), (2, .int x2), (3, .int x3), (4, .int x4)] [.long v13, .int x4, .ref (X.ad (80 + 1 + x2.toNatClampNeg))] σ)) (fun v13 h => ?_) (fun tail_12 => ?_)
        · obtain ⟨g17, h⟩ := og h
          refine g_last K (st_r g8) (st_s g8) g17 dX4_writeRow_72 (fun σ18 s19 => ?_)
          replace h := jn_at s19 h
          refine g_iinc (lv' := [(4, .int (x4 + 1)), (5, .int v5), (0, .ref (X.ad 79)), (1, .ref (X.ad b1)), (2, .int x2), (3, .int x3)]) K 5 dX4_writeRow_73 rfl (by rw [ic_1]) (by decide) rfl ?_
          refine g_goto (tgt := 12) K dX4_writeRow_76 (by decide) ?_
          refine g_sub [2, 3, 4, 5, 0] rfl ?_
          exact ih _ _ _ h hexit
        · refine g_if_eq (tgt := 71) K dX4_writeRow_51 (by decide) (fun c14 => ?_) (fun c14 => ?_)
          · replace h := jbp c14 h
            refine g_lconst (v := 0) K dX4_writeRow_71 lc_0 ?_
            exact tail_12 _ h
          · replace h := jbn c14 h
            refine g_aload_n K 2 dX4_writeRow_54 rfl rfl ?_
            refine g_get (v := .ref (X.ad (b1 + 1))) K (e_Holdings (hd_k0 hb1)) (hd_l0 hb1) rfl 0 (by decide) rfl fw_X4_41 u_X2 dX4_writeRow_55 ?_
            refine g_iload_n K 3 dX4_writeRow_58 rfl rfl ?_
            obtain ⟨g15, h⟩ := ogb h
            refine g_aaldI K (hd_k1 hb1) (hd_l1 hb1) g15 dX4_writeRow_59 ?_
            refine g_iload K 5 dX4_writeRow_60 rfl ?_
            refine g_cni (As := [.int x4]) (rest := [.ref (X.ad ((b1 + 1) + 1 + x2.toNatClampNeg)), .int x4, .ref (X.ad (80 + 1 + x2.toNatClampNeg))]) K (m_X6_holderOf x4 σ) yv_X6_holderOf ne_X4_45 rfl rfl rfl ⟨Nat.le_trans (Nat.le_of_ble_eq_true rfl) hR.1, Nat.le_trans (Nat.le_of_ble_eq_true rfl) hR.2⟩ (Nat.le_of_ble_eq_true rfl) dX4_writeRow_62 ?_
            obtain ⟨g16, h⟩ := ogb h
            refine g_iald K (hd_r1 hb1 g15) (hd_s1 hb1 g15) g16 dX4_writeRow_65 ?_
            refine g_ineg K dX4_writeRow_66 ?_
            refine g_i2l K dX4_writeRow_67 ?_
            refine g_goto (tgt := 72) K dX4_writeRow_68 (by decide) ?_
            exact tail_12 _ h
      · refine g_if_ne (tgt := 38) K dX4_writeRow_19 (by decide) (fun c6 => ?_) (fun c6 => ?_)
        · replace h := jpn c6 h
          refine g_iconst (v := 0) K dX4_writeRow_38 ic_0 ?_
          exact tail_4 _ h
        · replace h := jpp c6 h
          refine g_aload_n K 0 dX4_writeRow_22 rfl rfl ?_
          refine g_get (v := .int (σ.1 79 0)) K (e_Stakes kd_79) ltN_79 rfl 0 (by decide) rfl fw_X4_20 u_X4 dX4_writeRow_23 ?_
          refine g_iload K 4 dX4_writeRow_26 rfl ?_
          refine g_cni (As := [.int (σ.1 79 0), .int x4]) (rest := []) K (m_X6_has (σ.1 79 0) x4 σ) yv_X6_has ne_X4_31 rfl rfl rfl ⟨Nat.le_trans (Nat.le_of_ble_eq_true rfl) hR.1, Nat.le_trans (Nat.le_of_ble_eq_true rfl) hR.2⟩ (Nat.le_of_ble_eq_true rfl) dX4_writeRow_28 ?_
          refine g_if_ne (tgt := 38) K dX4_writeRow_31 (by decide) (fun c7 => ?_) (fun c7 => ?_)
          · replace h := jpn c7 h
            refine g_iconst (v := 0) K dX4_writeRow_38 ic_0 ?_
            exact tail_4 _ h
          · replace h := jpp c7 h
            refine g_iconst (v := 1) K dX4_writeRow_34 ic_1 ?_
            refine g_goto (tgt := 39) K dX4_writeRow_35 (by decide) ?_
            exact tail_4 _ h
def L_X4_writeRow_93 (b1 : Nat) (x2 : Int32) (x3 : Int32) : Nat → Int32 → Sg → Option (Int32 × Sg)
  | 0, _, _ => none
  | n + 1, x4, σ =>
    if 5 ≤ x4 then
    (some (x4, σ))
    else
    (jn (if x4 = 4 then (9) else (x4) : Int32) (fun v4 =>
    if inb x2 5 then
    (Option.bind (if x3 = 0 then (if inb x2 5 then (if inb v4 10 then (some (Int32.toInt64 (σ.1 ((b1 + 1) + 1 + x2.toNatClampNeg) v4.toNatClampNeg))) else none) else none) else (some 0) : Option Int64) (fun v11 =>
    if inb (5 + x4) 10 then
    (jn (setL σ (80 + 1 + x2.toNatClampNeg) (vp_updL (σ.2 (80 + 1 + x2.toNatClampNeg)) (5 + x4).toNatClampNeg v11)) (fun σ16 =>
    L_X4_writeRow_93 b1 x2 x3 n (x4 + 1) σ16))
    else none))
    else none))
set_option maxRecDepth 20000 in
set_option maxHeartbeats 4000000 in
theorem l_X4_writeRow_93 {X : Ctx} (K : Cok X cX4_writeRow 6 RX4) (hR : 1 ≤ X.R.frames ∧ 21 ≤ X.R.locals) {b1 : Nat} {x2 : Int32} {x3 : Int32} (hb1 : isHold b1) :
    ∀ (n : Nat) (x4 : Int32) (σ : Sg) (o : (Int32 × Sg)), L_X4_writeRow_93 b1 x2 x3 n x4 σ = some o → G X 6 149 [(0, .ref (X.ad 79)), (1, .ref (X.ad b1)), (2, .int x2), (3, .int x3), (4, .int o.1)] [] o.2 → G X 6 93 [(0, .ref (X.ad 79)), (1, .ref (X.ad b1)), (2, .int x2), (3, .int x3), (4, .int x4)] [] σ := by
  intro n
  induction n with
  | zero => intro x4 σ o h; exact absurd h (by unfold L_X4_writeRow_93; intro h; cases h)
  | succ n ih =>
    intro x4 σ o h hexit
    unfold L_X4_writeRow_93 at h
    refine g_iload K 4 dX4_writeRow_93 rfl ?_
    refine g_iconst (v := 5) K dX4_writeRow_95 ic_5 ?_
    refine g_icmp_ge (tgt := 149) K dX4_writeRow_96 (by decide) (fun c1 => ?_) (fun c1 => ?_)
    · replace h := bp c1 h
      refine g_sub [0, 1, 2, 3, 4] rfl ?_
      obtain rfl := Option.some.inj h
      exact hexit
    · replace h := bn c1 h
      refine g_iload K 4 dX4_writeRow_99 rfl ?_
      refine g_iconst (v := 4) K dX4_writeRow_101 ic_4 ?_
      refine jn_cut h (P := (fun v4 => G X 6 112 [(0, .ref (X.ad 79)), (1, .ref (X.ad b1)), (2, .int x2), (3, .int x3), (4, .int x4)] [.int v4] σ)) (fun v4 h => ?_) (fun tail_3 => ?_)
      · refine g_istore (lv' := [(5, .int v4), (0, .ref (X.ad 79)), (1, .ref (X.ad b1)), (2, .int x2), (3, .int x3), (4, .int x4)]) K dX4_writeRow_112 (by decide) rfl ?_
        refine g_aload_n K 1 dX4_writeRow_114 rfl rfl ?_
        refine g_get (v := .ref (X.ad 80)) K (e_Stakes kd_79) ltN_79 rfl 1 (by decide) rfl fw_X4_13 u_X4 dX4_writeRow_115 ?_
        refine g_iload_n K 3 dX4_writeRow_118 rfl rfl ?_
        obtain ⟨g6, h⟩ := og h
        refine g_aaldL K kd_80 ltN_80 g6 dX4_writeRow_119 ?_
        refine g_iconst (v := 5) K dX4_writeRow_120 ic_5 ?_
        refine g_iload K 5 dX4_writeRow_121 rfl ?_
        refine g_iadd K dX4_writeRow_123 ?_
        refine g_iload_n K 4 dX4_writeRow_124 rfl rfl ?_
        refine bd_cut h (P := (fun v11 => G X 6 142 [(5, .int v4), (0, .ref (X.ad 79)), (1, .ref (X.ad b1)), (2, .int x2), (3, .int x3), (4, .int x4)] [.long v11, .int (5 + x4), .ref (X.ad (80 + 1 + x2.toNatClampNeg))] σ)) (fun v11 h => ?_) (fun tail_10 => ?_)
        · obtain ⟨g15, h⟩ := og h
          refine g_last K (st_r g6) (st_s g6) g15 dX4_writeRow_142 (fun σ16 s17 => ?_)
          replace h := jn_at s17 h
          refine g_iinc (lv' := [(4, .int (x4 + 1)), (5, .int v4), (0, .ref (X.ad 79)), (1, .ref (X.ad b1)), (2, .int x2), (3, .int x3)]) K 5 dX4_writeRow_143 rfl (by rw [ic_1]) (by decide) rfl ?_
          refine g_goto (tgt := 93) K dX4_writeRow_146 (by decide) ?_
          refine g_sub [2, 3, 4, 5, 0] rfl ?_
          exact ih _ _ _ h hexit
        · refine g_if_eq (tgt := 132) K dX4_writeRow_125 (by decide) (fun c12 => ?_) (fun c12 => ?_)
          · replace h := jbp c12 h
            refine g_aload_n K 2 dX4_writeRow_132 rfl rfl ?_
            refine g_get (v := .ref (X.ad (b1 + 1))) K (e_Holdings (hd_k0 hb1)) (hd_l0 hb1) rfl 0 (by decide) rfl fw_X4_41 u_X2 dX4_writeRow_133 ?_
            refine g_iload_n K 3 dX4_writeRow_136 rfl rfl ?_
            obtain ⟨g13, h⟩ := ogb h
            refine g_aaldI K (hd_k1 hb1) (hd_l1 hb1) g13 dX4_writeRow_137 ?_
            refine g_iload K 0 dX4_writeRow_138 rfl ?_
            obtain ⟨g14, h⟩ := ogb h
            refine g_iald K (hd_r1 hb1 g13) (hd_s1 hb1 g13) g14 dX4_writeRow_140 ?_
            refine g_i2l K dX4_writeRow_141 ?_
            exact tail_10 _ h
          · replace h := jbn c12 h
            refine g_lconst (v := 0) K dX4_writeRow_128 lc_0 ?_
            refine g_goto (tgt := 142) K dX4_writeRow_129 (by decide) ?_
            exact tail_10 _ h
      · refine g_icmp_ne (tgt := 110) K dX4_writeRow_102 (by decide) (fun c5 => ?_) (fun c5 => ?_)
        · replace h := jpn c5 h
          refine g_iload K 4 dX4_writeRow_110 rfl ?_
          exact tail_3 _ h
        · replace h := jpp c5 h
          refine g_bipush (v := 9) K dX4_writeRow_105 bp_9 ?_
          refine g_goto (tgt := 112) K dX4_writeRow_107 (by decide) ?_
          exact tail_3 _ h
def f_X4_writeRow (b1 : Nat) (x2 : Int32) (σ : Sg) : Option Sg :=
  Option.bind (L_X4_writeRow_12 b1 x2 (f_X6_has (σ.1 79 0) x2) FU 0 σ) (fun o1 =>
  if inb x2 5 then
  (if inb x2 10 then
  (jn (setL o1.2 (80 + 1 + x2.toNatClampNeg) (vp_updL (o1.2.2 (80 + 1 + x2.toNatClampNeg)) x2.toNatClampNeg 100)) (fun σ5 =>
  Option.bind (L_X4_writeRow_93 b1 x2 (f_X6_has (σ.1 79 0) x2) FU 0 σ5) (fun o7 =>
  some o7.2)))
  else none)
  else none)
set_option maxRecDepth 20000 in
set_option maxHeartbeats 4000000 in
theorem w_X4_writeRow {X : Ctx} (K : Cok X cX4_writeRow 6 RX4) (hR : 1 ≤ X.R.frames ∧ 21 ≤ X.R.locals) {b1 : Nat} {x2 : Int32} {σ : Sg} (hb1 : isHold b1) {r : Sg} (h : f_X4_writeRow b1 x2 σ = some r) (hr : RV X cX4_writeRow 6 r) : G X 6 0 [(0, .ref (X.ad 79)), (1, .ref (X.ad b1)), (2, .int x2)] [] σ := by
  unfold f_X4_writeRow at h
  refine g_aload_n K 0 dX4_writeRow_0 rfl rfl ?_
  refine g_get (v := .int (σ.1 79 0)) K (e_Stakes kd_79) ltN_79 rfl 0 (by decide) rfl fw_X4_20 u_X4 dX4_writeRow_1 ?_
  refine g_iload_n K 2 dX4_writeRow_4 rfl rfl ?_
  refine g_cni (As := [.int (σ.1 79 0), .int x2]) (rest := []) K (m_X6_has (σ.1 79 0) x2 σ) yv_X6_has ne_X4_31 rfl rfl rfl ⟨Nat.le_trans (Nat.le_of_ble_eq_true rfl) hR.1, Nat.le_trans (Nat.le_of_ble_eq_true rfl) hR.2⟩ (Nat.le_of_ble_eq_true rfl) dX4_writeRow_5 ?_
  refine g_istore_n (lv' := [(3, .int (f_X6_has (σ.1 79 0) x2)), (0, .ref (X.ad 79)), (1, .ref (X.ad b1)), (2, .int x2)]) K dX4_writeRow_8 rfl (by decide) rfl ?_
  refine g_iconst (v := 0) K dX4_writeRow_9 ic_0 ?_
  refine g_istore (lv' := [(4, .int 0), (3, .int (f_X6_has (σ.1 79 0) x2)), (0, .ref (X.ad 79)), (1, .ref (X.ad b1)), (2, .int x2)]) K dX4_writeRow_10 (by decide) rfl ?_
  obtain ⟨o1, e2, h⟩ := ob h
  refine g_sub [2, 3, 4, 1, 0] rfl ?_
  refine l_X4_writeRow_12 K hR hb1 _ _ _ _ e2 ?_
  refine g_aload_n K 0 dX4_writeRow_79 rfl rfl ?_
  refine g_get (v := .ref (X.ad 80)) K (e_Stakes kd_79) ltN_79 rfl 1 (by decide) rfl fw_X4_13 u_X4 dX4_writeRow_80 ?_
  refine g_iload_n K 2 dX4_writeRow_83 rfl rfl ?_
  obtain ⟨g3, h⟩ := og h
  refine g_aaldL K kd_80 ltN_80 g3 dX4_writeRow_84 ?_
  refine g_iload_n K 2 dX4_writeRow_85 rfl rfl ?_
  refine g_ldc2 (v := 100) K cl_X4_49 dX4_writeRow_86 ?_
  obtain ⟨g4, h⟩ := og h
  refine g_last K (st_r g3) (st_s g3) g4 dX4_writeRow_89 (fun σ5 s6 => ?_)
  replace h := jn_at s6 h
  refine g_iconst (v := 0) K dX4_writeRow_90 ic_0 ?_
  refine g_istore (lv' := [(4, .int 0), (0, .ref (X.ad 79)), (1, .ref (X.ad b1)), (2, .int x2), (3, .int (f_X6_has (σ.1 79 0) x2))]) K dX4_writeRow_91 (by decide) rfl ?_
  obtain ⟨o7, e8, h⟩ := ob h
  refine g_sub [1, 2, 3, 4, 0] rfl ?_
  refine l_X4_writeRow_93 K hR hb1 _ _ _ _ e8 ?_
  exact hr _ _ _ dX4_writeRow_149 (rt2 h)
theorem m_X4_writeRow {b1 : Nat} {x2 : Int32} {σ : Sg} (hb1 : isHold b1) {r : Sg} (h : f_X4_writeRow b1 x2 σ = some r) : CV yX4_writeRow cX4_writeRow 6 none 1 21 (fun ad => [.ref (ad 79), .ref (ad b1), .int x2]) σ r :=
  CV.of (by decide) (fun _ => Nat.le_of_ble_eq_true rfl) (fun X K hR hr => w_X4_writeRow K hR hb1 h hr)
def L_X4_eliminate_30 (x1 : Int32) (x2 : Int32) (x3 : Int64) (x5 : Int64) (x7 : Int64) : Nat → Int32 → Sg → Option (Int32 × Sg)
  | 0, _, _ => none
  | n + 1, x9, σ =>
    if 10 ≤ x9 then
    (some (x9, σ))
    else
    (if inb x1 5 then
    (if inb x1 5 then
    (if inb x9 10 then
    (if inb x2 5 then
    (if inb x9 10 then
    (if ¬ x3 = 0 then
    (if inb x9 10 then
    (jn (setL σ (80 + 1 + x1.toNatClampNeg) (vp_updL (σ.2 (80 + 1 + x1.toNatClampNeg)) x9.toNatClampNeg (((x5 * (σ.2 (80 + 1 + x1.toNatClampNeg) x9.toNatClampNeg)) - (x7 * (σ.2 (80 + 1 + x2.toNatClampNeg) x9.toNatClampNeg))) / x3))) (fun σ9 =>
    L_X4_eliminate_30 x1 x2 x3 x5 x7 n (x9 + 1) σ9))
    else none)
    else none)
    else none)
    else none)
    else none)
    else none)
    else none)
set_option maxRecDepth 20000 in
set_option maxHeartbeats 4000000 in
theorem l_X4_eliminate_30 {X : Ctx} (K : Cok X cX4_eliminate 10 RX4) (hR : 0 ≤ X.R.frames ∧ 0 ≤ X.R.locals) {x1 : Int32} {x2 : Int32} {x3 : Int64} {x5 : Int64} {x7 : Int64}  :
    ∀ (n : Nat) (x9 : Int32) (σ : Sg) (o : (Int32 × Sg)), L_X4_eliminate_30 x1 x2 x3 x5 x7 n x9 σ = some o → G X 10 79 [(0, .ref (X.ad 79)), (1, .int x1), (2, .int x2), (3, .long x3), (5, .long x5), (7, .long x7), (9, .int o.1)] [] o.2 → G X 10 30 [(0, .ref (X.ad 79)), (1, .int x1), (2, .int x2), (3, .long x3), (5, .long x5), (7, .long x7), (9, .int x9)] [] σ := by
  intro n
  induction n with
  | zero => intro x9 σ o h; exact absurd h (by unfold L_X4_eliminate_30; intro h; cases h)
  | succ n ih =>
    intro x9 σ o h hexit
    unfold L_X4_eliminate_30 at h
    refine g_iload K 6 dX4_eliminate_30 rfl ?_
    refine g_bipush (v := 10) K dX4_eliminate_32 bp_10 ?_
    refine g_icmp_ge (tgt := 79) K dX4_eliminate_34 (by decide) (fun c1 => ?_) (fun c1 => ?_)
    · replace h := bp c1 h
      refine g_sub [0, 1, 2, 3, 4, 5, 6] rfl ?_
      obtain rfl := Option.some.inj h
      exact hexit
    · replace h := bn c1 h
      refine g_aload_n K 0 dX4_eliminate_37 rfl rfl ?_
      refine g_get (v := .ref (X.ad 80)) K (e_Stakes kd_79) ltN_79 rfl 1 (by decide) rfl fw_X4_13 u_X4 dX4_eliminate_38 ?_
      refine g_iload_n K 1 dX4_eliminate_41 rfl rfl ?_
      obtain ⟨g2, h⟩ := og h
      refine g_aaldL K kd_80 ltN_80 g2 dX4_eliminate_42 ?_
      refine g_iload K 6 dX4_eliminate_43 rfl ?_
      refine g_lload K 4 dX4_eliminate_45 rfl ?_
      refine g_aload_n K 0 dX4_eliminate_47 rfl rfl ?_
      refine g_get (v := .ref (X.ad 80)) K (e_Stakes kd_79) ltN_79 rfl 1 (by decide) rfl fw_X4_13 u_X4 dX4_eliminate_48 ?_
      refine g_iload_n K 1 dX4_eliminate_51 rfl rfl ?_
      obtain ⟨g3, h⟩ := og h
      refine g_aaldL K kd_80 ltN_80 g3 dX4_eliminate_52 ?_
      refine g_iload K 6 dX4_eliminate_53 rfl ?_
      obtain ⟨g4, h⟩ := og h
      refine g_lald K (st_r g3) (st_s g3) g4 dX4_eliminate_55 ?_
      refine g_lmul K dX4_eliminate_56 ?_
      refine g_lload K 5 dX4_eliminate_57 rfl ?_
      refine g_aload_n K 0 dX4_eliminate_59 rfl rfl ?_
      refine g_get (v := .ref (X.ad 80)) K (e_Stakes kd_79) ltN_79 rfl 1 (by decide) rfl fw_X4_13 u_X4 dX4_eliminate_60 ?_
      refine g_iload_n K 2 dX4_eliminate_63 rfl rfl ?_
      obtain ⟨g5, h⟩ := og h
      refine g_aaldL K kd_80 ltN_80 g5 dX4_eliminate_64 ?_
      refine g_iload K 6 dX4_eliminate_65 rfl ?_
      obtain ⟨g6, h⟩ := og h
      refine g_lald K (st_r g5) (st_s g5) g6 dX4_eliminate_67 ?_
      refine g_lmul K dX4_eliminate_68 ?_
      refine g_lsub K dX4_eliminate_69 ?_
      refine g_lload_n K 3 dX4_eliminate_70 rfl rfl ?_
      obtain ⟨z7, h⟩ := og h
      refine g_ldiv K dX4_eliminate_71 z7 ?_
      obtain ⟨g8, h⟩ := og h
      refine g_last K (st_r g2) (st_s g2) g8 dX4_eliminate_72 (fun σ9 s10 => ?_)
      replace h := jn_at s10 h
      refine g_iinc (lv' := [(9, .int (x9 + 1)), (0, .ref (X.ad 79)), (1, .int x1), (2, .int x2), (3, .long x3), (5, .long x5), (7, .long x7)]) K 6 dX4_eliminate_73 rfl (by rw [ic_1]) (by decide) rfl ?_
      refine g_goto (tgt := 30) K dX4_eliminate_76 (by decide) ?_
      refine g_sub [1, 2, 3, 4, 5, 6, 0] rfl ?_
      exact ih _ _ _ h hexit
def f_X4_eliminate (x1 : Int32) (x2 : Int32) (x3 : Int64) (σ : Sg) : Option Sg :=
  if (lg_cmp x3 0) = 0 then
  (some (σ))
  else
  (if inb x2 5 then
  (if inb x2 10 then
  (if inb x1 5 then
  (if inb x2 10 then
  (Option.bind (L_X4_eliminate_30 x1 x2 x3 (σ.2 (80 + 1 + x2.toNatClampNeg) x2.toNatClampNeg) (σ.2 (80 + 1 + x1.toNatClampNeg) x2.toNatClampNeg) FU 0 σ) (fun o6 =>
  some o6.2))
  else none)
  else none)
  else none)
  else none)
set_option maxRecDepth 20000 in
set_option maxHeartbeats 4000000 in
theorem w_X4_eliminate {X : Ctx} (K : Cok X cX4_eliminate 10 RX4) (hR : 0 ≤ X.R.frames ∧ 0 ≤ X.R.locals) {x1 : Int32} {x2 : Int32} {x3 : Int64} {σ : Sg}  {r : Sg} (h : f_X4_eliminate x1 x2 x3 σ = some r) (hr : RV X cX4_eliminate 10 r) : G X 10 0 [(0, .ref (X.ad 79)), (1, .int x1), (2, .int x2), (3, .long x3)] [] σ := by
  unfold f_X4_eliminate at h
  refine g_lload_n K 3 dX4_eliminate_0 rfl rfl ?_
  refine g_lconst (v := 0) K dX4_eliminate_1 lc_0 ?_
  refine g_lcmp K dX4_eliminate_2 ?_
  refine g_if_ne (tgt := 7) K dX4_eliminate_3 (by decide) (fun c1 => ?_) (fun c1 => ?_)
  · replace h := bn c1 h
    refine g_aload_n K 0 dX4_eliminate_7 rfl rfl ?_
    refine g_get (v := .ref (X.ad 80)) K (e_Stakes kd_79) ltN_79 rfl 1 (by decide) rfl fw_X4_13 u_X4 dX4_eliminate_8 ?_
    refine g_iload_n K 2 dX4_eliminate_11 rfl rfl ?_
    obtain ⟨g2, h⟩ := og h
    refine g_aaldL K kd_80 ltN_80 g2 dX4_eliminate_12 ?_
    refine g_iload_n K 2 dX4_eliminate_13 rfl rfl ?_
    obtain ⟨g3, h⟩ := og h
    refine g_lald K (st_r g2) (st_s g2) g3 dX4_eliminate_14 ?_
    refine g_lstore (lv' := [(5, .long (σ.2 (80 + 1 + x2.toNatClampNeg) x2.toNatClampNeg)), (0, .ref (X.ad 79)), (1, .int x1), (2, .int x2), (3, .long x3)]) K dX4_eliminate_15 (by decide) rfl ?_
    refine g_aload_n K 1 dX4_eliminate_17 rfl rfl ?_
    refine g_get (v := .ref (X.ad 80)) K (e_Stakes kd_79) ltN_79 rfl 1 (by decide) rfl fw_X4_13 u_X4 dX4_eliminate_18 ?_
    refine g_iload_n K 2 dX4_eliminate_21 rfl rfl ?_
    obtain ⟨g4, h⟩ := og h
    refine g_aaldL K kd_80 ltN_80 g4 dX4_eliminate_22 ?_
    refine g_iload_n K 3 dX4_eliminate_23 rfl rfl ?_
    obtain ⟨g5, h⟩ := og h
    refine g_lald K (st_r g4) (st_s g4) g5 dX4_eliminate_24 ?_
    refine g_lstore (lv' := [(7, .long (σ.2 (80 + 1 + x1.toNatClampNeg) x2.toNatClampNeg)), (5, .long (σ.2 (80 + 1 + x2.toNatClampNeg) x2.toNatClampNeg)), (0, .ref (X.ad 79)), (1, .int x1), (2, .int x2), (3, .long x3)]) K dX4_eliminate_25 (by decide) rfl ?_
    refine g_iconst (v := 0) K dX4_eliminate_27 ic_0 ?_
    refine g_istore (lv' := [(9, .int 0), (7, .long (σ.2 (80 + 1 + x1.toNatClampNeg) x2.toNatClampNeg)), (5, .long (σ.2 (80 + 1 + x2.toNatClampNeg) x2.toNatClampNeg)), (0, .ref (X.ad 79)), (1, .int x1), (2, .int x2), (3, .long x3)]) K dX4_eliminate_28 (by decide) rfl ?_
    obtain ⟨o6, e7, h⟩ := ob h
    refine g_sub [3, 4, 5, 6, 2, 1, 0] rfl ?_
    refine l_X4_eliminate_30 K hR _ _ _ _ e7 ?_
    exact hr _ _ _ dX4_eliminate_79 (rt2 h)
  · replace h := bp c1 h
    exact hr _ _ _ dX4_eliminate_6 (rt2 h)
theorem m_X4_eliminate {x1 : Int32} {x2 : Int32} {x3 : Int64} {σ : Sg}  {r : Sg} (h : f_X4_eliminate x1 x2 x3 σ = some r) : CV yX4_eliminate cX4_eliminate 10 none 0 0 (fun ad => [.ref (ad 79), .int x1, .int x2, .long x3]) σ r :=
  CV.of (by decide) (fun _ => Nat.le_of_ble_eq_true rfl) (fun X K hR hr => w_X4_eliminate K hR h hr)
def L_X4_solve_19 (x1 : Int64) (x3 : Int32) : Nat → Int32 → Sg → Option (Int32 × Sg)
  | 0, _, _ => none
  | n + 1, x4, σ =>
    if 5 ≤ x4 then
    (some (x4, σ))
    else
    (if x4 = x3 then
    (L_X4_solve_19 x1 x3 n (x4 + 1) σ)
    else
    (Option.bind (f_X4_eliminate x4 x3 x1 σ) (fun q3 =>
    L_X4_solve_19 x1 x3 n (x4 + 1) q3)))
set_option maxRecDepth 20000 in
set_option maxHeartbeats 4000000 in
theorem l_X4_solve_19 {X : Ctx} (K : Cok X cX4_solve 5 RX4) (hR : 1 ≤ X.R.frames ∧ 29 ≤ X.R.locals) {x1 : Int64} {x3 : Int32}  :
    ∀ (n : Nat) (x4 : Int32) (σ : Sg) (o : (Int32 × Sg)), L_X4_solve_19 x1 x3 n x4 σ = some o → G X 5 45 [(0, .ref (X.ad 79)), (1, .long x1), (3, .int x3), (4, .int o.1)] [] o.2 → G X 5 19 [(0, .ref (X.ad 79)), (1, .long x1), (3, .int x3), (4, .int x4)] [] σ := by
  intro n
  induction n with
  | zero => intro x4 σ o h; exact absurd h (by unfold L_X4_solve_19; intro h; cases h)
  | succ n ih =>
    intro x4 σ o h hexit
    unfold L_X4_solve_19 at h
    refine g_iload K 3 dX4_solve_19 rfl ?_
    refine g_iconst (v := 5) K dX4_solve_21 ic_5 ?_
    refine g_icmp_ge (tgt := 45) K dX4_solve_22 (by decide) (fun c1 => ?_) (fun c1 => ?_)
    · replace h := bp c1 h
      refine g_sub [0, 1, 2, 3] rfl ?_
      obtain rfl := Option.some.inj h
      exact hexit
    · replace h := bn c1 h
      refine g_iload K 3 dX4_solve_25 rfl ?_
      refine g_iload_n K 2 dX4_solve_27 rfl rfl ?_
      refine g_icmp_eq (tgt := 39) K dX4_solve_28 (by decide) (fun c2 => ?_) (fun c2 => ?_)
      · replace h := bp c2 h
        refine g_iinc (lv' := [(4, .int (x4 + 1)), (0, .ref (X.ad 79)), (1, .long x1), (3, .int x3)]) K 3 dX4_solve_39 rfl (by rw [ic_1]) (by decide) rfl ?_
        refine g_goto (tgt := 19) K dX4_solve_42 (by decide) ?_
        refine g_sub [1, 2, 3, 0] rfl ?_
        exact ih _ _ _ h hexit
      · replace h := bn c2 h
        refine g_aload_n K 0 dX4_solve_31 rfl rfl ?_
        refine g_iload K 3 dX4_solve_32 rfl ?_
        refine g_iload_n K 2 dX4_solve_34 rfl rfl ?_
        refine g_lload_n K 1 dX4_solve_35 rfl rfl ?_
        obtain ⟨q3, e4, h⟩ := ob h
        refine g_cvv (As := [.int x4, .int x3, .long x1]) (rest := []) K (m_X4_eliminate e4) yv_X4_eliminate ml_X4_51 rfl rfl rfl (e_Stakes kd_79) ltN_79 rfl rfl ⟨Nat.le_trans (Nat.le_of_ble_eq_true rfl) hR.1, Nat.le_trans (Nat.le_of_ble_eq_true rfl) hR.2⟩ (Nat.le_of_ble_eq_true rfl) dX4_solve_36 ?_
        refine g_iinc (lv' := [(4, .int (x4 + 1)), (0, .ref (X.ad 79)), (1, .long x1), (3, .int x3)]) K 3 dX4_solve_39 rfl (by rw [ic_1]) (by decide) rfl ?_
        refine g_goto (tgt := 19) K dX4_solve_42 (by decide) ?_
        refine g_sub [1, 2, 3, 0] rfl ?_
        exact ih _ _ _ h hexit
def L_X4_solve_4  : Nat → Int64 → Int32 → Sg → Option ((Sg) ⊕ (Int64 × Int32 × Sg))
  | 0, _, _, _ => none
  | n + 1, x1, x3, σ =>
    if 5 ≤ x3 then
    (some (.inr (x1, x3, σ)))
    else
    (if (lg_cmp x1 0) = 0 then
    (some (.inl (σ)))
    else
    (Option.bind (L_X4_solve_19 x1 x3 FU 0 σ) (fun o3 =>
    if inb x3 5 then
    (if inb x3 10 then
    (L_X4_solve_4 n (o3.2.2 (80 + 1 + x3.toNatClampNeg) x3.toNatClampNeg) (x3 + 1) o3.2)
    else none)
    else none)))
set_option maxRecDepth 20000 in
set_option maxHeartbeats 4000000 in
theorem l_X4_solve_4 {X : Ctx} (K : Cok X cX4_solve 5 RX4) (hR : 1 ≤ X.R.frames ∧ 29 ≤ X.R.locals) {res : Sg} (hr : RV X cX4_solve 5 res)   :
    ∀ (n : Nat) (x1 : Int64) (x3 : Int32) (σ : Sg) (o : ((Sg) ⊕ (Int64 × Int32 × Sg))), L_X4_solve_4  n x1 x3 σ = some o → (∀ q, o = .inl q → q = res) → (∀ q, o = .inr q → G X 5 60 [(0, .ref (X.ad 79)), (1, .long q.1), (3, .int q.2.1)] [] q.2.2) → G X 5 4 [(0, .ref (X.ad 79)), (1, .long x1), (3, .int x3)] [] σ := by
  intro n
  induction n with
  | zero => intro x1 x3 σ o h; exact absurd h (by unfold L_X4_solve_4; intro h; cases h)
  | succ n ih =>
    intro x1 x3 σ o h hret hexit
    unfold L_X4_solve_4 at h
    refine g_iload_n K 2 dX4_solve_4 rfl rfl ?_
    refine g_iconst (v := 5) K dX4_solve_5 ic_5 ?_
    refine g_icmp_ge (tgt := 60) K dX4_solve_6 (by decide) (fun c1 => ?_) (fun c1 => ?_)
    · replace h := bp c1 h
      refine g_sub [0, 1, 2] rfl ?_
      exact hexit _ (Option.some.inj h).symm
    · replace h := bn c1 h
      refine g_lload_n K 1 dX4_solve_9 rfl rfl ?_
      refine g_lconst (v := 0) K dX4_solve_10 lc_0 ?_
      refine g_lcmp K dX4_solve_11 ?_
      refine g_if_ne (tgt := 16) K dX4_solve_12 (by decide) (fun c2 => ?_) (fun c2 => ?_)
      · replace h := bn c2 h
        refine g_iconst (v := 0) K dX4_solve_16 ic_0 ?_
        refine g_istore (lv' := [(4, .int 0), (0, .ref (X.ad 79)), (1, .long x1), (3, .int x3)]) K dX4_solve_17 (by decide) rfl ?_
        obtain ⟨o3, e4, h⟩ := ob h
        refine g_sub [1, 2, 3, 0] rfl ?_
        refine l_X4_solve_19 K hR _ _ _ _ e4 ?_
        refine g_aload_n K 0 dX4_solve_45 rfl rfl ?_
        refine g_get (v := .ref (X.ad 80)) K (e_Stakes kd_79) ltN_79 rfl 1 (by decide) rfl fw_X4_13 u_X4 dX4_solve_46 ?_
        refine g_iload_n K 2 dX4_solve_49 rfl rfl ?_
        obtain ⟨g5, h⟩ := og h
        refine g_aaldL K kd_80 ltN_80 g5 dX4_solve_50 ?_
        refine g_iload_n K 2 dX4_solve_51 rfl rfl ?_
        obtain ⟨g6, h⟩ := og h
        refine g_lald K (st_r g5) (st_s g5) g6 dX4_solve_52 ?_
        refine g_lstore_n (lv' := [(1, .long (o3.2.2 (80 + 1 + x3.toNatClampNeg) x3.toNatClampNeg)), (0, .ref (X.ad 79)), (3, .int x3), (4, .int o3.1)]) K dX4_solve_53 rfl (by decide) rfl ?_
        refine g_iinc (lv' := [(3, .int (x3 + 1)), (1, .long (o3.2.2 (80 + 1 + x3.toNatClampNeg) x3.toNatClampNeg)), (0, .ref (X.ad 79)), (4, .int o3.1)]) K 2 dX4_solve_54 rfl (by rw [ic_1]) (by decide) rfl ?_
        refine g_goto (tgt := 4) K dX4_solve_57 (by decide) ?_
        refine g_sub [2, 1, 0] rfl ?_
        exact ih _ _ _ _ h hret hexit
      · replace h := bp c2 h
        exact hr _ _ _ dX4_solve_15 (hret _ (Option.some.inj h).symm)
def f_X4_solve  (σ : Sg) : Option Sg :=
  Option.bind (L_X4_solve_4 FU 1 0 σ) (fun o1 => Sum.elim (fun x => some x) (fun o1 =>
  some o1.2.2) o1)
set_option maxRecDepth 20000 in
set_option maxHeartbeats 4000000 in
theorem w_X4_solve {X : Ctx} (K : Cok X cX4_solve 5 RX4) (hR : 1 ≤ X.R.frames ∧ 29 ≤ X.R.locals)  {σ : Sg}  {r : Sg} (h : f_X4_solve σ = some r) (hr : RV X cX4_solve 5 r) : G X 5 0 [(0, .ref (X.ad 79))] [] σ := by
  unfold f_X4_solve at h
  refine g_lconst (v := 1) K dX4_solve_0 lc_1 ?_
  refine g_lstore_n (lv' := [(1, .long 1), (0, .ref (X.ad 79))]) K dX4_solve_1 rfl (by decide) rfl ?_
  refine g_iconst (v := 0) K dX4_solve_2 ic_0 ?_
  refine g_istore_n (lv' := [(3, .int 0), (1, .long 1), (0, .ref (X.ad 79))]) K dX4_solve_3 rfl (by decide) rfl ?_
  obtain ⟨o1, e2, h⟩ := ob h
  refine g_sub [2, 1, 0] rfl ?_
  refine l_X4_solve_4 K hR hr _ _ _ _ _ e2 (fun x hx => ?_) (fun o1 hx => ?_)
  · subst hx
    exact rt2 h
  · subst hx
    dsimp only [Sum.elim_inr] at h
    exact hr _ _ _ dX4_solve_60 (rt2 h)
theorem m_X4_solve  {σ : Sg}  {r : Sg} (h : f_X4_solve σ = some r) : CV yX4_solve cX4_solve 5 none 1 29 (fun ad => [.ref (ad 79)]) σ r :=
  CV.of (by decide) (fun _ => Nat.le_of_ble_eq_true rfl) (fun X K hR hr => w_X4_solve K hR h hr)
def L_X4_workOut_10 (b1 : Nat) : Nat → Int32 → Sg → Option (Int32 × Sg)
  | 0, _, _ => none
  | n + 1, x2, σ =>
    if 5 ≤ x2 then
    (some (x2, σ))
    else
    (Option.bind (f_X4_writeRow b1 x2 σ) (fun q2 =>
    L_X4_workOut_10 b1 n (x2 + 1) q2))
set_option maxRecDepth 20000 in
set_option maxHeartbeats 4000000 in
theorem l_X4_workOut_10 {X : Ctx} (K : Cok X cX4_workOut 3 RX4) (hR : 3 ≤ X.R.frames ∧ 68 ≤ X.R.locals) {b1 : Nat} (hb1 : isHold b1) :
    ∀ (n : Nat) (x2 : Int32) (σ : Sg) (o : (Int32 × Sg)), L_X4_workOut_10 b1 n x2 σ = some o → G X 3 27 [(0, .ref (X.ad 79)), (1, .ref (X.ad b1)), (2, .int o.1)] [] o.2 → G X 3 10 [(0, .ref (X.ad 79)), (1, .ref (X.ad b1)), (2, .int x2)] [] σ := by
  intro n
  induction n with
  | zero => intro x2 σ o h; exact absurd h (by unfold L_X4_workOut_10; intro h; cases h)
  | succ n ih =>
    intro x2 σ o h hexit
    unfold L_X4_workOut_10 at h
    refine g_iload_n K 2 dX4_workOut_10 rfl rfl ?_
    refine g_iconst (v := 5) K dX4_workOut_11 ic_5 ?_
    refine g_icmp_ge (tgt := 27) K dX4_workOut_12 (by decide) (fun c1 => ?_) (fun c1 => ?_)
    · replace h := bp c1 h
      refine g_sub [0, 1, 2] rfl ?_
      obtain rfl := Option.some.inj h
      exact hexit
    · replace h := bn c1 h
      refine g_aload_n K 0 dX4_workOut_15 rfl rfl ?_
      refine g_aload_n K 1 dX4_workOut_16 rfl rfl ?_
      refine g_iload_n K 2 dX4_workOut_17 rfl rfl ?_
      obtain ⟨q2, e3, h⟩ := ob h
      refine g_cvv (As := [.ref (X.ad b1), .int x2]) (rest := []) K (m_X4_writeRow hb1 e3) yv_X4_writeRow ml_X4_24 rfl rfl rfl (e_Stakes kd_79) ltN_79 rfl rfl ⟨Nat.le_trans (Nat.le_of_ble_eq_true rfl) hR.1, Nat.le_trans (Nat.le_of_ble_eq_true rfl) hR.2⟩ (Nat.le_of_ble_eq_true rfl) dX4_workOut_18 ?_
      refine g_iinc (lv' := [(2, .int (x2 + 1)), (0, .ref (X.ad 79)), (1, .ref (X.ad b1))]) K 2 dX4_workOut_21 rfl (by rw [ic_1]) (by decide) rfl ?_
      refine g_goto (tgt := 10) K dX4_workOut_24 (by decide) ?_
      refine g_sub [1, 2, 0] rfl ?_
      exact ih _ _ _ h hexit
def f_X4_workOut (b1 : Nat) (σ : Sg) : Option Sg :=
  Option.bind (f_X4_lockedFirms b1 σ) (fun r1 =>
  jn (setR σ 79 (upd (σ.1 79) 0 r1)) (fun σ3 =>
  Option.bind (L_X4_workOut_10 b1 FU 0 σ3) (fun o5 =>
  Option.bind (f_X4_solve o5.2) (fun q7 =>
  some q7))))
set_option maxRecDepth 20000 in
set_option maxHeartbeats 4000000 in
theorem w_X4_workOut {X : Ctx} (K : Cok X cX4_workOut 3 RX4) (hR : 3 ≤ X.R.frames ∧ 68 ≤ X.R.locals) {b1 : Nat} {σ : Sg} (hb1 : isHold b1) {r : Sg} (h : f_X4_workOut b1 σ = some r) (hr : RV X cX4_workOut 3 r) : G X 3 0 [(0, .ref (X.ad 79)), (1, .ref (X.ad b1))] [] σ := by
  unfold f_X4_workOut at h
  refine g_aload_n K 0 dX4_workOut_0 rfl rfl ?_
  refine g_aload_n K 1 dX4_workOut_1 rfl rfl ?_
  obtain ⟨r1, e2, h⟩ := ob h
  refine g_csi (As := [.ref (X.ad b1)]) (rest := [.ref (X.ad 79)]) K (m_X4_lockedFirms hb1 e2) yv_X4_lockedFirms ml_X4_16 rfl rfl rfl ⟨Nat.le_trans (Nat.le_of_ble_eq_true rfl) hR.1, Nat.le_trans (Nat.le_of_ble_eq_true rfl) hR.2⟩ (Nat.le_of_ble_eq_true rfl) dX4_workOut_2 ?_
  refine g_put (f' := (upd (σ.1 79) 0 r1)) K (e_Stakes kd_79) ltN_79 rfl 0 (by decide) (e_Stakes kd_79) tyX4 tyX4_ok nmX4 rfl (ty := .int) (by decide +kernel) rfl rfl (Nat.le_of_ble_eq_true rfl) fw_X4_20 u_X4 dX4_workOut_5 (fun σ3 s4 => ?_)
  replace h := jn_at s4 h
  refine g_iconst (v := 0) K dX4_workOut_8 ic_0 ?_
  refine g_istore_n (lv' := [(2, .int 0), (0, .ref (X.ad 79)), (1, .ref (X.ad b1))]) K dX4_workOut_9 rfl (by decide) rfl ?_
  obtain ⟨o5, e6, h⟩ := ob h
  refine g_sub [1, 2, 0] rfl ?_
  refine l_X4_workOut_10 K hR hb1 _ _ _ _ e6 ?_
  refine g_aload_n K 0 dX4_workOut_27 rfl rfl ?_
  obtain ⟨q7, e8, h⟩ := ob h
  refine g_cvv (As := []) (rest := []) K (m_X4_solve e8) yv_X4_solve ml_X4_28 rfl rfl rfl (e_Stakes kd_79) ltN_79 rfl rfl ⟨Nat.le_trans (Nat.le_of_ble_eq_true rfl) hR.1, Nat.le_trans (Nat.le_of_ble_eq_true rfl) hR.2⟩ (Nat.le_of_ble_eq_true rfl) dX4_workOut_28 ?_
  exact hr _ _ _ dX4_workOut_31 (rt2 h)
theorem m_X4_workOut {b1 : Nat} {σ : Sg} (hb1 : isHold b1) {r : Sg} (h : f_X4_workOut b1 σ = some r) : CV yX4_workOut cX4_workOut 3 none 3 68 (fun ad => [.ref (ad 79), .ref (ad b1)]) σ r :=
  CV.of (by decide) (fun _ => Nat.le_of_ble_eq_true rfl) (fun X K hR hr => w_X4_workOut K hR hb1 h hr)
def L_X3_firmsWithShareOf_4 (b0 : Nat) (x1 : Int32) (σ : Sg) : Nat → Int32 → Int32 → Option (Int32 × Int32)
  | 0, _, _ => none
  | n + 1, x2, x3 =>
    if 5 ≤ x3 then
    (some (x2, x3))
    else
    (if inb x3 5 then
    (if inb (f_X6_holderOf x1) 10 then
    (if (σ.1 ((b0 + 1) + 1 + x3.toNatClampNeg) (f_X6_holderOf x1).toNatClampNeg) ≤ 0 then
    (L_X3_firmsWithShareOf_4 b0 x1 σ n x2 (x3 + 1))
    else
    (L_X3_firmsWithShareOf_4 b0 x1 σ n (x2 ||| (1 <<< (x3 &&& 31))) (x3 + 1)))
    else none)
    else none)
set_option maxRecDepth 20000 in
set_option maxHeartbeats 4000000 in
theorem l_X3_firmsWithShareOf_4 {X : Ctx} (K : Cok X cX3_firmsWithShareOf 4 RX3) (hR : 1 ≤ X.R.frames ∧ 20 ≤ X.R.locals) {b0 : Nat} {x1 : Int32} {σ : Sg} (hb0 : isHold b0) :
    ∀ (n : Nat) (x2 : Int32) (x3 : Int32) (o : (Int32 × Int32)), L_X3_firmsWithShareOf_4 b0 x1 σ n x2 x3 = some o → G X 4 35 [(0, .ref (X.ad b0)), (1, .int x1), (2, .int o.1), (3, .int o.2)] [] σ → G X 4 4 [(0, .ref (X.ad b0)), (1, .int x1), (2, .int x2), (3, .int x3)] [] σ := by
  intro n
  induction n with
  | zero => intro x2 x3 o h; exact absurd h (by unfold L_X3_firmsWithShareOf_4; intro h; cases h)
  | succ n ih =>
    intro x2 x3 o h hexit
    unfold L_X3_firmsWithShareOf_4 at h
    refine g_iload_n K 3 dX3_firmsWithShareOf_4 rfl rfl ?_
    refine g_iconst (v := 5) K dX3_firmsWithShareOf_5 ic_5 ?_
    refine g_icmp_ge (tgt := 35) K dX3_firmsWithShareOf_6 (by decide) (fun c1 => ?_) (fun c1 => ?_)
    · replace h := bp c1 h
      refine g_sub [0, 1, 2, 3] rfl ?_
      obtain rfl := Option.some.inj h
      exact hexit
    · replace h := bn c1 h
      refine g_aload_n K 0 dX3_firmsWithShareOf_9 rfl rfl ?_
      refine g_get (v := .ref (X.ad (b0 + 1))) K (e_Holdings (hd_k0 hb0)) (hd_l0 hb0) rfl 0 (by decide) rfl fw_X3_23 u_X2 dX3_firmsWithShareOf_10 ?_
      refine g_iload_n K 3 dX3_firmsWithShareOf_13 rfl rfl ?_
      obtain ⟨g2, h⟩ := og h
      refine g_aaldI K (hd_k1 hb0) (hd_l1 hb0) g2 dX3_firmsWithShareOf_14 ?_
      refine g_iload_n K 1 dX3_firmsWithShareOf_15 rfl rfl ?_
      refine g_cni (As := [.int x1]) (rest := [.ref (X.ad ((b0 + 1) + 1 + x3.toNatClampNeg))]) K (m_X6_holderOf x1 σ) yv_X6_holderOf ne_X3_29 rfl rfl rfl ⟨Nat.le_trans (Nat.le_of_ble_eq_true rfl) hR.1, Nat.le_trans (Nat.le_of_ble_eq_true rfl) hR.2⟩ (Nat.le_of_ble_eq_true rfl) dX3_firmsWithShareOf_16 ?_
      obtain ⟨g3, h⟩ := og h
      refine g_iald K (hd_r1 hb0 g2) (hd_s1 hb0 g2) g3 dX3_firmsWithShareOf_19 ?_
      refine g_if_le (tgt := 29) K dX3_firmsWithShareOf_20 (by decide) (fun c4 => ?_) (fun c4 => ?_)
      · replace h := bp c4 h
        refine g_iinc (lv' := [(3, .int (x3 + 1)), (0, .ref (X.ad b0)), (1, .int x1), (2, .int x2)]) K 3 dX3_firmsWithShareOf_29 rfl (by rw [ic_1]) (by decide) rfl ?_
        refine g_goto (tgt := 4) K dX3_firmsWithShareOf_32 (by decide) ?_
        refine g_sub [1, 2, 3, 0] rfl ?_
        exact ih _ _ _ h hexit
      · replace h := bn c4 h
        refine g_iload_n K 2 dX3_firmsWithShareOf_23 rfl rfl ?_
        refine g_iconst (v := 1) K dX3_firmsWithShareOf_24 ic_1 ?_
        refine g_iload_n K 3 dX3_firmsWithShareOf_25 rfl rfl ?_
        refine g_ishl K dX3_firmsWithShareOf_26 ?_
        refine g_ior K dX3_firmsWithShareOf_27 ?_
        refine g_istore_n (lv' := [(2, .int (x2 ||| (1 <<< (x3 &&& 31)))), (0, .ref (X.ad b0)), (1, .int x1), (3, .int x3)]) K dX3_firmsWithShareOf_28 rfl (by decide) rfl ?_
        refine g_iinc (lv' := [(3, .int (x3 + 1)), (2, .int (x2 ||| (1 <<< (x3 &&& 31)))), (0, .ref (X.ad b0)), (1, .int x1)]) K 3 dX3_firmsWithShareOf_29 rfl (by rw [ic_1]) (by decide) rfl ?_
        refine g_goto (tgt := 4) K dX3_firmsWithShareOf_32 (by decide) ?_
        refine g_sub [2, 3, 1, 0] rfl ?_
        exact ih _ _ _ h hexit
def f_X3_firmsWithShareOf (b0 : Nat) (x1 : Int32) (σ : Sg) : Option Int32 :=
  Option.bind (L_X3_firmsWithShareOf_4 b0 x1 σ FU 0 0) (fun o1 =>
  some o1.1)
set_option maxRecDepth 20000 in
set_option maxHeartbeats 4000000 in
theorem w_X3_firmsWithShareOf {X : Ctx} (K : Cok X cX3_firmsWithShareOf 4 RX3) (hR : 1 ≤ X.R.frames ∧ 20 ≤ X.R.locals) {b0 : Nat} {x1 : Int32} {σ : Sg} (hb0 : isHold b0) {r : Int32} (h : f_X3_firmsWithShareOf b0 x1 σ = some r) (hr : RI X cX3_firmsWithShareOf 4 (r, σ)) : G X 4 0 [(0, .ref (X.ad b0)), (1, .int x1)] [] σ := by
  unfold f_X3_firmsWithShareOf at h
  refine g_iconst (v := 0) K dX3_firmsWithShareOf_0 ic_0 ?_
  refine g_istore_n (lv' := [(2, .int 0), (0, .ref (X.ad b0)), (1, .int x1)]) K dX3_firmsWithShareOf_1 rfl (by decide) rfl ?_
  refine g_iconst (v := 0) K dX3_firmsWithShareOf_2 ic_0 ?_
  refine g_istore_n (lv' := [(3, .int 0), (2, .int 0), (0, .ref (X.ad b0)), (1, .int x1)]) K dX3_firmsWithShareOf_3 rfl (by decide) rfl ?_
  obtain ⟨o1, e2, h⟩ := ob h
  refine g_sub [2, 3, 1, 0] rfl ?_
  refine l_X3_firmsWithShareOf_4 K hR hb0 _ _ _ _ e2 ?_
  refine g_iload_n K 2 dX3_firmsWithShareOf_35 rfl rfl ?_
  exact hr _ _ _ _ dX3_firmsWithShareOf_36 (rt1 h)
theorem m_X3_firmsWithShareOf {b0 : Nat} {x1 : Int32} {σ : Sg} (hb0 : isHold b0) {r : Int32} (h : f_X3_firmsWithShareOf b0 x1 σ = some r) : CI yX3_firmsWithShareOf cX3_firmsWithShareOf 4 (some .int) 1 20 (fun ad => [.ref (ad b0), .int x1]) σ r σ :=
  CI.of (by decide) (fun _ => Nat.le_of_ble_eq_true rfl) (fun X K hR hr => w_X3_firmsWithShareOf K hR hb0 h hr)
def L_X3_workOut_2 (b1 : Nat) : Nat → Int32 → Sg → Option (Int32 × Sg)
  | 0, _, _ => none
  | n + 1, x2, σ =>
    if 5 ≤ x2 then
    (some (x2, σ))
    else
    (Option.bind (f_X3_firmsWithShareOf b1 x2 σ) (fun r2 =>
    if inb x2 5 then
    (jn (setR σ 87 (upd (σ.1 87) x2.toNatClampNeg r2)) (fun σ5 =>
    L_X3_workOut_2 b1 n (x2 + 1) σ5))
    else none))
set_option maxRecDepth 20000 in
set_option maxHeartbeats 4000000 in
theorem l_X3_workOut_2 {X : Ctx} (K : Cok X cX3_workOut 4 RX3) (hR : 2 ≤ X.R.frames ∧ 43 ≤ X.R.locals) {b1 : Nat} (hb1 : isHold b1) :
    ∀ (n : Nat) (x2 : Int32) (σ : Sg) (o : (Int32 × Sg)), L_X3_workOut_2 b1 n x2 σ = some o → G X 4 24 [(0, .ref (X.ad 86)), (1, .ref (X.ad b1)), (2, .int o.1)] [] o.2 → G X 4 2 [(0, .ref (X.ad 86)), (1, .ref (X.ad b1)), (2, .int x2)] [] σ := by
  intro n
  induction n with
  | zero => intro x2 σ o h; exact absurd h (by unfold L_X3_workOut_2; intro h; cases h)
  | succ n ih =>
    intro x2 σ o h hexit
    unfold L_X3_workOut_2 at h
    refine g_iload_n K 2 dX3_workOut_2 rfl rfl ?_
    refine g_iconst (v := 5) K dX3_workOut_3 ic_5 ?_
    refine g_icmp_ge (tgt := 24) K dX3_workOut_4 (by decide) (fun c1 => ?_) (fun c1 => ?_)
    · replace h := bp c1 h
      refine g_sub [0, 1, 2] rfl ?_
      obtain rfl := Option.some.inj h
      exact hexit
    · replace h := bn c1 h
      refine g_aload_n K 0 dX3_workOut_7 rfl rfl ?_
      refine g_get (v := .ref (X.ad 87)) K (e_Reach kd_86) ltN_86 rfl 0 (by decide) rfl fw_X3_9 u_X3 dX3_workOut_8 ?_
      refine g_iload_n K 2 dX3_workOut_11 rfl rfl ?_
      refine g_aload_n K 1 dX3_workOut_12 rfl rfl ?_
      refine g_iload_n K 2 dX3_workOut_13 rfl rfl ?_
      obtain ⟨r2, e3, h⟩ := ob h
      refine g_csi (As := [.ref (X.ad b1), .int x2]) (rest := [.int x2, .ref (X.ad 87)]) K (m_X3_firmsWithShareOf hb1 e3) yv_X3_firmsWithShareOf ml_X3_15 rfl rfl rfl ⟨Nat.le_trans (Nat.le_of_ble_eq_true rfl) hR.1, Nat.le_trans (Nat.le_of_ble_eq_true rfl) hR.2⟩ (Nat.le_of_ble_eq_true rfl) dX3_workOut_14 ?_
      obtain ⟨g4, h⟩ := og h
      refine g_iast K kd_87 ltN_87 g4 dX3_workOut_17 (fun σ5 s6 => ?_)
      replace h := jn_at s6 h
      refine g_iinc (lv' := [(2, .int (x2 + 1)), (0, .ref (X.ad 86)), (1, .ref (X.ad b1))]) K 2 dX3_workOut_18 rfl (by rw [ic_1]) (by decide) rfl ?_
      refine g_goto (tgt := 2) K dX3_workOut_21 (by decide) ?_
      refine g_sub [1, 2, 0] rfl ?_
      exact ih _ _ _ h hexit
def L_X3_workOut_33 (x2 : Int32) : Nat → Int32 → Sg → Option (Int32 × Sg)
  | 0, _, _ => none
  | n + 1, x3, σ =>
    if 5 ≤ x3 then
    (some (x3, σ))
    else
    (if inb x3 5 then
    (if (f_X6_has (σ.1 87 x3.toNatClampNeg) x2) = 0 then
    (L_X3_workOut_33 x2 n (x3 + 1) σ)
    else
    (if inb x3 5 then
    (if inb x2 5 then
    (if inb x3 5 then
    (jn (setR σ 87 (upd (σ.1 87) x3.toNatClampNeg ((σ.1 87 x3.toNatClampNeg) ||| (σ.1 87 x2.toNatClampNeg)))) (fun σ7 =>
    L_X3_workOut_33 x2 n (x3 + 1) σ7))
    else none)
    else none)
    else none))
    else none)
set_option maxRecDepth 20000 in
set_option maxHeartbeats 4000000 in
theorem l_X3_workOut_33 {X : Ctx} (K : Cok X cX3_workOut 4 RX3) (hR : 2 ≤ X.R.frames ∧ 43 ≤ X.R.locals) {x2 : Int32}  :
    ∀ (n : Nat) (x3 : Int32) (σ : Sg) (o : (Int32 × Sg)), L_X3_workOut_33 x2 n x3 σ = some o → G X 4 72 [(0, .ref (X.ad 86)), (2, .int x2), (3, .int o.1)] [] o.2 → G X 4 33 [(0, .ref (X.ad 86)), (2, .int x2), (3, .int x3)] [] σ := by
  intro n
  induction n with
  | zero => intro x3 σ o h; exact absurd h (by unfold L_X3_workOut_33; intro h; cases h)
  | succ n ih =>
    intro x3 σ o h hexit
    unfold L_X3_workOut_33 at h
    refine g_iload_n K 2 dX3_workOut_33 rfl rfl ?_
    refine g_iconst (v := 5) K dX3_workOut_34 ic_5 ?_
    refine g_icmp_ge (tgt := 72) K dX3_workOut_35 (by decide) (fun c1 => ?_) (fun c1 => ?_)
    · replace h := bp c1 h
      refine g_sub [0, 1, 2] rfl ?_
      obtain rfl := Option.some.inj h
      exact hexit
    · replace h := bn c1 h
      refine g_aload_n K 0 dX3_workOut_38 rfl rfl ?_
      refine g_get (v := .ref (X.ad 87)) K (e_Reach kd_86) ltN_86 rfl 0 (by decide) rfl fw_X3_9 u_X3 dX3_workOut_39 ?_
      refine g_iload_n K 2 dX3_workOut_42 rfl rfl ?_
      obtain ⟨g2, h⟩ := og h
      refine g_iald K kd_87 ltN_87 g2 dX3_workOut_43 ?_
      refine g_iload_n K 1 dX3_workOut_44 rfl rfl ?_
      refine g_cni (As := [.int (σ.1 87 x3.toNatClampNeg), .int x2]) (rest := []) K (m_X6_has (σ.1 87 x3.toNatClampNeg) x2 σ) yv_X6_has ne_X3_19 rfl rfl rfl ⟨Nat.le_trans (Nat.le_of_ble_eq_true rfl) hR.1, Nat.le_trans (Nat.le_of_ble_eq_true rfl) hR.2⟩ (Nat.le_of_ble_eq_true rfl) dX3_workOut_45 ?_
      refine g_if_eq (tgt := 66) K dX3_workOut_48 (by decide) (fun c3 => ?_) (fun c3 => ?_)
      · replace h := bp c3 h
        refine g_iinc (lv' := [(3, .int (x3 + 1)), (0, .ref (X.ad 86)), (2, .int x2)]) K 2 dX3_workOut_66 rfl (by rw [ic_1]) (by decide) rfl ?_
        refine g_goto (tgt := 33) K dX3_workOut_69 (by decide) ?_
        refine g_sub [1, 2, 0] rfl ?_
        exact ih _ _ _ h hexit
      · replace h := bn c3 h
        refine g_aload_n K 0 dX3_workOut_51 rfl rfl ?_
        refine g_get (v := .ref (X.ad 87)) K (e_Reach kd_86) ltN_86 rfl 0 (by decide) rfl fw_X3_9 u_X3 dX3_workOut_52 ?_
        refine g_iload_n K 2 dX3_workOut_55 rfl rfl ?_
        refine g_dup2 K dX3_workOut_56 rfl rfl ?_
        obtain ⟨g4, h⟩ := og h
        refine g_iald K kd_87 ltN_87 g4 dX3_workOut_57 ?_
        refine g_aload_n K 0 dX3_workOut_58 rfl rfl ?_
        refine g_get (v := .ref (X.ad 87)) K (e_Reach kd_86) ltN_86 rfl 0 (by decide) rfl fw_X3_9 u_X3 dX3_workOut_59 ?_
        refine g_iload_n K 1 dX3_workOut_62 rfl rfl ?_
        obtain ⟨g5, h⟩ := og h
        refine g_iald K kd_87 ltN_87 g5 dX3_workOut_63 ?_
        refine g_ior K dX3_workOut_64 ?_
        obtain ⟨g6, h⟩ := og h
        refine g_iast K kd_87 ltN_87 g6 dX3_workOut_65 (fun σ7 s8 => ?_)
        replace h := jn_at s8 h
        refine g_iinc (lv' := [(3, .int (x3 + 1)), (0, .ref (X.ad 86)), (2, .int x2)]) K 2 dX3_workOut_66 rfl (by rw [ic_1]) (by decide) rfl ?_
        refine g_goto (tgt := 33) K dX3_workOut_69 (by decide) ?_
        refine g_sub [1, 2, 0] rfl ?_
        exact ih _ _ _ h hexit
def L_X3_workOut_26  : Nat → Int32 → Sg → Option (Int32 × Sg)
  | 0, _, _ => none
  | n + 1, x2, σ =>
    if 5 ≤ x2 then
    (some (x2, σ))
    else
    (Option.bind (L_X3_workOut_33 x2 FU 0 σ) (fun o2 =>
    L_X3_workOut_26 n (x2 + 1) o2.2))
set_option maxRecDepth 20000 in
set_option maxHeartbeats 4000000 in
theorem l_X3_workOut_26 {X : Ctx} (K : Cok X cX3_workOut 4 RX3) (hR : 2 ≤ X.R.frames ∧ 43 ≤ X.R.locals)   :
    ∀ (n : Nat) (x2 : Int32) (σ : Sg) (o : (Int32 × Sg)), L_X3_workOut_26  n x2 σ = some o → G X 4 78 [(0, .ref (X.ad 86)), (2, .int o.1)] [] o.2 → G X 4 26 [(0, .ref (X.ad 86)), (2, .int x2)] [] σ := by
  intro n
  induction n with
  | zero => intro x2 σ o h; exact absurd h (by unfold L_X3_workOut_26; intro h; cases h)
  | succ n ih =>
    intro x2 σ o h hexit
    unfold L_X3_workOut_26 at h
    refine g_iload_n K 1 dX3_workOut_26 rfl rfl ?_
    refine g_iconst (v := 5) K dX3_workOut_27 ic_5 ?_
    refine g_icmp_ge (tgt := 78) K dX3_workOut_28 (by decide) (fun c1 => ?_) (fun c1 => ?_)
    · replace h := bp c1 h
      refine g_sub [0, 1] rfl ?_
      obtain rfl := Option.some.inj h
      exact hexit
    · replace h := bn c1 h
      refine g_iconst (v := 0) K dX3_workOut_31 ic_0 ?_
      refine g_istore_n (lv' := [(3, .int 0), (0, .ref (X.ad 86)), (2, .int x2)]) K dX3_workOut_32 rfl (by decide) rfl ?_
      obtain ⟨o2, e3, h⟩ := ob h
      refine g_sub [1, 2, 0] rfl ?_
      refine l_X3_workOut_33 K hR _ _ _ _ e3 ?_
      refine g_iinc (lv' := [(2, .int (x2 + 1)), (0, .ref (X.ad 86)), (3, .int o2.1)]) K 1 dX3_workOut_72 rfl (by rw [ic_1]) (by decide) rfl ?_
      refine g_goto (tgt := 26) K dX3_workOut_75 (by decide) ?_
      refine g_sub [1, 0] rfl ?_
      exact ih _ _ _ h hexit
def f_X3_workOut (b1 : Nat) (σ : Sg) : Option Sg :=
  Option.bind (L_X3_workOut_2 b1 FU 0 σ) (fun o1 =>
  Option.bind (L_X3_workOut_26 FU 0 o1.2) (fun o3 =>
  some o3.2))
set_option maxRecDepth 20000 in
set_option maxHeartbeats 4000000 in
theorem w_X3_workOut {X : Ctx} (K : Cok X cX3_workOut 4 RX3) (hR : 2 ≤ X.R.frames ∧ 43 ≤ X.R.locals) {b1 : Nat} {σ : Sg} (hb1 : isHold b1) {r : Sg} (h : f_X3_workOut b1 σ = some r) (hr : RV X cX3_workOut 4 r) : G X 4 0 [(0, .ref (X.ad 86)), (1, .ref (X.ad b1))] [] σ := by
  unfold f_X3_workOut at h
  refine g_iconst (v := 0) K dX3_workOut_0 ic_0 ?_
  refine g_istore_n (lv' := [(2, .int 0), (0, .ref (X.ad 86)), (1, .ref (X.ad b1))]) K dX3_workOut_1 rfl (by decide) rfl ?_
  obtain ⟨o1, e2, h⟩ := ob h
  refine g_sub [1, 2, 0] rfl ?_
  refine l_X3_workOut_2 K hR hb1 _ _ _ _ e2 ?_
  refine g_iconst (v := 0) K dX3_workOut_24 ic_0 ?_
  refine g_istore_n (lv' := [(2, .int 0), (0, .ref (X.ad 86)), (1, .ref (X.ad b1))]) K dX3_workOut_25 rfl (by decide) rfl ?_
  obtain ⟨o3, e4, h⟩ := ob h
  refine g_sub [1, 0] rfl ?_
  refine l_X3_workOut_26 K hR _ _ _ _ e4 ?_
  exact hr _ _ _ dX3_workOut_78 (rt2 h)
theorem m_X3_workOut {b1 : Nat} {σ : Sg} (hb1 : isHold b1) {r : Sg} (h : f_X3_workOut b1 σ = some r) : CV yX3_workOut cX3_workOut 4 none 2 43 (fun ad => [.ref (ad 86), .ref (ad b1)]) σ r :=
  CV.of (by decide) (fun _ => Nat.le_of_ble_eq_true rfl) (fun X K hR hr => w_X3_workOut K hR hb1 h hr)
def f_X4_upper (x1 : Int32) (x2 : Int32) (σ : Sg) : Option Int64 :=
  if inb x1 5 then
  (if inb (5 + x2) 10 then
  (some ((σ.2 (80 + 1 + x1.toNatClampNeg) (5 + x2).toNatClampNeg)))
  else none)
  else none
set_option maxRecDepth 20000 in
set_option maxHeartbeats 4000000 in
theorem w_X4_upper {X : Ctx} (K : Cok X cX4_upper 3 RX4) (hR : 0 ≤ X.R.frames ∧ 0 ≤ X.R.locals) {x1 : Int32} {x2 : Int32} {σ : Sg}  {r : Int64} (h : f_X4_upper x1 x2 σ = some r) (hr : RLg X cX4_upper 3 (r, σ)) : G X 3 0 [(0, .ref (X.ad 79)), (1, .int x1), (2, .int x2)] [] σ := by
  unfold f_X4_upper at h
  refine g_aload_n K 0 dX4_upper_0 rfl rfl ?_
  refine g_get (v := .ref (X.ad 80)) K (e_Stakes kd_79) ltN_79 rfl 1 (by decide) rfl fw_X4_13 u_X4 dX4_upper_1 ?_
  refine g_iload_n K 1 dX4_upper_4 rfl rfl ?_
  obtain ⟨g1, h⟩ := og h
  refine g_aaldL K kd_80 ltN_80 g1 dX4_upper_5 ?_
  refine g_iconst (v := 5) K dX4_upper_6 ic_5 ?_
  refine g_iload_n K 2 dX4_upper_7 rfl rfl ?_
  refine g_iadd K dX4_upper_8 ?_
  obtain ⟨g2, h⟩ := og h
  refine g_lald K (st_r g1) (st_s g1) g2 dX4_upper_9 ?_
  exact hr _ _ _ _ dX4_upper_10 (rt1 h)
theorem m_X4_upper {x1 : Int32} {x2 : Int32} {σ : Sg}  {r : Int64} (h : f_X4_upper x1 x2 σ = some r) : CL yX4_upper cX4_upper 3 (some .long) 0 0 (fun ad => [.ref (ad 79), .int x1, .int x2]) σ r σ :=
  CL.of (by decide) (fun _ => Nat.le_of_ble_eq_true rfl) (fun X K hR hr => w_X4_upper K hR h hr)
def f_X4_lower (x1 : Int32) (σ : Sg) : Option Int64 :=
  if inb x1 5 then
  (if inb x1 10 then
  (some (σ.2 (80 + 1 + x1.toNatClampNeg) x1.toNatClampNeg))
  else none)
  else none
set_option maxRecDepth 20000 in
set_option maxHeartbeats 4000000 in
theorem w_X4_lower {X : Ctx} (K : Cok X cX4_lower 2 RX4) (hR : 0 ≤ X.R.frames ∧ 0 ≤ X.R.locals) {x1 : Int32} {σ : Sg}  {r : Int64} (h : f_X4_lower x1 σ = some r) (hr : RLg X cX4_lower 2 (r, σ)) : G X 2 0 [(0, .ref (X.ad 79)), (1, .int x1)] [] σ := by
  unfold f_X4_lower at h
  refine g_aload_n K 0 dX4_lower_0 rfl rfl ?_
  refine g_get (v := .ref (X.ad 80)) K (e_Stakes kd_79) ltN_79 rfl 1 (by decide) rfl fw_X4_13 u_X4 dX4_lower_1 ?_
  refine g_iload_n K 1 dX4_lower_4 rfl rfl ?_
  obtain ⟨g1, h⟩ := og h
  refine g_aaldL K kd_80 ltN_80 g1 dX4_lower_5 ?_
  refine g_iload_n K 1 dX4_lower_6 rfl rfl ?_
  obtain ⟨g2, h⟩ := og h
  refine g_lald K (st_r g1) (st_s g1) g2 dX4_lower_7 ?_
  exact hr _ _ _ _ dX4_lower_8 (rt1 h)
theorem m_X4_lower {x1 : Int32} {σ : Sg}  {r : Int64} (h : f_X4_lower x1 σ = some r) : CL yX4_lower cX4_lower 2 (some .long) 0 0 (fun ad => [.ref (ad 79), .int x1]) σ r σ :=
  CL.of (by decide) (fun _ => Nat.le_of_ble_eq_true rfl) (fun X K hR hr => w_X4_lower K hR h hr)
def L_X4_upperOfNobody_9 (x1 : Int32) (σ : Sg) : Nat → Int64 → Int32 → Option (Int64 × Int32)
  | 0, _, _ => none
  | n + 1, x2, x4 =>
    if 5 ≤ x4 then
    (some (x2, x4))
    else
    (Option.bind (f_X4_upper x1 x4 σ) (fun r2 =>
    L_X4_upperOfNobody_9 x1 σ n (x2 - r2) (x4 + 1)))
set_option maxRecDepth 20000 in
set_option maxHeartbeats 4000000 in
theorem l_X4_upperOfNobody_9 {X : Ctx} (K : Cok X cX4_upperOfNobody 5 RX4) (hR : 1 ≤ X.R.frames ∧ 22 ≤ X.R.locals) {x1 : Int32} {σ : Sg}  :
    ∀ (n : Nat) (x2 : Int64) (x4 : Int32) (o : (Int64 × Int32)), L_X4_upperOfNobody_9 x1 σ n x2 x4 = some o → G X 5 31 [(0, .ref (X.ad 79)), (1, .int x1), (2, .long o.1), (4, .int o.2)] [] σ → G X 5 9 [(0, .ref (X.ad 79)), (1, .int x1), (2, .long x2), (4, .int x4)] [] σ := by
  intro n
  induction n with
  | zero => intro x2 x4 o h; exact absurd h (by unfold L_X4_upperOfNobody_9; intro h; cases h)
  | succ n ih =>
    intro x2 x4 o h hexit
    unfold L_X4_upperOfNobody_9 at h
    refine g_iload K 3 dX4_upperOfNobody_9 rfl ?_
    refine g_iconst (v := 5) K dX4_upperOfNobody_11 ic_5 ?_
    refine g_icmp_ge (tgt := 31) K dX4_upperOfNobody_12 (by decide) (fun c1 => ?_) (fun c1 => ?_)
    · replace h := bp c1 h
      refine g_sub [0, 1, 2, 3] rfl ?_
      obtain rfl := Option.some.inj h
      exact hexit
    · replace h := bn c1 h
      refine g_lload_n K 2 dX4_upperOfNobody_15 rfl rfl ?_
      refine g_aload_n K 0 dX4_upperOfNobody_16 rfl rfl ?_
      refine g_iload_n K 1 dX4_upperOfNobody_17 rfl rfl ?_
      refine g_iload K 3 dX4_upperOfNobody_18 rfl ?_
      obtain ⟨r2, e3, h⟩ := ob h
      refine g_cvl (As := [.int x1, .int x4]) (rest := [.long x2]) K (m_X4_upper e3) yv_X4_upper ml_X4_59 rfl rfl rfl (e_Stakes kd_79) ltN_79 rfl rfl ⟨Nat.le_trans (Nat.le_of_ble_eq_true rfl) hR.1, Nat.le_trans (Nat.le_of_ble_eq_true rfl) hR.2⟩ (Nat.le_of_ble_eq_true rfl) dX4_upperOfNobody_20 ?_
      refine g_lsub K dX4_upperOfNobody_23 ?_
      refine g_lstore_n (lv' := [(2, .long (x2 - r2)), (0, .ref (X.ad 79)), (1, .int x1), (4, .int x4)]) K dX4_upperOfNobody_24 rfl (by decide) rfl ?_
      refine g_iinc (lv' := [(4, .int (x4 + 1)), (2, .long (x2 - r2)), (0, .ref (X.ad 79)), (1, .int x1)]) K 3 dX4_upperOfNobody_25 rfl (by rw [ic_1]) (by decide) rfl ?_
      refine g_goto (tgt := 9) K dX4_upperOfNobody_28 (by decide) ?_
      refine g_sub [2, 3, 1, 0] rfl ?_
      exact ih _ _ _ h hexit
def f_X4_upperOfNobody (x1 : Int32) (σ : Sg) : Option Int64 :=
  Option.bind (f_X4_lower x1 σ) (fun r1 =>
  Option.bind (L_X4_upperOfNobody_9 x1 σ FU r1 0) (fun o3 =>
  some o3.1))
set_option maxRecDepth 20000 in
set_option maxHeartbeats 4000000 in
theorem w_X4_upperOfNobody {X : Ctx} (K : Cok X cX4_upperOfNobody 5 RX4) (hR : 1 ≤ X.R.frames ∧ 22 ≤ X.R.locals) {x1 : Int32} {σ : Sg}  {r : Int64} (h : f_X4_upperOfNobody x1 σ = some r) (hr : RLg X cX4_upperOfNobody 5 (r, σ)) : G X 5 0 [(0, .ref (X.ad 79)), (1, .int x1)] [] σ := by
  unfold f_X4_upperOfNobody at h
  refine g_aload_n K 0 dX4_upperOfNobody_0 rfl rfl ?_
  refine g_iload_n K 1 dX4_upperOfNobody_1 rfl rfl ?_
  obtain ⟨r1, e2, h⟩ := ob h
  refine g_cvl (As := [.int x1]) (rest := []) K (m_X4_lower e2) yv_X4_lower ml_X4_55 rfl rfl rfl (e_Stakes kd_79) ltN_79 rfl rfl ⟨Nat.le_trans (Nat.le_of_ble_eq_true rfl) hR.1, Nat.le_trans (Nat.le_of_ble_eq_true rfl) hR.2⟩ (Nat.le_of_ble_eq_true rfl) dX4_upperOfNobody_2 ?_
  refine g_lstore_n (lv' := [(2, .long r1), (0, .ref (X.ad 79)), (1, .int x1)]) K dX4_upperOfNobody_5 rfl (by decide) rfl ?_
  refine g_iconst (v := 0) K dX4_upperOfNobody_6 ic_0 ?_
  refine g_istore (lv' := [(4, .int 0), (2, .long r1), (0, .ref (X.ad 79)), (1, .int x1)]) K dX4_upperOfNobody_7 (by decide) rfl ?_
  obtain ⟨o3, e4, h⟩ := ob h
  refine g_sub [2, 3, 1, 0] rfl ?_
  refine l_X4_upperOfNobody_9 K hR _ _ _ _ e4 ?_
  refine g_lload_n K 2 dX4_upperOfNobody_31 rfl rfl ?_
  exact hr _ _ _ _ dX4_upperOfNobody_32 (rt1 h)
theorem m_X4_upperOfNobody {x1 : Int32} {σ : Sg}  {r : Int64} (h : f_X4_upperOfNobody x1 σ = some r) : CL yX4_upperOfNobody cX4_upperOfNobody 5 (some .long) 1 22 (fun ad => [.ref (ad 79), .int x1]) σ r σ :=
  CL.of (by decide) (fun _ => Nat.le_of_ble_eq_true rfl) (fun X K hR hr => w_X4_upperOfNobody K hR h hr)
def L_X4_rankOf_5 (x1 : Int32) (x2 : Int32) (σ : Sg) : Nat → Int32 → Int32 → Option (Int32 × Int32)
  | 0, _, _ => none
  | n + 1, x3, x4 =>
    if 4 ≤ x4 then
    (some (x3, x4))
    else
    (Option.bind (f_X4_upper x1 x4 σ) (fun r2 =>
    Option.bind (f_X4_upper x1 x2 σ) (fun r4 =>
    jn (if (lg_cmp r2 r4) = 0 then (if x2 ≤ x4 then (0) else (1)) else (0) : Int32) (fun v9 =>
    Option.bind (if v9 = 0 then (Option.bind (f_X4_upper x1 x4 σ) (fun r21 => Option.bind (f_X4_upper x1 x2 σ) (fun r23 => if (lg_cmp r21 r23) ≤ 0 then (some 0) else (some 1)))) else (some 1) : Option Int32) (fun v19 =>
    L_X4_rankOf_5 x1 x2 σ n (x3 + (f_X6_asNumber v19)) (x4 + 1))))))
set_option maxRecDepth 20000 in
set_option maxHeartbeats 4000000 in
theorem l_X4_rankOf_5 {X : Ctx} (K : Cok X cX4_rankOf 6 RX4) (hR : 1 ≤ X.R.frames ∧ 22 ≤ X.R.locals) {x1 : Int32} {x2 : Int32} {σ : Sg}  :
    ∀ (n : Nat) (x3 : Int32) (x4 : Int32) (o : (Int32 × Int32)), L_X4_rankOf_5 x1 x2 σ n x3 x4 = some o → G X 6 80 [(0, .ref (X.ad 79)), (1, .int x1), (2, .int x2), (3, .int o.1), (4, .int o.2)] [] σ → G X 6 5 [(0, .ref (X.ad 79)), (1, .int x1), (2, .int x2), (3, .int x3), (4, .int x4)] [] σ := by
  intro n
  induction n with
  | zero => intro x3 x4 o h; exact absurd h (by unfold L_X4_rankOf_5; intro h; cases h)
  | succ n ih =>
    intro x3 x4 o h hexit
    unfold L_X4_rankOf_5 at h
    refine g_iload K 4 dX4_rankOf_5 rfl ?_
    refine g_iconst (v := 4) K dX4_rankOf_7 ic_4 ?_
    refine g_icmp_ge (tgt := 80) K dX4_rankOf_8 (by decide) (fun c1 => ?_) (fun c1 => ?_)
    · replace h := bp c1 h
      refine g_sub [0, 1, 2, 3, 4] rfl ?_
      obtain rfl := Option.some.inj h
      exact hexit
    · replace h := bn c1 h
      refine g_aload_n K 0 dX4_rankOf_11 rfl rfl ?_
      refine g_iload_n K 1 dX4_rankOf_12 rfl rfl ?_
      refine g_iload K 4 dX4_rankOf_13 rfl ?_
      obtain ⟨r2, e3, h⟩ := ob h
      refine g_cvl (As := [.int x1, .int x4]) (rest := []) K (m_X4_upper e3) yv_X4_upper ml_X4_59 rfl rfl rfl (e_Stakes kd_79) ltN_79 rfl rfl ⟨Nat.le_trans (Nat.le_of_ble_eq_true rfl) hR.1, Nat.le_trans (Nat.le_of_ble_eq_true rfl) hR.2⟩ (Nat.le_of_ble_eq_true rfl) dX4_rankOf_15 ?_
      refine g_aload_n K 0 dX4_rankOf_18 rfl rfl ?_
      refine g_iload_n K 1 dX4_rankOf_19 rfl rfl ?_
      refine g_iload_n K 2 dX4_rankOf_20 rfl rfl ?_
      obtain ⟨r4, e5, h⟩ := ob h
      refine g_cvl (As := [.int x1, .int x2]) (rest := [.long r2]) K (m_X4_upper e5) yv_X4_upper ml_X4_59 rfl rfl rfl (e_Stakes kd_79) ltN_79 rfl rfl ⟨Nat.le_trans (Nat.le_of_ble_eq_true rfl) hR.1, Nat.le_trans (Nat.le_of_ble_eq_true rfl) hR.2⟩ (Nat.le_of_ble_eq_true rfl) dX4_rankOf_21 ?_
      refine g_lcmp K dX4_rankOf_24 ?_
      refine jn_cut h (P := (fun v9 => G X 6 39 [(0, .ref (X.ad 79)), (1, .int x1), (2, .int x2), (3, .int x3), (4, .int x4)] [.int v9] σ)) (fun v9 h => ?_) (fun tail_8 => ?_)
      · refine g_istore (lv' := [(5, .int v9), (0, .ref (X.ad 79)), (1, .int x1), (2, .int x2), (3, .int x3), (4, .int x4)]) K dX4_rankOf_39 (by decide) rfl ?_
        refine g_iload_n K 4 dX4_rankOf_41 rfl rfl ?_
        refine g_iload K 0 dX4_rankOf_42 rfl ?_
        refine bd_cut h (P := (fun v19 => G X 6 69 [(5, .int v9), (0, .ref (X.ad 79)), (1, .int x1), (2, .int x2), (3, .int x3), (4, .int x4)] [.int v19, .int x3] σ)) (fun v19 h => ?_) (fun tail_18 => ?_)
        · refine g_cni (As := [.int v19]) (rest := [.int x3]) K (m_X6_asNumber v19 σ) yv_X6_asNumber ne_X4_63 rfl rfl rfl ⟨Nat.le_trans (Nat.le_of_ble_eq_true rfl) hR.1, Nat.le_trans (Nat.le_of_ble_eq_true rfl) hR.2⟩ (Nat.le_of_ble_eq_true rfl) dX4_rankOf_69 ?_
          refine g_iadd K dX4_rankOf_72 ?_
          refine g_istore_n (lv' := [(3, .int (x3 + (f_X6_asNumber v19))), (5, .int v9), (0, .ref (X.ad 79)), (1, .int x1), (2, .int x2), (4, .int x4)]) K dX4_rankOf_73 rfl (by decide) rfl ?_
          refine g_iinc (lv' := [(4, .int (x4 + 1)), (3, .int (x3 + (f_X6_asNumber v19))), (5, .int v9), (0, .ref (X.ad 79)), (1, .int x1), (2, .int x2)]) K 5 dX4_rankOf_74 rfl (by rw [ic_1]) (by decide) rfl ?_
          refine g_goto (tgt := 5) K dX4_rankOf_77 (by decide) ?_
          refine g_sub [3, 4, 5, 1, 0] rfl ?_
          exact ih _ _ _ h hexit
        · refine g_if_ne (tgt := 64) K dX4_rankOf_44 (by decide) (fun c20 => ?_) (fun c20 => ?_)
          · replace h := jbn c20 h
            refine g_iconst (v := 1) K dX4_rankOf_64 ic_1 ?_
            refine g_goto (tgt := 69) K dX4_rankOf_65 (by decide) ?_
            exact tail_18 _ h
          · replace h := jbp c20 h
            refine g_aload_n K 1 dX4_rankOf_47 rfl rfl ?_
            refine g_iload_n K 2 dX4_rankOf_48 rfl rfl ?_
            refine g_iload K 5 dX4_rankOf_49 rfl ?_
            obtain ⟨r21, e22, h⟩ := obb h
            refine g_cvl (As := [.int x1, .int x4]) (rest := [.int x3]) K (m_X4_upper e22) yv_X4_upper ml_X4_59 rfl rfl rfl (e_Stakes kd_79) ltN_79 rfl rfl ⟨Nat.le_trans (Nat.le_of_ble_eq_true rfl) hR.1, Nat.le_trans (Nat.le_of_ble_eq_true rfl) hR.2⟩ (Nat.le_of_ble_eq_true rfl) dX4_rankOf_51 ?_
            refine g_aload_n K 1 dX4_rankOf_54 rfl rfl ?_
            refine g_iload_n K 2 dX4_rankOf_55 rfl rfl ?_
            refine g_iload_n K 3 dX4_rankOf_56 rfl rfl ?_
            obtain ⟨r23, e24, h⟩ := obb h
            refine g_cvl (As := [.int x1, .int x2]) (rest := [.long r21, .int x3]) K (m_X4_upper e24) yv_X4_upper ml_X4_59 rfl rfl rfl (e_Stakes kd_79) ltN_79 rfl rfl ⟨Nat.le_trans (Nat.le_of_ble_eq_true rfl) hR.1, Nat.le_trans (Nat.le_of_ble_eq_true rfl) hR.2⟩ (Nat.le_of_ble_eq_true rfl) dX4_rankOf_57 ?_
            refine g_lcmp K dX4_rankOf_60 ?_
            refine g_if_le (tgt := 68) K dX4_rankOf_61 (by decide) (fun c25 => ?_) (fun c25 => ?_)
            · replace h := jbp c25 h
              refine g_iconst (v := 0) K dX4_rankOf_68 ic_0 ?_
              exact tail_18 _ h
            · replace h := jbn c25 h
              refine g_iconst (v := 1) K dX4_rankOf_64 ic_1 ?_
              refine g_goto (tgt := 69) K dX4_rankOf_65 (by decide) ?_
              exact tail_18 _ h
      · refine g_if_ne (tgt := 38) K dX4_rankOf_25 (by decide) (fun c10 => ?_) (fun c10 => ?_)
        · replace h := jpn c10 h
          refine g_iconst (v := 0) K dX4_rankOf_38 ic_0 ?_
          exact tail_8 _ h
        · replace h := jpp c10 h
          refine g_iload K 4 dX4_rankOf_28 rfl ?_
          refine g_iload_n K 2 dX4_rankOf_30 rfl rfl ?_
          refine g_icmp_ge (tgt := 38) K dX4_rankOf_31 (by decide) (fun c11 => ?_) (fun c11 => ?_)
          · replace h := jpp c11 h
            refine g_iconst (v := 0) K dX4_rankOf_38 ic_0 ?_
            exact tail_8 _ h
          · replace h := jpn c11 h
            refine g_iconst (v := 1) K dX4_rankOf_34 ic_1 ?_
            refine g_goto (tgt := 39) K dX4_rankOf_35 (by decide) ?_
            exact tail_8 _ h
def f_X4_rankOf (x1 : Int32) (x2 : Int32) (σ : Sg) : Option Int32 :=
  Option.bind (L_X4_rankOf_5 x1 x2 σ FU 0 0) (fun o1 =>
  some o1.1)
set_option maxRecDepth 20000 in
set_option maxHeartbeats 4000000 in
theorem w_X4_rankOf {X : Ctx} (K : Cok X cX4_rankOf 6 RX4) (hR : 1 ≤ X.R.frames ∧ 22 ≤ X.R.locals) {x1 : Int32} {x2 : Int32} {σ : Sg}  {r : Int32} (h : f_X4_rankOf x1 x2 σ = some r) (hr : RI X cX4_rankOf 6 (r, σ)) : G X 6 0 [(0, .ref (X.ad 79)), (1, .int x1), (2, .int x2)] [] σ := by
  unfold f_X4_rankOf at h
  refine g_iconst (v := 0) K dX4_rankOf_0 ic_0 ?_
  refine g_istore_n (lv' := [(3, .int 0), (0, .ref (X.ad 79)), (1, .int x1), (2, .int x2)]) K dX4_rankOf_1 rfl (by decide) rfl ?_
  refine g_iconst (v := 0) K dX4_rankOf_2 ic_0 ?_
  refine g_istore (lv' := [(4, .int 0), (3, .int 0), (0, .ref (X.ad 79)), (1, .int x1), (2, .int x2)]) K dX4_rankOf_3 (by decide) rfl ?_
  obtain ⟨o1, e2, h⟩ := ob h
  refine g_sub [2, 3, 4, 1, 0] rfl ?_
  refine l_X4_rankOf_5 K hR _ _ _ _ e2 ?_
  refine g_iload_n K 3 dX4_rankOf_80 rfl rfl ?_
  exact hr _ _ _ _ dX4_rankOf_81 (rt1 h)
theorem m_X4_rankOf {x1 : Int32} {x2 : Int32} {σ : Sg}  {r : Int32} (h : f_X4_rankOf x1 x2 σ = some r) : CI yX4_rankOf cX4_rankOf 6 (some .int) 1 22 (fun ad => [.ref (ad 79), .int x1, .int x2]) σ r σ :=
  CI.of (by decide) (fun _ => Nat.le_of_ble_eq_true rfl) (fun X K hR hr => w_X4_rankOf K hR h hr)
def L_X4_personsAbove_5 (x1 : Int32) (x2 : Int32) (σ : Sg) : Nat → Int32 → Int32 → Option (Int32 × Int32)
  | 0, _, _ => none
  | n + 1, x3, x4 =>
    if 4 ≤ x4 then
    (some (x3, x4))
    else
    (Option.bind (f_X4_upper x1 x4 σ) (fun r2 =>
    Option.bind (f_X4_lower x1 σ) (fun r4 =>
    if (lg_cmp (r2 * 100) ((Int32.toInt64 x2) * r4)) ≤ 0 then
    (L_X4_personsAbove_5 x1 x2 σ n x3 (x4 + 1))
    else
    (L_X4_personsAbove_5 x1 x2 σ n (x3 ||| (1 <<< (x4 &&& 31))) (x4 + 1)))))
set_option maxRecDepth 20000 in
set_option maxHeartbeats 4000000 in
theorem l_X4_personsAbove_5 {X : Ctx} (K : Cok X cX4_personsAbove 5 RX4) (hR : 1 ≤ X.R.frames ∧ 22 ≤ X.R.locals) {x1 : Int32} {x2 : Int32} {σ : Sg}  :
    ∀ (n : Nat) (x3 : Int32) (x4 : Int32) (o : (Int32 × Int32)), L_X4_personsAbove_5 x1 x2 σ n x3 x4 = some o → G X 5 47 [(0, .ref (X.ad 79)), (1, .int x1), (2, .int x2), (3, .int o.1), (4, .int o.2)] [] σ → G X 5 5 [(0, .ref (X.ad 79)), (1, .int x1), (2, .int x2), (3, .int x3), (4, .int x4)] [] σ := by
  intro n
  induction n with
  | zero => intro x3 x4 o h; exact absurd h (by unfold L_X4_personsAbove_5; intro h; cases h)
  | succ n ih =>
    intro x3 x4 o h hexit
    unfold L_X4_personsAbove_5 at h
    refine g_iload K 4 dX4_personsAbove_5 rfl ?_
    refine g_iconst (v := 4) K dX4_personsAbove_7 ic_4 ?_
    refine g_icmp_ge (tgt := 47) K dX4_personsAbove_8 (by decide) (fun c1 => ?_) (fun c1 => ?_)
    · replace h := bp c1 h
      refine g_sub [0, 1, 2, 3, 4] rfl ?_
      obtain rfl := Option.some.inj h
      exact hexit
    · replace h := bn c1 h
      refine g_aload_n K 0 dX4_personsAbove_11 rfl rfl ?_
      refine g_iload_n K 1 dX4_personsAbove_12 rfl rfl ?_
      refine g_iload K 4 dX4_personsAbove_13 rfl ?_
      obtain ⟨r2, e3, h⟩ := ob h
      refine g_cvl (As := [.int x1, .int x4]) (rest := []) K (m_X4_upper e3) yv_X4_upper ml_X4_59 rfl rfl rfl (e_Stakes kd_79) ltN_79 rfl rfl ⟨Nat.le_trans (Nat.le_of_ble_eq_true rfl) hR.1, Nat.le_trans (Nat.le_of_ble_eq_true rfl) hR.2⟩ (Nat.le_of_ble_eq_true rfl) dX4_personsAbove_15 ?_
      refine g_ldc2 (v := 100) K cl_X4_49 dX4_personsAbove_18 ?_
      refine g_lmul K dX4_personsAbove_21 ?_
      refine g_iload_n K 2 dX4_personsAbove_22 rfl rfl ?_
      refine g_i2l K dX4_personsAbove_23 ?_
      refine g_aload_n K 0 dX4_personsAbove_24 rfl rfl ?_
      refine g_iload_n K 1 dX4_personsAbove_25 rfl rfl ?_
      obtain ⟨r4, e5, h⟩ := ob h
      refine g_cvl (As := [.int x1]) (rest := [.long (Int32.toInt64 x2), .long (r2 * 100)]) K (m_X4_lower e5) yv_X4_lower ml_X4_55 rfl rfl rfl (e_Stakes kd_79) ltN_79 rfl rfl ⟨Nat.le_trans (Nat.le_of_ble_eq_true rfl) hR.1, Nat.le_trans (Nat.le_of_ble_eq_true rfl) hR.2⟩ (Nat.le_of_ble_eq_true rfl) dX4_personsAbove_26 ?_
      refine g_lmul K dX4_personsAbove_29 ?_
      refine g_lcmp K dX4_personsAbove_30 ?_
      refine g_if_le (tgt := 41) K dX4_personsAbove_31 (by decide) (fun c6 => ?_) (fun c6 => ?_)
      · replace h := bp c6 h
        refine g_iinc (lv' := [(4, .int (x4 + 1)), (0, .ref (X.ad 79)), (1, .int x1), (2, .int x2), (3, .int x3)]) K 4 dX4_personsAbove_41 rfl (by rw [ic_1]) (by decide) rfl ?_
        refine g_goto (tgt := 5) K dX4_personsAbove_44 (by decide) ?_
        refine g_sub [1, 2, 3, 4, 0] rfl ?_
        exact ih _ _ _ h hexit
      · replace h := bn c6 h
        refine g_iload_n K 3 dX4_personsAbove_34 rfl rfl ?_
        refine g_iconst (v := 1) K dX4_personsAbove_35 ic_1 ?_
        refine g_iload K 4 dX4_personsAbove_36 rfl ?_
        refine g_ishl K dX4_personsAbove_38 ?_
        refine g_ior K dX4_personsAbove_39 ?_
        refine g_istore_n (lv' := [(3, .int (x3 ||| (1 <<< (x4 &&& 31)))), (0, .ref (X.ad 79)), (1, .int x1), (2, .int x2), (4, .int x4)]) K dX4_personsAbove_40 rfl (by decide) rfl ?_
        refine g_iinc (lv' := [(4, .int (x4 + 1)), (3, .int (x3 ||| (1 <<< (x4 &&& 31)))), (0, .ref (X.ad 79)), (1, .int x1), (2, .int x2)]) K 4 dX4_personsAbove_41 rfl (by rw [ic_1]) (by decide) rfl ?_
        refine g_goto (tgt := 5) K dX4_personsAbove_44 (by decide) ?_
        refine g_sub [2, 3, 4, 1, 0] rfl ?_
        exact ih _ _ _ h hexit
def f_X4_personsAbove (x1 : Int32) (x2 : Int32) (σ : Sg) : Option Int32 :=
  Option.bind (L_X4_personsAbove_5 x1 x2 σ FU 0 0) (fun o1 =>
  some o1.1)
set_option maxRecDepth 20000 in
set_option maxHeartbeats 4000000 in
theorem w_X4_personsAbove {X : Ctx} (K : Cok X cX4_personsAbove 5 RX4) (hR : 1 ≤ X.R.frames ∧ 22 ≤ X.R.locals) {x1 : Int32} {x2 : Int32} {σ : Sg}  {r : Int32} (h : f_X4_personsAbove x1 x2 σ = some r) (hr : RI X cX4_personsAbove 5 (r, σ)) : G X 5 0 [(0, .ref (X.ad 79)), (1, .int x1), (2, .int x2)] [] σ := by
  unfold f_X4_personsAbove at h
  refine g_iconst (v := 0) K dX4_personsAbove_0 ic_0 ?_
  refine g_istore_n (lv' := [(3, .int 0), (0, .ref (X.ad 79)), (1, .int x1), (2, .int x2)]) K dX4_personsAbove_1 rfl (by decide) rfl ?_
  refine g_iconst (v := 0) K dX4_personsAbove_2 ic_0 ?_
  refine g_istore (lv' := [(4, .int 0), (3, .int 0), (0, .ref (X.ad 79)), (1, .int x1), (2, .int x2)]) K dX4_personsAbove_3 (by decide) rfl ?_
  obtain ⟨o1, e2, h⟩ := ob h
  refine g_sub [2, 3, 4, 1, 0] rfl ?_
  refine l_X4_personsAbove_5 K hR _ _ _ _ e2 ?_
  refine g_iload_n K 3 dX4_personsAbove_47 rfl rfl ?_
  exact hr _ _ _ _ dX4_personsAbove_48 (rt1 h)
theorem m_X4_personsAbove {x1 : Int32} {x2 : Int32} {σ : Sg}  {r : Int32} (h : f_X4_personsAbove x1 x2 σ = some r) : CI yX4_personsAbove cX4_personsAbove 5 (some .int) 1 22 (fun ad => [.ref (ad 79), .int x1, .int x2]) σ r σ :=
  CI.of (by decide) (fun _ => Nat.le_of_ble_eq_true rfl) (fun X K hR hr => w_X4_personsAbove K hR h hr)
def L_X3_circleOf_4 (x1 : Int32) (σ : Sg) : Nat → Int32 → Int32 → Option (Int32 × Int32)
  | 0, _, _ => none
  | n + 1, x2, x3 =>
    if 5 ≤ x3 then
    (some (x2, x3))
    else
    (if inb x1 5 then
    (if (f_X6_has (σ.1 87 x1.toNatClampNeg) x3) = 0 then
    (L_X3_circleOf_4 x1 σ n x2 (x3 + 1))
    else
    (if inb x3 5 then
    (if (f_X6_has (σ.1 87 x3.toNatClampNeg) x1) = 0 then
    (L_X3_circleOf_4 x1 σ n x2 (x3 + 1))
    else
    (L_X3_circleOf_4 x1 σ n (x2 ||| (1 <<< (x3 &&& 31))) (x3 + 1)))
    else none))
    else none)
set_option maxRecDepth 20000 in
set_option maxHeartbeats 4000000 in
theorem l_X3_circleOf_4 {X : Ctx} (K : Cok X cX3_circleOf 4 RX3) (hR : 1 ≤ X.R.frames ∧ 21 ≤ X.R.locals) {x1 : Int32} {σ : Sg}  :
    ∀ (n : Nat) (x2 : Int32) (x3 : Int32) (o : (Int32 × Int32)), L_X3_circleOf_4 x1 σ n x2 x3 = some o → G X 4 47 [(0, .ref (X.ad 86)), (1, .int x1), (2, .int o.1), (3, .int o.2)] [] σ → G X 4 4 [(0, .ref (X.ad 86)), (1, .int x1), (2, .int x2), (3, .int x3)] [] σ := by
  intro n
  induction n with
  | zero => intro x2 x3 o h; exact absurd h (by unfold L_X3_circleOf_4; intro h; cases h)
  | succ n ih =>
    intro x2 x3 o h hexit
    unfold L_X3_circleOf_4 at h
    refine g_iload_n K 3 dX3_circleOf_4 rfl rfl ?_
    refine g_iconst (v := 5) K dX3_circleOf_5 ic_5 ?_
    refine g_icmp_ge (tgt := 47) K dX3_circleOf_6 (by decide) (fun c1 => ?_) (fun c1 => ?_)
    · replace h := bp c1 h
      refine g_sub [0, 1, 2, 3] rfl ?_
      obtain rfl := Option.some.inj h
      exact hexit
    · replace h := bn c1 h
      refine g_aload_n K 0 dX3_circleOf_9 rfl rfl ?_
      refine g_get (v := .ref (X.ad 87)) K (e_Reach kd_86) ltN_86 rfl 0 (by decide) rfl fw_X3_9 u_X3 dX3_circleOf_10 ?_
      refine g_iload_n K 1 dX3_circleOf_13 rfl rfl ?_
      obtain ⟨g2, h⟩ := og h
      refine g_iald K kd_87 ltN_87 g2 dX3_circleOf_14 ?_
      refine g_iload_n K 3 dX3_circleOf_15 rfl rfl ?_
      refine g_cni (As := [.int (σ.1 87 x1.toNatClampNeg), .int x3]) (rest := []) K (m_X6_has (σ.1 87 x1.toNatClampNeg) x3 σ) yv_X6_has ne_X3_19 rfl rfl rfl ⟨Nat.le_trans (Nat.le_of_ble_eq_true rfl) hR.1, Nat.le_trans (Nat.le_of_ble_eq_true rfl) hR.2⟩ (Nat.le_of_ble_eq_true rfl) dX3_circleOf_16 ?_
      refine g_if_eq (tgt := 41) K dX3_circleOf_19 (by decide) (fun c3 => ?_) (fun c3 => ?_)
      · replace h := bp c3 h
        refine g_iinc (lv' := [(3, .int (x3 + 1)), (0, .ref (X.ad 86)), (1, .int x1), (2, .int x2)]) K 3 dX3_circleOf_41 rfl (by rw [ic_1]) (by decide) rfl ?_
        refine g_goto (tgt := 4) K dX3_circleOf_44 (by decide) ?_
        refine g_sub [1, 2, 3, 0] rfl ?_
        exact ih _ _ _ h hexit
      · replace h := bn c3 h
        refine g_aload_n K 0 dX3_circleOf_22 rfl rfl ?_
        refine g_get (v := .ref (X.ad 87)) K (e_Reach kd_86) ltN_86 rfl 0 (by decide) rfl fw_X3_9 u_X3 dX3_circleOf_23 ?_
        refine g_iload_n K 3 dX3_circleOf_26 rfl rfl ?_
        obtain ⟨g4, h⟩ := og h
        refine g_iald K kd_87 ltN_87 g4 dX3_circleOf_27 ?_
        refine g_iload_n K 1 dX3_circleOf_28 rfl rfl ?_
        refine g_cni (As := [.int (σ.1 87 x3.toNatClampNeg), .int x1]) (rest := []) K (m_X6_has (σ.1 87 x3.toNatClampNeg) x1 σ) yv_X6_has ne_X3_19 rfl rfl rfl ⟨Nat.le_trans (Nat.le_of_ble_eq_true rfl) hR.1, Nat.le_trans (Nat.le_of_ble_eq_true rfl) hR.2⟩ (Nat.le_of_ble_eq_true rfl) dX3_circleOf_29 ?_
        refine g_if_eq (tgt := 41) K dX3_circleOf_32 (by decide) (fun c5 => ?_) (fun c5 => ?_)
        · replace h := bp c5 h
          refine g_iinc (lv' := [(3, .int (x3 + 1)), (0, .ref (X.ad 86)), (1, .int x1), (2, .int x2)]) K 3 dX3_circleOf_41 rfl (by rw [ic_1]) (by decide) rfl ?_
          refine g_goto (tgt := 4) K dX3_circleOf_44 (by decide) ?_
          refine g_sub [1, 2, 3, 0] rfl ?_
          exact ih _ _ _ h hexit
        · replace h := bn c5 h
          refine g_iload_n K 2 dX3_circleOf_35 rfl rfl ?_
          refine g_iconst (v := 1) K dX3_circleOf_36 ic_1 ?_
          refine g_iload_n K 3 dX3_circleOf_37 rfl rfl ?_
          refine g_ishl K dX3_circleOf_38 ?_
          refine g_ior K dX3_circleOf_39 ?_
          refine g_istore_n (lv' := [(2, .int (x2 ||| (1 <<< (x3 &&& 31)))), (0, .ref (X.ad 86)), (1, .int x1), (3, .int x3)]) K dX3_circleOf_40 rfl (by decide) rfl ?_
          refine g_iinc (lv' := [(3, .int (x3 + 1)), (2, .int (x2 ||| (1 <<< (x3 &&& 31)))), (0, .ref (X.ad 86)), (1, .int x1)]) K 3 dX3_circleOf_41 rfl (by rw [ic_1]) (by decide) rfl ?_
          refine g_goto (tgt := 4) K dX3_circleOf_44 (by decide) ?_
          refine g_sub [2, 3, 1, 0] rfl ?_
          exact ih _ _ _ h hexit
def f_X3_circleOf (x1 : Int32) (σ : Sg) : Option Int32 :=
  Option.bind (L_X3_circleOf_4 x1 σ FU 0 0) (fun o1 =>
  some o1.1)
set_option maxRecDepth 20000 in
set_option maxHeartbeats 4000000 in
theorem w_X3_circleOf {X : Ctx} (K : Cok X cX3_circleOf 4 RX3) (hR : 1 ≤ X.R.frames ∧ 21 ≤ X.R.locals) {x1 : Int32} {σ : Sg}  {r : Int32} (h : f_X3_circleOf x1 σ = some r) (hr : RI X cX3_circleOf 4 (r, σ)) : G X 4 0 [(0, .ref (X.ad 86)), (1, .int x1)] [] σ := by
  unfold f_X3_circleOf at h
  refine g_iconst (v := 0) K dX3_circleOf_0 ic_0 ?_
  refine g_istore_n (lv' := [(2, .int 0), (0, .ref (X.ad 86)), (1, .int x1)]) K dX3_circleOf_1 rfl (by decide) rfl ?_
  refine g_iconst (v := 0) K dX3_circleOf_2 ic_0 ?_
  refine g_istore_n (lv' := [(3, .int 0), (2, .int 0), (0, .ref (X.ad 86)), (1, .int x1)]) K dX3_circleOf_3 rfl (by decide) rfl ?_
  obtain ⟨o1, e2, h⟩ := ob h
  refine g_sub [2, 3, 1, 0] rfl ?_
  refine l_X3_circleOf_4 K hR _ _ _ _ e2 ?_
  refine g_iload_n K 2 dX3_circleOf_47 rfl rfl ?_
  exact hr _ _ _ _ dX3_circleOf_48 (rt1 h)
theorem m_X3_circleOf {x1 : Int32} {σ : Sg}  {r : Int32} (h : f_X3_circleOf x1 σ = some r) : CI yX3_circleOf cX3_circleOf 4 (some .int) 1 21 (fun ad => [.ref (ad 86), .int x1]) σ r σ :=
  CI.of (by decide) (fun _ => Nat.le_of_ble_eq_true rfl) (fun X K hR hr => w_X3_circleOf K hR h hr)
