def L_X2_beginAgain_9 (b0 : Nat) (x1 : Int32) : Nat → Int32 → Sg → Option (Int32 × Sg)
  | 0, _, _ => none
  | n + 1, x2, σ =>
    if 10 ≤ x2 then
    (some (x2, σ))
    else
    (jn (if x2 = 9 then (100) else (0) : Int32) (fun v4 =>
    if inb x1 5 then
    (if inb x2 10 then
    (jn (setR σ ((b0 + 1) + 1 + x1.toNatClampNeg) (upd (σ.1 ((b0 + 1) + 1 + x1.toNatClampNeg)) x2.toNatClampNeg v4)) (fun σ8 =>
    if inb x1 5 then
    (if inb x2 10 then
    (jn (setR σ8 ((b0 + 7) + 1 + x1.toNatClampNeg) (upd (σ8.1 ((b0 + 7) + 1 + x1.toNatClampNeg)) x2.toNatClampNeg v4)) (fun σ12 =>
    L_X2_beginAgain_9 b0 x1 n (x2 + 1) σ12))
    else none)
    else none))
    else none)
    else none))
set_option maxRecDepth 20000 in
set_option maxHeartbeats 4000000 in
theorem l_X2_beginAgain_9 {X : Ctx} (K : Cok X cX2_beginAgain 4 RX2) (hR : 0 ≤ X.R.frames ∧ 0 ≤ X.R.locals) {b0 : Nat} {x1 : Int32} (hb0 : isHold b0) :
    ∀ (n : Nat) (x2 : Int32) (σ : Sg) (o : (Int32 × Sg)), L_X2_beginAgain_9 b0 x1 n x2 σ = some o → G X 4 52 [(0, .ref (X.ad b0)), (1, .int x1), (2, .int o.1)] [] o.2 → G X 4 9 [(0, .ref (X.ad b0)), (1, .int x1), (2, .int x2)] [] σ := by
  intro n
  induction n with
  | zero => intro x2 σ o h; exact absurd h (by unfold L_X2_beginAgain_9; intro h; cases h)
  | succ n ih =>
    intro x2 σ o h hexit
    unfold L_X2_beginAgain_9 at h
    refine g_iload_n K 2 dX2_beginAgain_9 rfl rfl ?_
    refine g_bipush (v := 10) K dX2_beginAgain_10 bp_10 ?_
    refine g_icmp_ge (tgt := 52) K dX2_beginAgain_12 (by decide) (fun c1 => ?_) (fun c1 => ?_)
    · replace h := bp c1 h
      refine g_sub [0, 1, 2] rfl ?_
      obtain rfl := Option.some.inj h
      exact hexit
    · replace h := bn c1 h
      refine g_iload_n K 2 dX2_beginAgain_15 rfl rfl ?_
      refine g_bipush (v := 9) K dX2_beginAgain_16 bp_9 ?_
      refine jn_cut h (P := (fun v4 => G X 4 27 [(0, .ref (X.ad b0)), (1, .int x1), (2, .int x2)] [.int v4] σ)) (fun v4 h => ?_) (fun tail_3 => ?_)
      · refine g_istore_n (lv' := [(3, .int v4), (0, .ref (X.ad b0)), (1, .int x1), (2, .int x2)]) K dX2_beginAgain_27 rfl (by decide) rfl ?_
        refine g_aload_n K 1 dX2_beginAgain_28 rfl rfl ?_
        refine g_get (v := .ref (X.ad (b0 + 1))) K (e_Holdings (hd_k0 hb0)) (hd_l0 hb0) rfl 0 (by decide) rfl fw_X2_11 u_X2 dX2_beginAgain_29 ?_
        refine g_iload_n K 2 dX2_beginAgain_32 rfl rfl ?_
        obtain ⟨g6, h⟩ := og h
        refine g_aaldI K (hd_k1 hb0) (hd_l1 hb0) g6 dX2_beginAgain_33 ?_
        refine g_iload_n K 3 dX2_beginAgain_34 rfl rfl ?_
        refine g_iload_n K 0 dX2_beginAgain_35 rfl rfl ?_
        obtain ⟨g7, h⟩ := og h
        refine g_iast K (hd_r1 hb0 g6) (hd_s1 hb0 g6) g7 dX2_beginAgain_36 (fun σ8 s9 => ?_)
        replace h := jn_at s9 h
        refine g_aload_n K 1 dX2_beginAgain_37 rfl rfl ?_
        refine g_get (v := .ref (X.ad (b0 + 7))) K (e_Holdings (hd_k0 hb0)) (hd_l0 hb0) rfl 1 (by decide) rfl fw_X2_16 u_X2 dX2_beginAgain_38 ?_
        refine g_iload_n K 2 dX2_beginAgain_41 rfl rfl ?_
        obtain ⟨g10, h⟩ := og h
        refine g_aaldI K (hd_k7 hb0) (hd_l7 hb0) g10 dX2_beginAgain_42 ?_
        refine g_iload_n K 3 dX2_beginAgain_43 rfl rfl ?_
        refine g_iload_n K 0 dX2_beginAgain_44 rfl rfl ?_
        obtain ⟨g11, h⟩ := og h
        refine g_iast K (hd_r7 hb0 g10) (hd_s7 hb0 g10) g11 dX2_beginAgain_45 (fun σ12 s13 => ?_)
        replace h := jn_at s13 h
        refine g_iinc (lv' := [(2, .int (x2 + 1)), (3, .int v4), (0, .ref (X.ad b0)), (1, .int x1)]) K 3 dX2_beginAgain_46 rfl (by rw [ic_1]) (by decide) rfl ?_
        refine g_goto (tgt := 9) K dX2_beginAgain_49 (by decide) ?_
        refine g_sub [2, 3, 0] rfl ?_
        exact ih _ _ _ h hexit
      · refine g_icmp_ne (tgt := 26) K dX2_beginAgain_18 (by decide) (fun c5 => ?_) (fun c5 => ?_)
        · replace h := jpn c5 h
          refine g_iconst (v := 0) K dX2_beginAgain_26 ic_0 ?_
          exact tail_3 _ h
        · replace h := jpp c5 h
          refine g_bipush (v := 100) K dX2_beginAgain_21 bp_100 ?_
          refine g_goto (tgt := 27) K dX2_beginAgain_23 (by decide) ?_
          exact tail_3 _ h
def L_X2_beginAgain_2 (b0 : Nat) : Nat → Int32 → Sg → Option (Int32 × Sg)
  | 0, _, _ => none
  | n + 1, x1, σ =>
    if 5 ≤ x1 then
    (some (x1, σ))
    else
    (Option.bind (L_X2_beginAgain_9 b0 x1 FU 0 σ) (fun o2 =>
    if inb x1 5 then
    (jn (setR o2.2 (b0 + 13) (upd (o2.2.1 (b0 + 13)) x1.toNatClampNeg 0)) (fun σ5 =>
    L_X2_beginAgain_2 b0 n (x1 + 1) σ5))
    else none))
set_option maxRecDepth 20000 in
set_option maxHeartbeats 4000000 in
theorem l_X2_beginAgain_2 {X : Ctx} (K : Cok X cX2_beginAgain 4 RX2) (hR : 0 ≤ X.R.frames ∧ 0 ≤ X.R.locals) {b0 : Nat} (hb0 : isHold b0) :
    ∀ (n : Nat) (x1 : Int32) (σ : Sg) (o : (Int32 × Sg)), L_X2_beginAgain_2 b0 n x1 σ = some o → G X 4 65 [(0, .ref (X.ad b0)), (1, .int o.1)] [] o.2 → G X 4 2 [(0, .ref (X.ad b0)), (1, .int x1)] [] σ := by
  intro n
  induction n with
  | zero => intro x1 σ o h; exact absurd h (by unfold L_X2_beginAgain_2; intro h; cases h)
  | succ n ih =>
    intro x1 σ o h hexit
    unfold L_X2_beginAgain_2 at h
    refine g_iload_n K 1 dX2_beginAgain_2 rfl rfl ?_
    refine g_iconst (v := 5) K dX2_beginAgain_3 ic_5 ?_
    refine g_icmp_ge (tgt := 65) K dX2_beginAgain_4 (by decide) (fun c1 => ?_) (fun c1 => ?_)
    · replace h := bp c1 h
      refine g_sub [0, 1] rfl ?_
      obtain rfl := Option.some.inj h
      exact hexit
    · replace h := bn c1 h
      refine g_iconst (v := 0) K dX2_beginAgain_7 ic_0 ?_
      refine g_istore_n (lv' := [(2, .int 0), (0, .ref (X.ad b0)), (1, .int x1)]) K dX2_beginAgain_8 rfl (by decide) rfl ?_
      obtain ⟨o2, e3, h⟩ := ob h
      refine g_sub [1, 2, 0] rfl ?_
      refine l_X2_beginAgain_9 K hR hb0 _ _ _ _ e3 ?_
      refine g_aload_n K 0 dX2_beginAgain_52 rfl rfl ?_
      refine g_get (v := .ref (X.ad (b0 + 13))) K (e_Holdings (hd_k0 hb0)) (hd_l0 hb0) rfl 2 (by decide) rfl fw_X2_19 u_X2 dX2_beginAgain_53 ?_
      refine g_iload_n K 1 dX2_beginAgain_56 rfl rfl ?_
      refine g_iconst (v := 0) K dX2_beginAgain_57 ic_0 ?_
      obtain ⟨g4, h⟩ := og h
      refine g_iast K (hd_k13 hb0) (hd_l13 hb0) g4 dX2_beginAgain_58 (fun σ5 s6 => ?_)
      replace h := jn_at s6 h
      refine g_iinc (lv' := [(1, .int (x1 + 1)), (0, .ref (X.ad b0)), (2, .int o2.1)]) K 1 dX2_beginAgain_59 rfl (by rw [ic_1]) (by decide) rfl ?_
      refine g_goto (tgt := 2) K dX2_beginAgain_62 (by decide) ?_
      refine g_sub [1, 0] rfl ?_
      exact ih _ _ _ h hexit
def f_X2_beginAgain (b0 : Nat) (σ : Sg) : Option Sg :=
  Option.bind (L_X2_beginAgain_2 b0 FU 0 σ) (fun o1 =>
  some o1.2)
set_option maxRecDepth 20000 in
set_option maxHeartbeats 4000000 in
theorem w_X2_beginAgain {X : Ctx} (K : Cok X cX2_beginAgain 4 RX2) (hR : 0 ≤ X.R.frames ∧ 0 ≤ X.R.locals) {b0 : Nat} {σ : Sg} (hb0 : isHold b0) {r : Sg} (h : f_X2_beginAgain b0 σ = some r) (hr : RV X cX2_beginAgain 4 r) : G X 4 0 [(0, .ref (X.ad b0))] [] σ := by
  unfold f_X2_beginAgain at h
  refine g_iconst (v := 0) K dX2_beginAgain_0 ic_0 ?_
  refine g_istore_n (lv' := [(1, .int 0), (0, .ref (X.ad b0))]) K dX2_beginAgain_1 rfl (by decide) rfl ?_
  obtain ⟨o1, e2, h⟩ := ob h
  refine g_sub [1, 0] rfl ?_
  refine l_X2_beginAgain_2 K hR hb0 _ _ _ _ e2 ?_
  exact hr _ _ _ dX2_beginAgain_65 (rt2 h)
theorem m_X2_beginAgain {b0 : Nat} {σ : Sg} (hb0 : isHold b0) {r : Sg} (h : f_X2_beginAgain b0 σ = some r) : CV yX2_beginAgain cX2_beginAgain 4 none 0 0 (fun ad => [.ref (ad b0)]) σ r :=
  CV.of (by decide) (fun _ => Nat.le_of_ble_eq_true rfl) (fun X K hR hr => w_X2_beginAgain K hR hb0 h hr)
def f_X2_move (b0 : Nat) (x1 : Int32) (x2 : Int32) (x3 : Int32) (σ : Sg) : Option (Int32 × Sg) :=
  if inb x1 10 then
  (if x3 ≤ (σ.1 b0 x1.toNatClampNeg) then
  (if inb x1 10 then
  (if inb x1 10 then
  (jn (setR σ b0 (upd (σ.1 b0) x1.toNatClampNeg ((σ.1 b0 x1.toNatClampNeg) - x3))) (fun σ5 =>
  if inb x2 10 then
  (if inb x2 10 then
  (jn (setR σ5 b0 (upd (σ5.1 b0) x2.toNatClampNeg ((σ5.1 b0 x2.toNatClampNeg) + x3))) (fun σ9 =>
  some (1, σ9)))
  else none)
  else none))
  else none)
  else none)
  else
  (some (0, σ)))
  else none
set_option maxRecDepth 20000 in
set_option maxHeartbeats 4000000 in
theorem w_X2_move {X : Ctx} (K : Cok X cX2_move 4 RX2) (hR : 0 ≤ X.R.frames ∧ 0 ≤ X.R.locals) {b0 : Nat} {x1 : Int32} {x2 : Int32} {x3 : Int32} {σ : Sg} (hb0 : kd b0 = (0, 10)) (hc0 : b0 < NN) {r : Int32 × Sg} (h : f_X2_move b0 x1 x2 x3 σ = some r) (hr : RZ X cX2_move 4 r) : G X 4 0 [(0, .ref (X.ad b0)), (1, .int x1), (2, .int x2), (3, .int x3)] [] σ := by
  unfold f_X2_move at h
  refine g_aload_n K 0 dX2_move_0 rfl rfl ?_
  refine g_iload_n K 1 dX2_move_1 rfl rfl ?_
  obtain ⟨g1, h⟩ := og h
  refine g_iald K hb0 hc0 g1 dX2_move_2 ?_
  refine g_iload_n K 3 dX2_move_3 rfl rfl ?_
  refine g_icmp_ge (tgt := 9) K dX2_move_4 (by decide) (fun c2 => ?_) (fun c2 => ?_)
  · replace h := bp c2 h
    refine g_aload_n K 0 dX2_move_9 rfl rfl ?_
    refine g_iload_n K 1 dX2_move_10 rfl rfl ?_
    refine g_dup2 K dX2_move_11 rfl rfl ?_
    obtain ⟨g3, h⟩ := og h
    refine g_iald K hb0 hc0 g3 dX2_move_12 ?_
    refine g_iload_n K 3 dX2_move_13 rfl rfl ?_
    refine g_isub K dX2_move_14 ?_
    obtain ⟨g4, h⟩ := og h
    refine g_iast K hb0 hc0 g4 dX2_move_15 (fun σ5 s6 => ?_)
    replace h := jn_at s6 h
    refine g_aload_n K 0 dX2_move_16 rfl rfl ?_
    refine g_iload_n K 2 dX2_move_17 rfl rfl ?_
    refine g_dup2 K dX2_move_18 rfl rfl ?_
    obtain ⟨g7, h⟩ := og h
    refine g_iald K hb0 hc0 g7 dX2_move_19 ?_
    refine g_iload_n K 3 dX2_move_20 rfl rfl ?_
    refine g_iadd K dX2_move_21 ?_
    obtain ⟨g8, h⟩ := og h
    refine g_iast K hb0 hc0 g8 dX2_move_22 (fun σ9 s10 => ?_)
    replace h := jn_at s10 h
    refine g_iconst (v := 1) K dX2_move_23 ic_1 ?_
    exact hr _ _ _ _ dX2_move_24 (rt2 h) nb_1
  · replace h := bn c2 h
    refine g_iconst (v := 0) K dX2_move_7 ic_0 ?_
    exact hr _ _ _ _ dX2_move_8 (rt2 h) nb_0
theorem m_X2_move {b0 : Nat} {x1 : Int32} {x2 : Int32} {x3 : Int32} {σ : Sg} (hb0 : kd b0 = (0, 10)) (hc0 : b0 < NN) {r : Int32 × Sg} (h : f_X2_move b0 x1 x2 x3 σ = some r) : CI yX2_move cX2_move 4 (some .boolean) 0 0 (fun ad => [.ref (ad b0), .int x1, .int x2, .int x3]) σ r.1 r.2 :=
  CZ.of (by decide) (fun _ => Nat.le_of_ble_eq_true rfl) (fun X K hR hr => w_X2_move K hR hb0 hc0 h hr)
theorem nz_X2_move {b0 : Nat} {x1 : Int32} {x2 : Int32} {x3 : Int32} {σ : Sg} {q : Int32 × Sg} (h : f_X2_move b0 x1 x2 x3 σ = some q) : narrow .boolean (.int q.1) = .int q.1 := by
  unfold f_X2_move at h
  simp only [jn] at h
  (repeat' split at h) <;> first | (cases h; exact nb_1) | (cases h; exact nb_0) | cases h
def f_X2_carryOut (b0 : Nat) (b1 : Nat) (x2 : Int32) (σ : Sg) : Option (Int32 × Sg) :=
  if inb x2 41 then
  (if inb x2 41 then
  (if inb x2 41 then
  (if (σ.1 (b1 + 2) x2.toNatClampNeg) = 0 then
  (if inb (σ.1 (b1 + 3) x2.toNatClampNeg) 5 then
  (if inb x2 41 then
  (if inb x2 41 then
  (Option.bind (f_X2_move ((b0 + 1) + 1 + (σ.1 (b1 + 3) x2.toNatClampNeg).toNatClampNeg) (σ.1 (b1 + 4) x2.toNatClampNeg) (σ.1 (b1 + 5) x2.toNatClampNeg) (σ.1 (b1 + 6) x2.toNatClampNeg) σ) (fun q8 =>
  some (q8.1, q8.2)))
  else none)
  else none)
  else none)
  else
  (if (σ.1 (b1 + 2) x2.toNatClampNeg) = 1 then
  (if inb (σ.1 (b1 + 3) x2.toNatClampNeg) 5 then
  (if inb x2 41 then
  (if inb x2 41 then
  (Option.bind (f_X2_move ((b0 + 7) + 1 + (σ.1 (b1 + 3) x2.toNatClampNeg).toNatClampNeg) (σ.1 (b1 + 4) x2.toNatClampNeg) (σ.1 (b1 + 5) x2.toNatClampNeg) (σ.1 (b1 + 6) x2.toNatClampNeg) σ) (fun q14 =>
  some (q14.1, q14.2)))
  else none)
  else none)
  else none)
  else
  (if (σ.1 (b1 + 2) x2.toNatClampNeg) = 2 then
  (if inb (σ.1 (b1 + 3) x2.toNatClampNeg) 5 then
  (if inb (σ.1 (b1 + 3) x2.toNatClampNeg) 5 then
  (jn (setR σ (b0 + 13) (upd (σ.1 (b0 + 13)) (σ.1 (b1 + 3) x2.toNatClampNeg).toNatClampNeg ((σ.1 (b0 + 13) (σ.1 (b1 + 3) x2.toNatClampNeg).toNatClampNeg) ||| (1 <<< ((σ.1 (b1 + 5) x2.toNatClampNeg) &&& 31))))) (fun σ19 =>
  some (1, σ19)))
  else none)
  else none)
  else
  (if inb (σ.1 (b1 + 3) x2.toNatClampNeg) 5 then
  (if inb (σ.1 (b1 + 3) x2.toNatClampNeg) 5 then
  (jn (setR σ (b0 + 13) (upd (σ.1 (b0 + 13)) (σ.1 (b1 + 3) x2.toNatClampNeg).toNatClampNeg ((σ.1 (b0 + 13) (σ.1 (b1 + 3) x2.toNatClampNeg).toNatClampNeg) &&& ((1 <<< ((σ.1 (b1 + 5) x2.toNatClampNeg) &&& 31)) ^^^ (-1))))) (fun σ23 =>
  some (1, σ23)))
  else none)
  else none))))
  else none)
  else none)
  else none
set_option maxRecDepth 20000 in
set_option maxHeartbeats 4000000 in
theorem w_X2_carryOut {X : Ctx} (K : Cok X cX2_carryOut 5 RX2) (hR : 1 ≤ X.R.frames ∧ 23 ≤ X.R.locals) {b0 : Nat} {b1 : Nat} {x2 : Int32} {σ : Sg} (hb0 : isHold b0) (hb1 : isBook b1) {r : Int32 × Sg} (h : f_X2_carryOut b0 b1 x2 σ = some r) (hr : RZ X cX2_carryOut 5 r) : G X 5 0 [(0, .ref (X.ad b0)), (1, .ref (X.ad b1)), (2, .int x2)] [] σ := by
  unfold f_X2_carryOut at h
  refine g_aload_n K 1 dX2_carryOut_0 rfl rfl ?_
  refine g_get (v := .ref (X.ad (b1 + 3))) K (e_Book (bk_k0 hb1)) (bk_l0 hb1) rfl 2 (by decide) rfl fw_X2_29 u_X0 dX2_carryOut_1 ?_
  refine g_iload_n K 2 dX2_carryOut_4 rfl rfl ?_
  obtain ⟨g1, h⟩ := og h
  refine g_iald K (bk_k3 hb1) (bk_l3 hb1) g1 dX2_carryOut_5 ?_
  refine g_istore_n (lv' := [(3, .int (σ.1 (b1 + 3) x2.toNatClampNeg)), (0, .ref (X.ad b0)), (1, .ref (X.ad b1)), (2, .int x2)]) K dX2_carryOut_6 rfl (by decide) rfl ?_
  refine g_aload_n K 2 dX2_carryOut_7 rfl rfl ?_
  refine g_get (v := .ref (X.ad (b1 + 5))) K (e_Book (bk_k0 hb1)) (bk_l0 hb1) rfl 4 (by decide) rfl fw_X2_34 u_X0 dX2_carryOut_8 ?_
  refine g_iload_n K 3 dX2_carryOut_11 rfl rfl ?_
  obtain ⟨g2, h⟩ := og h
  refine g_iald K (bk_k5 hb1) (bk_l5 hb1) g2 dX2_carryOut_12 ?_
  refine g_istore (lv' := [(4, .int (σ.1 (b1 + 5) x2.toNatClampNeg)), (3, .int (σ.1 (b1 + 3) x2.toNatClampNeg)), (0, .ref (X.ad b0)), (1, .ref (X.ad b1)), (2, .int x2)]) K dX2_carryOut_13 (by decide) rfl ?_
  refine g_aload_n K 3 dX2_carryOut_15 rfl rfl ?_
  refine g_get (v := .ref (X.ad (b1 + 2))) K (e_Book (bk_k0 hb1)) (bk_l0 hb1) rfl 1 (by decide) rfl fw_X2_37 u_X0 dX2_carryOut_16 ?_
  refine g_iload_n K 4 dX2_carryOut_19 rfl rfl ?_
  obtain ⟨g3, h⟩ := og h
  refine g_iald K (bk_k2 hb1) (bk_l2 hb1) g3 dX2_carryOut_20 ?_
  rcases Classical.em ((σ.1 (b1 + 2) x2.toNatClampNeg) = 0) with c4 | c4
  · replace h := bp c4 h
    refine g_tableIn (y := 0) (off := 27) (tgt := 48) K dX2_carryOut_21 c4 (by decide) (by decide) (by decide) (by decide) ?_
    refine g_aload_n K 2 dX2_carryOut_48 rfl rfl ?_
    refine g_get (v := .ref (X.ad (b0 + 1))) K (e_Holdings (hd_k0 hb0)) (hd_l0 hb0) rfl 0 (by decide) rfl fw_X2_11 u_X2 dX2_carryOut_49 ?_
    refine g_iload_n K 1 dX2_carryOut_52 rfl rfl ?_
    obtain ⟨g5, h⟩ := og h
    refine g_aaldI K (hd_k1 hb0) (hd_l1 hb0) g5 dX2_carryOut_53 ?_
    refine g_aload_n K 3 dX2_carryOut_54 rfl rfl ?_
    refine g_get (v := .ref (X.ad (b1 + 4))) K (e_Book (bk_k0 hb1)) (bk_l0 hb1) rfl 3 (by decide) rfl fw_X2_40 u_X0 dX2_carryOut_55 ?_
    refine g_iload_n K 4 dX2_carryOut_58 rfl rfl ?_
    obtain ⟨g6, h⟩ := og h
    refine g_iald K (bk_k4 hb1) (bk_l4 hb1) g6 dX2_carryOut_59 ?_
    refine g_iload K 0 dX2_carryOut_60 rfl ?_
    refine g_aload_n K 3 dX2_carryOut_62 rfl rfl ?_
    refine g_get (v := .ref (X.ad (b1 + 6))) K (e_Book (bk_k0 hb1)) (bk_l0 hb1) rfl 5 (by decide) rfl fw_X2_43 u_X0 dX2_carryOut_63 ?_
    refine g_iload_n K 4 dX2_carryOut_66 rfl rfl ?_
    obtain ⟨g7, h⟩ := og h
    refine g_iald K (bk_k6 hb1) (bk_l6 hb1) g7 dX2_carryOut_67 ?_
    obtain ⟨q8, e9, h⟩ := ob h
    refine g_csi (As := [.ref (X.ad ((b0 + 1) + 1 + (σ.1 (b1 + 3) x2.toNatClampNeg).toNatClampNeg)), .int (σ.1 (b1 + 4) x2.toNatClampNeg), .int (σ.1 (b1 + 5) x2.toNatClampNeg), .int (σ.1 (b1 + 6) x2.toNatClampNeg)]) (rest := []) K (m_X2_move (hd_r1 hb0 g5) (hd_s1 hb0 g5) e9) yv_X2_move ml_X2_46 rfl rfl rfl ⟨Nat.le_trans (Nat.le_of_ble_eq_true rfl) hR.1, Nat.le_trans (Nat.le_of_ble_eq_true rfl) hR.2⟩ (Nat.le_of_ble_eq_true rfl) dX2_carryOut_68 ?_
    exact hr _ _ _ _ dX2_carryOut_71 (rt2 h) (nz_X2_move e9)
  · replace h := bn c4 h
    rcases Classical.em ((σ.1 (b1 + 2) x2.toNatClampNeg) = 1) with c10 | c10
    · replace h := bp c10 h
      refine g_tableIn (y := 1) (off := 51) (tgt := 72) K dX2_carryOut_21 c10 (by decide) (by decide) (by decide) (by decide) ?_
      refine g_aload_n K 2 dX2_carryOut_72 rfl rfl ?_
      refine g_get (v := .ref (X.ad (b0 + 7))) K (e_Holdings (hd_k0 hb0)) (hd_l0 hb0) rfl 1 (by decide) rfl fw_X2_16 u_X2 dX2_carryOut_73 ?_
      refine g_iload_n K 1 dX2_carryOut_76 rfl rfl ?_
      obtain ⟨g11, h⟩ := og h
      refine g_aaldI K (hd_k7 hb0) (hd_l7 hb0) g11 dX2_carryOut_77 ?_
      refine g_aload_n K 3 dX2_carryOut_78 rfl rfl ?_
      refine g_get (v := .ref (X.ad (b1 + 4))) K (e_Book (bk_k0 hb1)) (bk_l0 hb1) rfl 3 (by decide) rfl fw_X2_40 u_X0 dX2_carryOut_79 ?_
      refine g_iload_n K 4 dX2_carryOut_82 rfl rfl ?_
      obtain ⟨g12, h⟩ := og h
      refine g_iald K (bk_k4 hb1) (bk_l4 hb1) g12 dX2_carryOut_83 ?_
      refine g_iload K 0 dX2_carryOut_84 rfl ?_
      refine g_aload_n K 3 dX2_carryOut_86 rfl rfl ?_
      refine g_get (v := .ref (X.ad (b1 + 6))) K (e_Book (bk_k0 hb1)) (bk_l0 hb1) rfl 5 (by decide) rfl fw_X2_43 u_X0 dX2_carryOut_87 ?_
      refine g_iload_n K 4 dX2_carryOut_90 rfl rfl ?_
      obtain ⟨g13, h⟩ := og h
      refine g_iald K (bk_k6 hb1) (bk_l6 hb1) g13 dX2_carryOut_91 ?_
      obtain ⟨q14, e15, h⟩ := ob h
      refine g_csi (As := [.ref (X.ad ((b0 + 7) + 1 + (σ.1 (b1 + 3) x2.toNatClampNeg).toNatClampNeg)), .int (σ.1 (b1 + 4) x2.toNatClampNeg), .int (σ.1 (b1 + 5) x2.toNatClampNeg), .int (σ.1 (b1 + 6) x2.toNatClampNeg)]) (rest := []) K (m_X2_move (hd_r7 hb0 g11) (hd_s7 hb0 g11) e15) yv_X2_move ml_X2_46 rfl rfl rfl ⟨Nat.le_trans (Nat.le_of_ble_eq_true rfl) hR.1, Nat.le_trans (Nat.le_of_ble_eq_true rfl) hR.2⟩ (Nat.le_of_ble_eq_true rfl) dX2_carryOut_92 ?_
      exact hr _ _ _ _ dX2_carryOut_95 (rt2 h) (nz_X2_move e15)
    · replace h := bn c10 h
      rcases Classical.em ((σ.1 (b1 + 2) x2.toNatClampNeg) = 2) with c16 | c16
      · replace h := bp c16 h
        refine g_tableIn (y := 2) (off := 75) (tgt := 96) K dX2_carryOut_21 c16 (by decide) (by decide) (by decide) (by decide) ?_
        refine g_aload_n K 2 dX2_carryOut_96 rfl rfl ?_
        refine g_get (v := .ref (X.ad (b0 + 13))) K (e_Holdings (hd_k0 hb0)) (hd_l0 hb0) rfl 2 (by decide) rfl fw_X2_19 u_X2 dX2_carryOut_97 ?_
        refine g_iload_n K 1 dX2_carryOut_100 rfl rfl ?_
        refine g_dup2 K dX2_carryOut_101 rfl rfl ?_
        obtain ⟨g17, h⟩ := og h
        refine g_iald K (hd_k13 hb0) (hd_l13 hb0) g17 dX2_carryOut_102 ?_
        refine g_iconst (v := 1) K dX2_carryOut_103 ic_1 ?_
        refine g_iload K 0 dX2_carryOut_104 rfl ?_
        refine g_ishl K dX2_carryOut_106 ?_
        refine g_ior K dX2_carryOut_107 ?_
        obtain ⟨g18, h⟩ := og h
        refine g_iast K (hd_k13 hb0) (hd_l13 hb0) g18 dX2_carryOut_108 (fun σ19 s20 => ?_)
        replace h := jn_at s20 h
        refine g_iconst (v := 1) K dX2_carryOut_109 ic_1 ?_
        exact hr _ _ _ _ dX2_carryOut_110 (rt2 h) nb_1
      · replace h := bn c16 h
        refine g_tableOut (tgt := 111) K dX2_carryOut_21 (by have w0 := lv_neT (a := 0) c4 (by decide); have w1 := lv_neT (a := 1) c10 (by decide); have w2 := lv_neT (a := 2) c16 (by decide); omega) (by decide) ?_
        refine g_aload_n K 2 dX2_carryOut_111 rfl rfl ?_
        refine g_get (v := .ref (X.ad (b0 + 13))) K (e_Holdings (hd_k0 hb0)) (hd_l0 hb0) rfl 2 (by decide) rfl fw_X2_19 u_X2 dX2_carryOut_112 ?_
        refine g_iload_n K 1 dX2_carryOut_115 rfl rfl ?_
        refine g_dup2 K dX2_carryOut_116 rfl rfl ?_
        obtain ⟨g21, h⟩ := og h
        refine g_iald K (hd_k13 hb0) (hd_l13 hb0) g21 dX2_carryOut_117 ?_
        refine g_iconst (v := 1) K dX2_carryOut_118 ic_1 ?_
        refine g_iload K 0 dX2_carryOut_119 rfl ?_
        refine g_ishl K dX2_carryOut_121 ?_
        refine g_iconst (v := (-1)) K dX2_carryOut_122 ic_m1 ?_
        refine g_ixor K dX2_carryOut_123 ?_
        refine g_iand K dX2_carryOut_124 ?_
        obtain ⟨g22, h⟩ := og h
        refine g_iast K (hd_k13 hb0) (hd_l13 hb0) g22 dX2_carryOut_125 (fun σ23 s24 => ?_)
        replace h := jn_at s24 h
        refine g_iconst (v := 1) K dX2_carryOut_126 ic_1 ?_
        exact hr _ _ _ _ dX2_carryOut_127 (rt2 h) nb_1
theorem m_X2_carryOut {b0 : Nat} {b1 : Nat} {x2 : Int32} {σ : Sg} (hb0 : isHold b0) (hb1 : isBook b1) {r : Int32 × Sg} (h : f_X2_carryOut b0 b1 x2 σ = some r) : CI yX2_carryOut cX2_carryOut 5 (some .boolean) 1 23 (fun ad => [.ref (ad b0), .ref (ad b1), .int x2]) σ r.1 r.2 :=
  CZ.of (by decide) (fun _ => Nat.le_of_ble_eq_true rfl) (fun X K hR hr => w_X2_carryOut K hR hb0 hb1 h hr)
def f_X2_allies (x0 : Int32) (x1 : Int32) : Int32 :=
  ((1 <<< (x0 &&& 31)) ||| (x1 <<< (4 &&& 31)))
set_option maxRecDepth 20000 in
set_option maxHeartbeats 4000000 in
theorem w_X2_allies {X : Ctx} (K : Cok X cX2_allies 2 RX2) (hR : 0 ≤ X.R.frames ∧ 0 ≤ X.R.locals) {x0 : Int32} {x1 : Int32} {σ : Sg}  {r : Int32} (h : f_X2_allies x0 x1 = r) (hr : RI X cX2_allies 2 (r, σ)) : G X 2 0 [(0, .int x0), (1, .int x1)] [] σ := by
  unfold f_X2_allies at h
  refine g_iconst (v := 1) K dX2_allies_0 ic_1 ?_
  refine g_iload_n K 0 dX2_allies_1 rfl rfl ?_
  refine g_ishl K dX2_allies_2 ?_
  refine g_iload_n K 1 dX2_allies_3 rfl rfl ?_
  refine g_iconst (v := 4) K dX2_allies_4 ic_4 ?_
  refine g_ishl K dX2_allies_5 ?_
  refine g_ior K dX2_allies_6 ?_
  exact hr _ _ _ _ dX2_allies_7 (rt0 h)
theorem m_X2_allies (x0 : Int32) (x1 : Int32) (σ : Sg)  : CI yX2_allies cX2_allies 2 (some .int) 0 0 (fun ad => [.int x0, .int x1]) σ (f_X2_allies x0 x1) σ :=
  CI.of (by decide) (fun _ => Nat.le_of_ble_eq_true rfl) (fun X K hR hr => w_X2_allies K hR rfl hr)
def L_X2_block_5 (b0 : Nat) (x1 : Int32) (x2 : Int32) (σ : Sg) : Nat → Int32 → Int32 → Option (Int32 × Int32)
  | 0, _, _ => none
  | n + 1, x3, x4 =>
    if 9 ≤ x4 then
    (some (x3, x4))
    else
    (if (x2 &&& (1 <<< (x4 &&& 31))) = 0 then
    (L_X2_block_5 b0 x1 x2 σ n x3 (x4 + 1))
    else
    (if inb x1 5 then
    (if inb x4 10 then
    (L_X2_block_5 b0 x1 x2 σ n (x3 + (σ.1 ((b0 + 7) + 1 + x1.toNatClampNeg) x4.toNatClampNeg)) (x4 + 1))
    else none)
    else none))
set_option maxRecDepth 20000 in
set_option maxHeartbeats 4000000 in
theorem l_X2_block_5 {X : Ctx} (K : Cok X cX2_block 5 RX2) (hR : 0 ≤ X.R.frames ∧ 0 ≤ X.R.locals) {b0 : Nat} {x1 : Int32} {x2 : Int32} {σ : Sg} (hb0 : isHold b0) :
    ∀ (n : Nat) (x3 : Int32) (x4 : Int32) (o : (Int32 × Int32)), L_X2_block_5 b0 x1 x2 σ n x3 x4 = some o → G X 5 39 [(0, .ref (X.ad b0)), (1, .int x1), (2, .int x2), (3, .int o.1), (4, .int o.2)] [] σ → G X 5 5 [(0, .ref (X.ad b0)), (1, .int x1), (2, .int x2), (3, .int x3), (4, .int x4)] [] σ := by
  intro n
  induction n with
  | zero => intro x3 x4 o h; exact absurd h (by unfold L_X2_block_5; intro h; cases h)
  | succ n ih =>
    intro x3 x4 o h hexit
    unfold L_X2_block_5 at h
    refine g_iload K 4 dX2_block_5 rfl ?_
    refine g_bipush (v := 9) K dX2_block_7 bp_9 ?_
    refine g_icmp_ge (tgt := 39) K dX2_block_9 (by decide) (fun c1 => ?_) (fun c1 => ?_)
    · replace h := bp c1 h
      refine g_sub [0, 1, 2, 3, 4] rfl ?_
      obtain rfl := Option.some.inj h
      exact hexit
    · replace h := bn c1 h
      refine g_iload_n K 2 dX2_block_12 rfl rfl ?_
      refine g_iconst (v := 1) K dX2_block_13 ic_1 ?_
      refine g_iload K 4 dX2_block_14 rfl ?_
      refine g_ishl K dX2_block_16 ?_
      refine g_iand K dX2_block_17 ?_
      refine g_if_eq (tgt := 33) K dX2_block_18 (by decide) (fun c2 => ?_) (fun c2 => ?_)
      · replace h := bp c2 h
        refine g_iinc (lv' := [(4, .int (x4 + 1)), (0, .ref (X.ad b0)), (1, .int x1), (2, .int x2), (3, .int x3)]) K 4 dX2_block_33 rfl (by rw [ic_1]) (by decide) rfl ?_
        refine g_goto (tgt := 5) K dX2_block_36 (by decide) ?_
        refine g_sub [1, 2, 3, 4, 0] rfl ?_
        exact ih _ _ _ h hexit
      · replace h := bn c2 h
        refine g_iload_n K 3 dX2_block_21 rfl rfl ?_
        refine g_aload_n K 0 dX2_block_22 rfl rfl ?_
        refine g_get (v := .ref (X.ad (b0 + 7))) K (e_Holdings (hd_k0 hb0)) (hd_l0 hb0) rfl 1 (by decide) rfl fw_X2_16 u_X2 dX2_block_23 ?_
        refine g_iload_n K 1 dX2_block_26 rfl rfl ?_
        obtain ⟨g3, h⟩ := og h
        refine g_aaldI K (hd_k7 hb0) (hd_l7 hb0) g3 dX2_block_27 ?_
        refine g_iload K 4 dX2_block_28 rfl ?_
        obtain ⟨g4, h⟩ := og h
        refine g_iald K (hd_r7 hb0 g3) (hd_s7 hb0 g3) g4 dX2_block_30 ?_
        refine g_iadd K dX2_block_31 ?_
        refine g_istore_n (lv' := [(3, .int (x3 + (σ.1 ((b0 + 7) + 1 + x1.toNatClampNeg) x4.toNatClampNeg))), (0, .ref (X.ad b0)), (1, .int x1), (2, .int x2), (4, .int x4)]) K dX2_block_32 rfl (by decide) rfl ?_
        refine g_iinc (lv' := [(4, .int (x4 + 1)), (3, .int (x3 + (σ.1 ((b0 + 7) + 1 + x1.toNatClampNeg) x4.toNatClampNeg))), (0, .ref (X.ad b0)), (1, .int x1), (2, .int x2)]) K 4 dX2_block_33 rfl (by rw [ic_1]) (by decide) rfl ?_
        refine g_goto (tgt := 5) K dX2_block_36 (by decide) ?_
        refine g_sub [2, 3, 4, 1, 0] rfl ?_
        exact ih _ _ _ h hexit
def f_X2_block (b0 : Nat) (x1 : Int32) (x2 : Int32) (σ : Sg) : Option Int32 :=
  Option.bind (L_X2_block_5 b0 x1 x2 σ FU 0 0) (fun o1 =>
  some o1.1)
set_option maxRecDepth 20000 in
set_option maxHeartbeats 4000000 in
theorem w_X2_block {X : Ctx} (K : Cok X cX2_block 5 RX2) (hR : 0 ≤ X.R.frames ∧ 0 ≤ X.R.locals) {b0 : Nat} {x1 : Int32} {x2 : Int32} {σ : Sg} (hb0 : isHold b0) {r : Int32} (h : f_X2_block b0 x1 x2 σ = some r) (hr : RI X cX2_block 5 (r, σ)) : G X 5 0 [(0, .ref (X.ad b0)), (1, .int x1), (2, .int x2)] [] σ := by
  unfold f_X2_block at h
  refine g_iconst (v := 0) K dX2_block_0 ic_0 ?_
  refine g_istore_n (lv' := [(3, .int 0), (0, .ref (X.ad b0)), (1, .int x1), (2, .int x2)]) K dX2_block_1 rfl (by decide) rfl ?_
  refine g_iconst (v := 0) K dX2_block_2 ic_0 ?_
  refine g_istore (lv' := [(4, .int 0), (3, .int 0), (0, .ref (X.ad b0)), (1, .int x1), (2, .int x2)]) K dX2_block_3 (by decide) rfl ?_
  obtain ⟨o1, e2, h⟩ := ob h
  refine g_sub [2, 3, 4, 1, 0] rfl ?_
  refine l_X2_block_5 K hR hb0 _ _ _ _ e2 ?_
  refine g_iload_n K 3 dX2_block_39 rfl rfl ?_
  exact hr _ _ _ _ dX2_block_40 (rt1 h)
theorem m_X2_block {b0 : Nat} {x1 : Int32} {x2 : Int32} {σ : Sg} (hb0 : isHold b0) {r : Int32} (h : f_X2_block b0 x1 x2 σ = some r) : CI yX2_block cX2_block 5 (some .int) 0 0 (fun ad => [.ref (ad b0), .int x1, .int x2]) σ r σ :=
  CI.of (by decide) (fun _ => Nat.le_of_ble_eq_true rfl) (fun X K hR hr => w_X2_block K hR hb0 h hr)
def L_X2_isMatched_3 (b0 : Nat) (x1 : Int32) (x2 : Int32) (x3 : Int32) (σ : Sg) : Nat → Int32 → Option ((Int32) ⊕ (Int32))
  | 0, _ => none
  | n + 1, x4 =>
    if 9 ≤ x4 then
    (some (.inr x4))
    else
    (if (x2 &&& (1 <<< (x4 &&& 31))) = 0 then
    (if inb x1 5 then
    (if inb x4 10 then
    (if (σ.1 ((b0 + 7) + 1 + x1.toNatClampNeg) x4.toNatClampNeg) < x3 then
    (L_X2_isMatched_3 b0 x1 x2 x3 σ n (x4 + 1))
    else
    (some (.inl 1)))
    else none)
    else none)
    else
    (L_X2_isMatched_3 b0 x1 x2 x3 σ n (x4 + 1)))
set_option maxRecDepth 20000 in
set_option maxHeartbeats 4000000 in
theorem l_X2_isMatched_3 {X : Ctx} (K : Cok X cX2_isMatched 5 RX2) (hR : 0 ≤ X.R.frames ∧ 0 ≤ X.R.locals) {res : Int32 × Sg} (hr : RZ X cX2_isMatched 5 res) {b0 : Nat} {x1 : Int32} {x2 : Int32} {x3 : Int32} {σ : Sg} (hb0 : isHold b0) :
    ∀ (n : Nat) (x4 : Int32) (o : ((Int32) ⊕ (Int32))), L_X2_isMatched_3 b0 x1 x2 x3 σ n x4 = some o → (∀ q, o = .inl q → (q, σ) = res) → (∀ q, o = .inr q → G X 5 40 [(0, .ref (X.ad b0)), (1, .int x1), (2, .int x2), (3, .int x3), (4, .int q)] [] σ) → G X 5 3 [(0, .ref (X.ad b0)), (1, .int x1), (2, .int x2), (3, .int x3), (4, .int x4)] [] σ := by
  intro n
  induction n with
  | zero => intro x4 o h; exact absurd h (by unfold L_X2_isMatched_3; intro h; cases h)
  | succ n ih =>
    intro x4 o h hret hexit
    unfold L_X2_isMatched_3 at h
    refine g_iload K 4 dX2_isMatched_3 rfl ?_
    refine g_bipush (v := 9) K dX2_isMatched_5 bp_9 ?_
    refine g_icmp_ge (tgt := 40) K dX2_isMatched_7 (by decide) (fun c1 => ?_) (fun c1 => ?_)
    · replace h := bp c1 h
      refine g_sub [0, 1, 2, 3, 4] rfl ?_
      exact hexit _ (Option.some.inj h).symm
    · replace h := bn c1 h
      refine g_iload_n K 2 dX2_isMatched_10 rfl rfl ?_
      refine g_iconst (v := 1) K dX2_isMatched_11 ic_1 ?_
      refine g_iload K 4 dX2_isMatched_12 rfl ?_
      refine g_ishl K dX2_isMatched_14 ?_
      refine g_iand K dX2_isMatched_15 ?_
      refine g_if_ne (tgt := 34) K dX2_isMatched_16 (by decide) (fun c2 => ?_) (fun c2 => ?_)
      · replace h := bn c2 h
        refine g_iinc (lv' := [(4, .int (x4 + 1)), (0, .ref (X.ad b0)), (1, .int x1), (2, .int x2), (3, .int x3)]) K 4 dX2_isMatched_34 rfl (by rw [ic_1]) (by decide) rfl ?_
        refine g_goto (tgt := 3) K dX2_isMatched_37 (by decide) ?_
        refine g_sub [1, 2, 3, 4, 0] rfl ?_
        exact ih _ _ h hret hexit
      · replace h := bp c2 h
        refine g_aload_n K 0 dX2_isMatched_19 rfl rfl ?_
        refine g_get (v := .ref (X.ad (b0 + 7))) K (e_Holdings (hd_k0 hb0)) (hd_l0 hb0) rfl 1 (by decide) rfl fw_X2_16 u_X2 dX2_isMatched_20 ?_
        refine g_iload_n K 1 dX2_isMatched_23 rfl rfl ?_
        obtain ⟨g3, h⟩ := og h
        refine g_aaldI K (hd_k7 hb0) (hd_l7 hb0) g3 dX2_isMatched_24 ?_
        refine g_iload K 4 dX2_isMatched_25 rfl ?_
        obtain ⟨g4, h⟩ := og h
        refine g_iald K (hd_r7 hb0 g3) (hd_s7 hb0 g3) g4 dX2_isMatched_27 ?_
        refine g_iload_n K 3 dX2_isMatched_28 rfl rfl ?_
        refine g_icmp_lt (tgt := 34) K dX2_isMatched_29 (by decide) (fun c5 => ?_) (fun c5 => ?_)
        · replace h := bp c5 h
          refine g_iinc (lv' := [(4, .int (x4 + 1)), (0, .ref (X.ad b0)), (1, .int x1), (2, .int x2), (3, .int x3)]) K 4 dX2_isMatched_34 rfl (by rw [ic_1]) (by decide) rfl ?_
          refine g_goto (tgt := 3) K dX2_isMatched_37 (by decide) ?_
          refine g_sub [1, 2, 3, 4, 0] rfl ?_
          exact ih _ _ h hret hexit
        · replace h := bn c5 h
          refine g_iconst (v := 1) K dX2_isMatched_32 ic_1 ?_
          exact hr _ _ _ _ dX2_isMatched_33 (hret _ (Option.some.inj h).symm) nb_1
def f_X2_isMatched (b0 : Nat) (x1 : Int32) (x2 : Int32) (x3 : Int32) (σ : Sg) : Option Int32 :=
  Option.bind (L_X2_isMatched_3 b0 x1 x2 x3 σ FU 0) (fun o1 => Sum.elim (fun x => some x) (fun o1 =>
  some 0) o1)
set_option maxRecDepth 20000 in
set_option maxHeartbeats 4000000 in
theorem w_X2_isMatched {X : Ctx} (K : Cok X cX2_isMatched 5 RX2) (hR : 0 ≤ X.R.frames ∧ 0 ≤ X.R.locals) {b0 : Nat} {x1 : Int32} {x2 : Int32} {x3 : Int32} {σ : Sg} (hb0 : isHold b0) {r : Int32} (h : f_X2_isMatched b0 x1 x2 x3 σ = some r) (hr : RZ X cX2_isMatched 5 (r, σ)) : G X 5 0 [(0, .ref (X.ad b0)), (1, .int x1), (2, .int x2), (3, .int x3)] [] σ := by
  unfold f_X2_isMatched at h
  refine g_iconst (v := 0) K dX2_isMatched_0 ic_0 ?_
  refine g_istore (lv' := [(4, .int 0), (0, .ref (X.ad b0)), (1, .int x1), (2, .int x2), (3, .int x3)]) K dX2_isMatched_1 (by decide) rfl ?_
  obtain ⟨o1, e2, h⟩ := ob h
  refine g_sub [1, 2, 3, 4, 0] rfl ?_
  refine l_X2_isMatched_3 K hR hr hb0 _ _ _ e2 (fun x hx => ?_) (fun o1 hx => ?_)
  · subst hx
    exact rt1 h
  · subst hx
    dsimp only [Sum.elim_inr] at h
    refine g_iconst (v := 0) K dX2_isMatched_40 ic_0 ?_
    exact hr _ _ _ _ dX2_isMatched_41 (rt1 h) nb_0
theorem m_X2_isMatched {b0 : Nat} {x1 : Int32} {x2 : Int32} {x3 : Int32} {σ : Sg} (hb0 : isHold b0) {r : Int32} (h : f_X2_isMatched b0 x1 x2 x3 σ = some r) : CI yX2_isMatched cX2_isMatched 5 (some .boolean) 0 0 (fun ad => [.ref (ad b0), .int x1, .int x2, .int x3]) σ r σ :=
  CZ.of (by decide) (fun _ => Nat.le_of_ble_eq_true rfl) (fun X K hR hr => w_X2_isMatched K hR hb0 h hr)
def f_X2_falls (b0 : Nat) (x1 : Int32) (x2 : Int32) (x3 : Int32) (b4 : Nat) (σ : Sg) : Option Int32 :=
  if inb x1 5 then
  (if ((σ.1 (b0 + 13) x1.toNatClampNeg) &&& ((f_X2_allies x2 x3) ^^^ (-1))) = 0 then
  (Option.bind (f_X2_block b0 x1 (f_X2_allies x2 x3) σ) (fun r3 =>
  if r3 ≤ (σ.1 b4 9) then
  (if r3 < (σ.1 b4 10) then
  (some 0)
  else
  (Option.bind (f_X2_isMatched b0 x1 (f_X2_allies x2 x3) r3 σ) (fun r7 =>
  if r7 = 0 then
  (some 1)
  else
  (some 0))))
  else
  (some 1)))
  else
  (some 0))
  else none
set_option maxRecDepth 20000 in
set_option maxHeartbeats 4000000 in
theorem w_X2_falls {X : Ctx} (K : Cok X cX2_falls 7 RX2) (hR : 1 ≤ X.R.frames ∧ 24 ≤ X.R.locals) {b0 : Nat} {x1 : Int32} {x2 : Int32} {x3 : Int32} {b4 : Nat} {σ : Sg} (hb0 : isHold b0) (hb4 : isBook b4) {r : Int32} (h : f_X2_falls b0 x1 x2 x3 b4 σ = some r) (hr : RZ X cX2_falls 7 (r, σ)) : G X 7 0 [(0, .ref (X.ad b0)), (1, .int x1), (2, .int x2), (3, .int x3), (4, .ref (X.ad b4))] [] σ := by
  unfold f_X2_falls at h
  refine g_iload_n K 2 dX2_falls_0 rfl rfl ?_
  refine g_iload_n K 3 dX2_falls_1 rfl rfl ?_
  refine g_csi (As := [.int x2, .int x3]) (rest := []) K (m_X2_allies x2 x3 σ) yv_X2_allies ml_X2_50 rfl rfl rfl ⟨Nat.le_trans (Nat.le_of_ble_eq_true rfl) hR.1, Nat.le_trans (Nat.le_of_ble_eq_true rfl) hR.2⟩ (Nat.le_of_ble_eq_true rfl) dX2_falls_2 ?_
  refine g_istore (lv' := [(5, .int (f_X2_allies x2 x3)), (0, .ref (X.ad b0)), (1, .int x1), (2, .int x2), (3, .int x3), (4, .ref (X.ad b4))]) K dX2_falls_5 (by decide) rfl ?_
  refine g_aload_n K 1 dX2_falls_7 rfl rfl ?_
  refine g_get (v := .ref (X.ad (b0 + 13))) K (e_Holdings (hd_k0 hb0)) (hd_l0 hb0) rfl 2 (by decide) rfl fw_X2_19 u_X2 dX2_falls_8 ?_
  refine g_iload_n K 2 dX2_falls_11 rfl rfl ?_
  obtain ⟨g1, h⟩ := og h
  refine g_iald K (hd_k13 hb0) (hd_l13 hb0) g1 dX2_falls_12 ?_
  refine g_iload K 0 dX2_falls_13 rfl ?_
  refine g_iconst (v := (-1)) K dX2_falls_15 ic_m1 ?_
  refine g_ixor K dX2_falls_16 ?_
  refine g_iand K dX2_falls_17 ?_
  refine g_if_eq (tgt := 23) K dX2_falls_18 (by decide) (fun c2 => ?_) (fun c2 => ?_)
  · replace h := bp c2 h
    refine g_aload_n K 1 dX2_falls_23 rfl rfl ?_
    refine g_iload_n K 2 dX2_falls_24 rfl rfl ?_
    refine g_iload K 0 dX2_falls_25 rfl ?_
    obtain ⟨r3, e4, h⟩ := ob h
    refine g_cvi (As := [.int x1, .int (f_X2_allies x2 x3)]) (rest := []) K (m_X2_block hb0 e4) yv_X2_block ml_X2_54 rfl rfl rfl (e_Holdings (hd_k0 hb0)) (hd_l0 hb0) rfl rfl ⟨Nat.le_trans (Nat.le_of_ble_eq_true rfl) hR.1, Nat.le_trans (Nat.le_of_ble_eq_true rfl) hR.2⟩ (Nat.le_of_ble_eq_true rfl) dX2_falls_27 ?_
    refine g_istore (lv' := [(6, .int r3), (5, .int (f_X2_allies x2 x3)), (0, .ref (X.ad b0)), (1, .int x1), (2, .int x2), (3, .int x3), (4, .ref (X.ad b4))]) K dX2_falls_30 (by decide) rfl ?_
    refine g_iload K 0 dX2_falls_32 rfl ?_
    refine g_aload K 6 dX2_falls_34 rfl ?_
    refine g_get (v := .int (σ.1 b4 9)) K (e_Book (bk_k0 hb4)) (bk_l0 hb4) rfl 9 (by decide) rfl fw_X2_57 u_X0 dX2_falls_36 ?_
    refine g_icmp_le (tgt := 44) K dX2_falls_39 (by decide) (fun c5 => ?_) (fun c5 => ?_)
    · replace h := bp c5 h
      refine g_iload K 0 dX2_falls_44 rfl ?_
      refine g_aload K 6 dX2_falls_46 rfl ?_
      refine g_get (v := .int (σ.1 b4 10)) K (e_Book (bk_k0 hb4)) (bk_l0 hb4) rfl 10 (by decide) rfl fw_X2_61 u_X0 dX2_falls_48 ?_
      refine g_icmp_lt (tgt := 70) K dX2_falls_51 (by decide) (fun c6 => ?_) (fun c6 => ?_)
      · replace h := bp c6 h
        refine g_iconst (v := 0) K dX2_falls_70 ic_0 ?_
        exact hr _ _ _ _ dX2_falls_71 (rt1 h) nb_0
      · replace h := bn c6 h
        refine g_aload_n K 2 dX2_falls_54 rfl rfl ?_
        refine g_iload_n K 3 dX2_falls_55 rfl rfl ?_
        refine g_iload K 1 dX2_falls_56 rfl ?_
        refine g_iload K 0 dX2_falls_58 rfl ?_
        obtain ⟨r7, e8, h⟩ := ob h
        refine g_cvi (As := [.int x1, .int (f_X2_allies x2 x3), .int r3]) (rest := []) K (m_X2_isMatched hb0 e8) yv_X2_isMatched ml_X2_64 rfl rfl rfl (e_Holdings (hd_k0 hb0)) (hd_l0 hb0) rfl rfl ⟨Nat.le_trans (Nat.le_of_ble_eq_true rfl) hR.1, Nat.le_trans (Nat.le_of_ble_eq_true rfl) hR.2⟩ (Nat.le_of_ble_eq_true rfl) dX2_falls_60 ?_
        refine g_if_ne (tgt := 70) K dX2_falls_63 (by decide) (fun c9 => ?_) (fun c9 => ?_)
        · replace h := bn c9 h
          refine g_iconst (v := 0) K dX2_falls_70 ic_0 ?_
          exact hr _ _ _ _ dX2_falls_71 (rt1 h) nb_0
        · replace h := bp c9 h
          refine g_iconst (v := 1) K dX2_falls_66 ic_1 ?_
          refine g_goto (tgt := 71) K dX2_falls_67 (by decide) ?_
          exact hr _ _ _ _ dX2_falls_71 (rt1 h) nb_1
    · replace h := bn c5 h
      refine g_iconst (v := 1) K dX2_falls_42 ic_1 ?_
      exact hr _ _ _ _ dX2_falls_43 (rt1 h) nb_1
  · replace h := bn c2 h
    refine g_iconst (v := 0) K dX2_falls_21 ic_0 ?_
    exact hr _ _ _ _ dX2_falls_22 (rt1 h) nb_0
theorem m_X2_falls {b0 : Nat} {x1 : Int32} {x2 : Int32} {x3 : Int32} {b4 : Nat} {σ : Sg} (hb0 : isHold b0) (hb4 : isBook b4) {r : Int32} (h : f_X2_falls b0 x1 x2 x3 b4 σ = some r) : CI yX2_falls cX2_falls 7 (some .boolean) 1 24 (fun ad => [.ref (ad b0), .int x1, .int x2, .int x3, .ref (ad b4)]) σ r σ :=
  CZ.of (by decide) (fun _ => Nat.le_of_ble_eq_true rfl) (fun X K hR hr => w_X2_falls K hR hb0 hb4 h hr)
def L_X2_sharesHeldBy_5 (b0 : Nat) (x1 : Int32) (x2 : Int32) (σ : Sg) : Nat → Int32 → Int32 → Option (Int32 × Int32)
  | 0, _, _ => none
  | n + 1, x3, x4 =>
    if 5 ≤ x4 then
    (some (x3, x4))
    else
    (if (f_X6_has x2 x4) = 0 then
    (L_X2_sharesHeldBy_5 b0 x1 x2 σ n x3 (x4 + 1))
    else
    (if inb x1 5 then
    (if inb (f_X6_holderOf x4) 10 then
    (L_X2_sharesHeldBy_5 b0 x1 x2 σ n (x3 + (σ.1 ((b0 + 1) + 1 + x1.toNatClampNeg) (f_X6_holderOf x4).toNatClampNeg)) (x4 + 1))
    else none)
    else none))
set_option maxRecDepth 20000 in
set_option maxHeartbeats 4000000 in
theorem l_X2_sharesHeldBy_5 {X : Ctx} (K : Cok X cX2_sharesHeldBy 5 RX2) (hR : 1 ≤ X.R.frames ∧ 21 ≤ X.R.locals) {b0 : Nat} {x1 : Int32} {x2 : Int32} {σ : Sg} (hb0 : isHold b0) :
    ∀ (n : Nat) (x3 : Int32) (x4 : Int32) (o : (Int32 × Int32)), L_X2_sharesHeldBy_5 b0 x1 x2 σ n x3 x4 = some o → G X 5 41 [(0, .ref (X.ad b0)), (1, .int x1), (2, .int x2), (3, .int o.1), (4, .int o.2)] [] σ → G X 5 5 [(0, .ref (X.ad b0)), (1, .int x1), (2, .int x2), (3, .int x3), (4, .int x4)] [] σ := by
  intro n
  induction n with
  | zero => intro x3 x4 o h; exact absurd h (by unfold L_X2_sharesHeldBy_5; intro h; cases h)
  | succ n ih =>
    intro x3 x4 o h hexit
    unfold L_X2_sharesHeldBy_5 at h
    refine g_iload K 4 dX2_sharesHeldBy_5 rfl ?_
    refine g_iconst (v := 5) K dX2_sharesHeldBy_7 ic_5 ?_
    refine g_icmp_ge (tgt := 41) K dX2_sharesHeldBy_8 (by decide) (fun c1 => ?_) (fun c1 => ?_)
    · replace h := bp c1 h
      refine g_sub [0, 1, 2, 3, 4] rfl ?_
      obtain rfl := Option.some.inj h
      exact hexit
    · replace h := bn c1 h
      refine g_iload_n K 2 dX2_sharesHeldBy_11 rfl rfl ?_
      refine g_iload K 4 dX2_sharesHeldBy_12 rfl ?_
      refine g_cni (As := [.int x2, .int x4]) (rest := []) K (m_X6_has x2 x4 σ) yv_X6_has ne_X2_68 rfl rfl rfl ⟨Nat.le_trans (Nat.le_of_ble_eq_true rfl) hR.1, Nat.le_trans (Nat.le_of_ble_eq_true rfl) hR.2⟩ (Nat.le_of_ble_eq_true rfl) dX2_sharesHeldBy_14 ?_
      refine g_if_eq (tgt := 35) K dX2_sharesHeldBy_17 (by decide) (fun c2 => ?_) (fun c2 => ?_)
      · replace h := bp c2 h
        refine g_iinc (lv' := [(4, .int (x4 + 1)), (0, .ref (X.ad b0)), (1, .int x1), (2, .int x2), (3, .int x3)]) K 4 dX2_sharesHeldBy_35 rfl (by rw [ic_1]) (by decide) rfl ?_
        refine g_goto (tgt := 5) K dX2_sharesHeldBy_38 (by decide) ?_
        refine g_sub [1, 2, 3, 4, 0] rfl ?_
        exact ih _ _ _ h hexit
      · replace h := bn c2 h
        refine g_iload_n K 3 dX2_sharesHeldBy_20 rfl rfl ?_
        refine g_aload_n K 0 dX2_sharesHeldBy_21 rfl rfl ?_
        refine g_get (v := .ref (X.ad (b0 + 1))) K (e_Holdings (hd_k0 hb0)) (hd_l0 hb0) rfl 0 (by decide) rfl fw_X2_11 u_X2 dX2_sharesHeldBy_22 ?_
        refine g_iload_n K 1 dX2_sharesHeldBy_25 rfl rfl ?_
        obtain ⟨g3, h⟩ := og h
        refine g_aaldI K (hd_k1 hb0) (hd_l1 hb0) g3 dX2_sharesHeldBy_26 ?_
        refine g_iload K 4 dX2_sharesHeldBy_27 rfl ?_
        refine g_cni (As := [.int x4]) (rest := [.ref (X.ad ((b0 + 1) + 1 + x1.toNatClampNeg)), .int x3]) K (m_X6_holderOf x4 σ) yv_X6_holderOf ne_X2_72 rfl rfl rfl ⟨Nat.le_trans (Nat.le_of_ble_eq_true rfl) hR.1, Nat.le_trans (Nat.le_of_ble_eq_true rfl) hR.2⟩ (Nat.le_of_ble_eq_true rfl) dX2_sharesHeldBy_29 ?_
        obtain ⟨g4, h⟩ := og h
        refine g_iald K (hd_r1 hb0 g3) (hd_s1 hb0 g3) g4 dX2_sharesHeldBy_32 ?_
        refine g_iadd K dX2_sharesHeldBy_33 ?_
        refine g_istore_n (lv' := [(3, .int (x3 + (σ.1 ((b0 + 1) + 1 + x1.toNatClampNeg) (f_X6_holderOf x4).toNatClampNeg))), (0, .ref (X.ad b0)), (1, .int x1), (2, .int x2), (4, .int x4)]) K dX2_sharesHeldBy_34 rfl (by decide) rfl ?_
        refine g_iinc (lv' := [(4, .int (x4 + 1)), (3, .int (x3 + (σ.1 ((b0 + 1) + 1 + x1.toNatClampNeg) (f_X6_holderOf x4).toNatClampNeg))), (0, .ref (X.ad b0)), (1, .int x1), (2, .int x2)]) K 4 dX2_sharesHeldBy_35 rfl (by rw [ic_1]) (by decide) rfl ?_
        refine g_goto (tgt := 5) K dX2_sharesHeldBy_38 (by decide) ?_
        refine g_sub [2, 3, 4, 1, 0] rfl ?_
        exact ih _ _ _ h hexit
def f_X2_sharesHeldBy (b0 : Nat) (x1 : Int32) (x2 : Int32) (σ : Sg) : Option Int32 :=
  Option.bind (L_X2_sharesHeldBy_5 b0 x1 x2 σ FU 0 0) (fun o1 =>
  some o1.1)
set_option maxRecDepth 20000 in
set_option maxHeartbeats 4000000 in
theorem w_X2_sharesHeldBy {X : Ctx} (K : Cok X cX2_sharesHeldBy 5 RX2) (hR : 1 ≤ X.R.frames ∧ 21 ≤ X.R.locals) {b0 : Nat} {x1 : Int32} {x2 : Int32} {σ : Sg} (hb0 : isHold b0) {r : Int32} (h : f_X2_sharesHeldBy b0 x1 x2 σ = some r) (hr : RI X cX2_sharesHeldBy 5 (r, σ)) : G X 5 0 [(0, .ref (X.ad b0)), (1, .int x1), (2, .int x2)] [] σ := by
  unfold f_X2_sharesHeldBy at h
  refine g_iconst (v := 0) K dX2_sharesHeldBy_0 ic_0 ?_
  refine g_istore_n (lv' := [(3, .int 0), (0, .ref (X.ad b0)), (1, .int x1), (2, .int x2)]) K dX2_sharesHeldBy_1 rfl (by decide) rfl ?_
  refine g_iconst (v := 0) K dX2_sharesHeldBy_2 ic_0 ?_
  refine g_istore (lv' := [(4, .int 0), (3, .int 0), (0, .ref (X.ad b0)), (1, .int x1), (2, .int x2)]) K dX2_sharesHeldBy_3 (by decide) rfl ?_
  obtain ⟨o1, e2, h⟩ := ob h
  refine g_sub [2, 3, 4, 1, 0] rfl ?_
  refine l_X2_sharesHeldBy_5 K hR hb0 _ _ _ _ e2 ?_
  refine g_iload_n K 3 dX2_sharesHeldBy_41 rfl rfl ?_
  exact hr _ _ _ _ dX2_sharesHeldBy_42 (rt1 h)
theorem m_X2_sharesHeldBy {b0 : Nat} {x1 : Int32} {x2 : Int32} {σ : Sg} (hb0 : isHold b0) {r : Int32} (h : f_X2_sharesHeldBy b0 x1 x2 σ = some r) : CI yX2_sharesHeldBy cX2_sharesHeldBy 5 (some .int) 1 21 (fun ad => [.ref (ad b0), .int x1, .int x2]) σ r σ :=
  CI.of (by decide) (fun _ => Nat.le_of_ble_eq_true rfl) (fun X K hR hr => w_X2_sharesHeldBy K hR hb0 h hr)
def L_X2_copyFrom_2 (b0 : Nat) (b1 : Nat) : Nat → Int32 → Sg → Option (Int32 × Sg)
  | 0, _, _ => none
  | n + 1, x2, σ =>
    if 5 ≤ x2 then
    (some (x2, σ))
    else
    (if inb x2 5 then
    (if inb x2 5 then
    (if (0 ≤ Int32.toInt 0 ∧ 0 ≤ Int32.toInt 0 ∧ 0 ≤ Int32.toInt 10) ∧ Int32.toInt 0 + Int32.toInt 10 ≤ 10 ∧ Int32.toInt 0 + Int32.toInt 10 ≤ 10 then
    (jn (setR σ ((b0 + 1) + 1 + x2.toNatClampNeg) (va_cpy (σ.1 ((b1 + 1) + 1 + x2.toNatClampNeg)) (σ.1 ((b0 + 1) + 1 + x2.toNatClampNeg)) (0 : Int32).toNatClampNeg (0 : Int32).toNatClampNeg (10 : Int32).toNatClampNeg)) (fun σ5 =>
    if inb x2 5 then
    (if inb x2 5 then
    (if (0 ≤ Int32.toInt 0 ∧ 0 ≤ Int32.toInt 0 ∧ 0 ≤ Int32.toInt 10) ∧ Int32.toInt 0 + Int32.toInt 10 ≤ 10 ∧ Int32.toInt 0 + Int32.toInt 10 ≤ 10 then
    (jn (setR σ5 ((b0 + 7) + 1 + x2.toNatClampNeg) (va_cpy (σ5.1 ((b1 + 7) + 1 + x2.toNatClampNeg)) (σ5.1 ((b0 + 7) + 1 + x2.toNatClampNeg)) (0 : Int32).toNatClampNeg (0 : Int32).toNatClampNeg (10 : Int32).toNatClampNeg)) (fun σ10 =>
    if inb x2 5 then
    (if inb x2 5 then
    (jn (setR σ10 (b0 + 13) (upd (σ10.1 (b0 + 13)) x2.toNatClampNeg (σ10.1 (b1 + 13) x2.toNatClampNeg))) (fun σ14 =>
    L_X2_copyFrom_2 b0 b1 n (x2 + 1) σ14))
    else none)
    else none))
    else none)
    else none)
    else none))
    else none)
    else none)
    else none)
set_option maxRecDepth 20000 in
set_option maxHeartbeats 4000000 in
theorem l_X2_copyFrom_2 {X : Ctx} (K : Cok X cX2_copyFrom 3 RX2) (hR : 1 ≤ X.R.frames ∧ 26 ≤ X.R.locals) {b0 : Nat} {b1 : Nat} (hb0 : isHold b0) (hb1 : isHold b1) :
    ∀ (n : Nat) (x2 : Int32) (σ : Sg) (o : (Int32 × Sg)), L_X2_copyFrom_2 b0 b1 n x2 σ = some o → G X 3 63 [(0, .ref (X.ad b0)), (1, .ref (X.ad b1)), (2, .int o.1)] [] o.2 → G X 3 2 [(0, .ref (X.ad b0)), (1, .ref (X.ad b1)), (2, .int x2)] [] σ := by
  intro n
  induction n with
  | zero => intro x2 σ o h; exact absurd h (by unfold L_X2_copyFrom_2; intro h; cases h)
  | succ n ih =>
    intro x2 σ o h hexit
    unfold L_X2_copyFrom_2 at h
    refine g_iload_n K 2 dX2_copyFrom_2 rfl rfl ?_
    refine g_iconst (v := 5) K dX2_copyFrom_3 ic_5 ?_
    refine g_icmp_ge (tgt := 63) K dX2_copyFrom_4 (by decide) (fun c1 => ?_) (fun c1 => ?_)
    · replace h := bp c1 h
      refine g_sub [0, 1, 2] rfl ?_
      obtain rfl := Option.some.inj h
      exact hexit
    · replace h := bn c1 h
      refine g_aload_n K 1 dX2_copyFrom_7 rfl rfl ?_
      refine g_get (v := .ref (X.ad (b1 + 1))) K (e_Holdings (hd_k0 hb1)) (hd_l0 hb1) rfl 0 (by decide) rfl fw_X2_11 u_X2 dX2_copyFrom_8 ?_
      refine g_iload_n K 2 dX2_copyFrom_11 rfl rfl ?_
      obtain ⟨g2, h⟩ := og h
      refine g_aaldI K (hd_k1 hb1) (hd_l1 hb1) g2 dX2_copyFrom_12 ?_
      refine g_iconst (v := 0) K dX2_copyFrom_13 ic_0 ?_
      refine g_aload_n K 0 dX2_copyFrom_14 rfl rfl ?_
      refine g_get (v := .ref (X.ad (b0 + 1))) K (e_Holdings (hd_k0 hb0)) (hd_l0 hb0) rfl 0 (by decide) rfl fw_X2_11 u_X2 dX2_copyFrom_15 ?_
      refine g_iload_n K 2 dX2_copyFrom_18 rfl rfl ?_
      obtain ⟨g3, h⟩ := og h
      refine g_aaldI K (hd_k1 hb0) (hd_l1 hb0) g3 dX2_copyFrom_19 ?_
      refine g_iconst (v := 0) K dX2_copyFrom_20 ic_0 ?_
      refine g_bipush (v := 10) K dX2_copyFrom_21 bp_10 ?_
      obtain ⟨g4, h⟩ := og h
      refine g_copy K (hd_r1 hb1 g2) (hd_s1 hb1 g2) (hd_r1 hb0 g3) (hd_s1 hb0 g3) g4 ml_X2_23 ac_native ac_static ac_init (Nat.le_trans (Nat.le_of_ble_eq_true rfl) hR.1) (Nat.le_trans (Nat.le_of_ble_eq_true rfl) hR.2) dX2_copyFrom_23 (fun σ5 s6 => ?_)
      replace h := jn_at s6 h
      refine g_aload_n K 1 dX2_copyFrom_26 rfl rfl ?_
      refine g_get (v := .ref (X.ad (b1 + 7))) K (e_Holdings (hd_k0 hb1)) (hd_l0 hb1) rfl 1 (by decide) rfl fw_X2_16 u_X2 dX2_copyFrom_27 ?_
      refine g_iload_n K 2 dX2_copyFrom_30 rfl rfl ?_
      obtain ⟨g7, h⟩ := og h
      refine g_aaldI K (hd_k7 hb1) (hd_l7 hb1) g7 dX2_copyFrom_31 ?_
      refine g_iconst (v := 0) K dX2_copyFrom_32 ic_0 ?_
      refine g_aload_n K 0 dX2_copyFrom_33 rfl rfl ?_
      refine g_get (v := .ref (X.ad (b0 + 7))) K (e_Holdings (hd_k0 hb0)) (hd_l0 hb0) rfl 1 (by decide) rfl fw_X2_16 u_X2 dX2_copyFrom_34 ?_
      refine g_iload_n K 2 dX2_copyFrom_37 rfl rfl ?_
      obtain ⟨g8, h⟩ := og h
      refine g_aaldI K (hd_k7 hb0) (hd_l7 hb0) g8 dX2_copyFrom_38 ?_
      refine g_iconst (v := 0) K dX2_copyFrom_39 ic_0 ?_
      refine g_bipush (v := 10) K dX2_copyFrom_40 bp_10 ?_
      obtain ⟨g9, h⟩ := og h
      refine g_copy K (hd_r7 hb1 g7) (hd_s7 hb1 g7) (hd_r7 hb0 g8) (hd_s7 hb0 g8) g9 ml_X2_23 ac_native ac_static ac_init (Nat.le_trans (Nat.le_of_ble_eq_true rfl) hR.1) (Nat.le_trans (Nat.le_of_ble_eq_true rfl) hR.2) dX2_copyFrom_42 (fun σ10 s11 => ?_)
      replace h := jn_at s11 h
      refine g_aload_n K 0 dX2_copyFrom_45 rfl rfl ?_
      refine g_get (v := .ref (X.ad (b0 + 13))) K (e_Holdings (hd_k0 hb0)) (hd_l0 hb0) rfl 2 (by decide) rfl fw_X2_19 u_X2 dX2_copyFrom_46 ?_
      refine g_iload_n K 2 dX2_copyFrom_49 rfl rfl ?_
      refine g_aload_n K 1 dX2_copyFrom_50 rfl rfl ?_
      refine g_get (v := .ref (X.ad (b1 + 13))) K (e_Holdings (hd_k0 hb1)) (hd_l0 hb1) rfl 2 (by decide) rfl fw_X2_19 u_X2 dX2_copyFrom_51 ?_
      refine g_iload_n K 2 dX2_copyFrom_54 rfl rfl ?_
      obtain ⟨g12, h⟩ := og h
      refine g_iald K (hd_k13 hb1) (hd_l13 hb1) g12 dX2_copyFrom_55 ?_
      obtain ⟨g13, h⟩ := og h
      refine g_iast K (hd_k13 hb0) (hd_l13 hb0) g13 dX2_copyFrom_56 (fun σ14 s15 => ?_)
      replace h := jn_at s15 h
      refine g_iinc (lv' := [(2, .int (x2 + 1)), (0, .ref (X.ad b0)), (1, .ref (X.ad b1))]) K 2 dX2_copyFrom_57 rfl (by rw [ic_1]) (by decide) rfl ?_
      refine g_goto (tgt := 2) K dX2_copyFrom_60 (by decide) ?_
      refine g_sub [1, 2, 0] rfl ?_
      exact ih _ _ _ h hexit
def f_X2_copyFrom (b0 : Nat) (b1 : Nat) (σ : Sg) : Option Sg :=
  Option.bind (L_X2_copyFrom_2 b0 b1 FU 0 σ) (fun o1 =>
  some o1.2)
set_option maxRecDepth 20000 in
set_option maxHeartbeats 4000000 in
theorem w_X2_copyFrom {X : Ctx} (K : Cok X cX2_copyFrom 3 RX2) (hR : 1 ≤ X.R.frames ∧ 26 ≤ X.R.locals) {b0 : Nat} {b1 : Nat} {σ : Sg} (hb0 : isHold b0) (hb1 : isHold b1) {r : Sg} (h : f_X2_copyFrom b0 b1 σ = some r) (hr : RV X cX2_copyFrom 3 r) : G X 3 0 [(0, .ref (X.ad b0)), (1, .ref (X.ad b1))] [] σ := by
  unfold f_X2_copyFrom at h
  refine g_iconst (v := 0) K dX2_copyFrom_0 ic_0 ?_
  refine g_istore_n (lv' := [(2, .int 0), (0, .ref (X.ad b0)), (1, .ref (X.ad b1))]) K dX2_copyFrom_1 rfl (by decide) rfl ?_
  obtain ⟨o1, e2, h⟩ := ob h
  refine g_sub [1, 2, 0] rfl ?_
  refine l_X2_copyFrom_2 K hR hb0 hb1 _ _ _ _ e2 ?_
  exact hr _ _ _ dX2_copyFrom_63 (rt2 h)
theorem m_X2_copyFrom {b0 : Nat} {b1 : Nat} {σ : Sg} (hb0 : isHold b0) (hb1 : isHold b1) {r : Sg} (h : f_X2_copyFrom b0 b1 σ = some r) : CV yX2_copyFrom cX2_copyFrom 3 none 1 26 (fun ad => [.ref (ad b0), .ref (ad b1)]) σ r :=
  CV.of (by decide) (fun _ => Nat.le_of_ble_eq_true rfl) (fun X K hR hr => w_X2_copyFrom K hR hb0 hb1 h hr)
