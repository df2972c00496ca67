def f_X7_stake (x1 : Int32) (x2 : Int32) (x3 : Int32) (σ : Sg) : Option (Int64 × Sg) :=
  if (f_X7_in x1 0 3) = 0 then
  (if x1 = 9 then
  (if (f_X7_isFirm x2) = 0 then
  (some ((-1), σ))
  else
  (if (f_X7_in x3 0 1) = 0 then
  (some ((-2), σ))
  else
  (Option.bind (f_X7_lay (σ.1 132 7) (-6) σ) (fun q15 =>
  Option.bind (f_X7_upper x1 x2 q15.2) (fun q17 =>
  Option.bind (f_X7_lower q17.2) (fun q19 =>
  Option.bind (f_X7_part q17.1 q19.1 x3 q19.2) (fun r21 =>
  some (r21, q19.2))))))))
  else
  (some ((-1), σ)))
  else
  (if (f_X7_isFirm x2) = 0 then
  (some ((-1), σ))
  else
  (if (f_X7_in x3 0 1) = 0 then
  (some ((-2), σ))
  else
  (Option.bind (f_X7_lay (σ.1 132 7) (-6) σ) (fun q4 =>
  Option.bind (f_X7_upper x1 x2 q4.2) (fun q6 =>
  Option.bind (f_X7_lower q6.2) (fun q8 =>
  Option.bind (f_X7_part q6.1 q8.1 x3 q8.2) (fun r10 =>
  some (r10, q8.2))))))))
set_option maxRecDepth 20000 in
set_option maxHeartbeats 4000000 in
theorem w_X7_stake {X : Ctx} (K : Cok X cX7_stake 4 RX7) (hR : 4 ≤ X.R.frames ∧ 94 ≤ X.R.locals) {x1 : Int32} {x2 : Int32} {x3 : Int32} {σ : Sg}  {r : Int64 × Sg} (h : f_X7_stake x1 x2 x3 σ = some r) (hr : RLg X cX7_stake 4 r) : G X 4 0 [(0, .ref (X.ad 132)), (1, .int x1), (2, .int x2), (3, .int x3)] [] σ := by
  unfold f_X7_stake at h
  refine g_iload_n K 1 dX7_stake_0 rfl rfl ?_
  refine g_iconst (v := 0) K dX7_stake_1 ic_0 ?_
  refine g_iconst (v := 3) K dX7_stake_2 ic_3 ?_
  refine g_csi (As := [.int x1, .int 0, .int 3]) (rest := []) K (m_X7_in x1 0 3 σ) yv_X7_in ml_X7_66 rfl rfl rfl ⟨Nat.le_trans (Nat.le_of_ble_eq_true rfl) hR.1, Nat.le_trans (Nat.le_of_ble_eq_true rfl) hR.2⟩ (Nat.le_of_ble_eq_true rfl) dX7_stake_3 ?_
  refine g_if_ne (tgt := 15) K dX7_stake_6 (by decide) (fun c1 => ?_) (fun c1 => ?_)
  · replace h := bn c1 h
    refine g_iload_n K 2 dX7_stake_15 rfl rfl ?_
    refine g_csi (As := [.int x2]) (rest := []) K (m_X7_isFirm x2 σ) yv_X7_isFirm ml_X7_93 rfl rfl rfl ⟨Nat.le_trans (Nat.le_of_ble_eq_true rfl) hR.1, Nat.le_trans (Nat.le_of_ble_eq_true rfl) hR.2⟩ (Nat.le_of_ble_eq_true rfl) dX7_stake_16 ?_
    refine g_if_ne (tgt := 26) K dX7_stake_19 (by decide) (fun c2 => ?_) (fun c2 => ?_)
    · replace h := bn c2 h
      refine g_iload_n K 3 dX7_stake_26 rfl rfl ?_
      refine g_iconst (v := 0) K dX7_stake_27 ic_0 ?_
      refine g_iconst (v := 1) K dX7_stake_28 ic_1 ?_
      refine g_csi (As := [.int x3, .int 0, .int 1]) (rest := []) K (m_X7_in x3 0 1 σ) yv_X7_in ml_X7_66 rfl rfl rfl ⟨Nat.le_trans (Nat.le_of_ble_eq_true rfl) hR.1, Nat.le_trans (Nat.le_of_ble_eq_true rfl) hR.2⟩ (Nat.le_of_ble_eq_true rfl) dX7_stake_29 ?_
      refine g_if_ne (tgt := 39) K dX7_stake_32 (by decide) (fun c3 => ?_) (fun c3 => ?_)
      · replace h := bn c3 h
        refine g_aload_n K 0 dX7_stake_39 rfl rfl ?_
        refine g_aload_n K 0 dX7_stake_40 rfl rfl ?_
        refine g_get (v := .int (σ.1 132 7)) K (e_ControlRegisterModel kd_132) ltN_132 rfl 7 (by decide) rfl fw_X7_114 u_X7 dX7_stake_41 ?_
        refine g_bipush (v := (-6)) K dX7_stake_44 bp_m6 ?_
        obtain ⟨q4, e5, h⟩ := ob h
        refine g_cvi (As := [.int (σ.1 132 7), .int (-6)]) (rest := []) K (m_X7_lay e5) yv_X7_lay ml_X7_89 rfl rfl rfl (e_ControlRegisterModel kd_132) ltN_132 rfl rfl ⟨Nat.le_trans (Nat.le_of_ble_eq_true rfl) hR.1, Nat.le_trans (Nat.le_of_ble_eq_true rfl) hR.2⟩ (Nat.le_of_ble_eq_true rfl) dX7_stake_46 ?_
        refine g_pop K dX7_stake_49 rfl ?_
        refine g_aload_n K 0 dX7_stake_50 rfl rfl ?_
        refine g_iload_n K 1 dX7_stake_51 rfl rfl ?_
        refine g_iload_n K 2 dX7_stake_52 rfl rfl ?_
        obtain ⟨q6, e7, h⟩ := ob h
        refine g_cvl (As := [.int x1, .int x2]) (rest := []) K (m_X7_upper e7) yv_X7_upper ml_X7_185 rfl rfl rfl (e_ControlRegisterModel kd_132) ltN_132 rfl rfl ⟨Nat.le_trans (Nat.le_of_ble_eq_true rfl) hR.1, Nat.le_trans (Nat.le_of_ble_eq_true rfl) hR.2⟩ (Nat.le_of_ble_eq_true rfl) dX7_stake_53 ?_
        refine g_aload_n K 0 dX7_stake_56 rfl rfl ?_
        obtain ⟨q8, e9, h⟩ := ob h
        refine g_cvl (As := []) (rest := [.long q6.1]) K (m_X7_lower e9) yv_X7_lower ml_X7_189 rfl rfl rfl (e_ControlRegisterModel kd_132) ltN_132 rfl rfl ⟨Nat.le_trans (Nat.le_of_ble_eq_true rfl) hR.1, Nat.le_trans (Nat.le_of_ble_eq_true rfl) hR.2⟩ (Nat.le_of_ble_eq_true rfl) dX7_stake_57 ?_
        refine g_iload_n K 3 dX7_stake_60 rfl rfl ?_
        obtain ⟨r10, e11, h⟩ := ob h
        refine g_csl (As := [.long q6.1, .long q8.1, .int x3]) (rest := []) K (m_X7_part e11) yv_X7_part ml_X7_192 rfl rfl rfl ⟨Nat.le_trans (Nat.le_of_ble_eq_true rfl) hR.1, Nat.le_trans (Nat.le_of_ble_eq_true rfl) hR.2⟩ (Nat.le_of_ble_eq_true rfl) dX7_stake_61 ?_
        exact hr _ _ _ _ dX7_stake_64 (rt2 h)
      · replace h := bp c3 h
        refine g_ldc2 (v := (-2)) K cl_X7_183 dX7_stake_35 ?_
        exact hr _ _ _ _ dX7_stake_38 (rt2 h)
    · replace h := bp c2 h
      refine g_ldc2 (v := (-1)) K cl_X7_181 dX7_stake_22 ?_
      exact hr _ _ _ _ dX7_stake_25 (rt2 h)
  · replace h := bp c1 h
    refine g_iload_n K 1 dX7_stake_9 rfl rfl ?_
    refine g_bipush (v := 9) K dX7_stake_10 bp_9 ?_
    refine g_icmp_ne (tgt := 22) K dX7_stake_12 (by decide) (fun c12 => ?_) (fun c12 => ?_)
    · replace h := bn c12 h
      refine g_ldc2 (v := (-1)) K cl_X7_181 dX7_stake_22 ?_
      exact hr _ _ _ _ dX7_stake_25 (rt2 h)
    · replace h := bp c12 h
      refine g_iload_n K 2 dX7_stake_15 rfl rfl ?_
      refine g_csi (As := [.int x2]) (rest := []) K (m_X7_isFirm x2 σ) yv_X7_isFirm ml_X7_93 rfl rfl rfl ⟨Nat.le_trans (Nat.le_of_ble_eq_true rfl) hR.1, Nat.le_trans (Nat.le_of_ble_eq_true rfl) hR.2⟩ (Nat.le_of_ble_eq_true rfl) dX7_stake_16 ?_
      refine g_if_ne (tgt := 26) K dX7_stake_19 (by decide) (fun c13 => ?_) (fun c13 => ?_)
      · replace h := bn c13 h
        refine g_iload_n K 3 dX7_stake_26 rfl rfl ?_
        refine g_iconst (v := 0) K dX7_stake_27 ic_0 ?_
        refine g_iconst (v := 1) K dX7_stake_28 ic_1 ?_
        refine g_csi (As := [.int x3, .int 0, .int 1]) (rest := []) K (m_X7_in x3 0 1 σ) yv_X7_in ml_X7_66 rfl rfl rfl ⟨Nat.le_trans (Nat.le_of_ble_eq_true rfl) hR.1, Nat.le_trans (Nat.le_of_ble_eq_true rfl) hR.2⟩ (Nat.le_of_ble_eq_true rfl) dX7_stake_29 ?_
        refine g_if_ne (tgt := 39) K dX7_stake_32 (by decide) (fun c14 => ?_) (fun c14 => ?_)
        · replace h := bn c14 h
          refine g_aload_n K 0 dX7_stake_39 rfl rfl ?_
          refine g_aload_n K 0 dX7_stake_40 rfl rfl ?_
          refine g_get (v := .int (σ.1 132 7)) K (e_ControlRegisterModel kd_132) ltN_132 rfl 7 (by decide) rfl fw_X7_114 u_X7 dX7_stake_41 ?_
          refine g_bipush (v := (-6)) K dX7_stake_44 bp_m6 ?_
          obtain ⟨q15, e16, h⟩ := ob h
          refine g_cvi (As := [.int (σ.1 132 7), .int (-6)]) (rest := []) K (m_X7_lay e16) yv_X7_lay ml_X7_89 rfl rfl rfl (e_ControlRegisterModel kd_132) ltN_132 rfl rfl ⟨Nat.le_trans (Nat.le_of_ble_eq_true rfl) hR.1, Nat.le_trans (Nat.le_of_ble_eq_true rfl) hR.2⟩ (Nat.le_of_ble_eq_true rfl) dX7_stake_46 ?_
          refine g_pop K dX7_stake_49 rfl ?_
          refine g_aload_n K 0 dX7_stake_50 rfl rfl ?_
          refine g_iload_n K 1 dX7_stake_51 rfl rfl ?_
          refine g_iload_n K 2 dX7_stake_52 rfl rfl ?_
          obtain ⟨q17, e18, h⟩ := ob h
          refine g_cvl (As := [.int x1, .int x2]) (rest := []) K (m_X7_upper e18) yv_X7_upper ml_X7_185 rfl rfl rfl (e_ControlRegisterModel kd_132) ltN_132 rfl rfl ⟨Nat.le_trans (Nat.le_of_ble_eq_true rfl) hR.1, Nat.le_trans (Nat.le_of_ble_eq_true rfl) hR.2⟩ (Nat.le_of_ble_eq_true rfl) dX7_stake_53 ?_
          refine g_aload_n K 0 dX7_stake_56 rfl rfl ?_
          obtain ⟨q19, e20, h⟩ := ob h
          refine g_cvl (As := []) (rest := [.long q17.1]) K (m_X7_lower e20) yv_X7_lower ml_X7_189 rfl rfl rfl (e_ControlRegisterModel kd_132) ltN_132 rfl rfl ⟨Nat.le_trans (Nat.le_of_ble_eq_true rfl) hR.1, Nat.le_trans (Nat.le_of_ble_eq_true rfl) hR.2⟩ (Nat.le_of_ble_eq_true rfl) dX7_stake_57 ?_
          refine g_iload_n K 3 dX7_stake_60 rfl rfl ?_
          obtain ⟨r21, e22, h⟩ := ob h
          refine g_csl (As := [.long q17.1, .long q19.1, .int x3]) (rest := []) K (m_X7_part e22) yv_X7_part ml_X7_192 rfl rfl rfl ⟨Nat.le_trans (Nat.le_of_ble_eq_true rfl) hR.1, Nat.le_trans (Nat.le_of_ble_eq_true rfl) hR.2⟩ (Nat.le_of_ble_eq_true rfl) dX7_stake_61 ?_
          exact hr _ _ _ _ dX7_stake_64 (rt2 h)
        · replace h := bp c14 h
          refine g_ldc2 (v := (-2)) K cl_X7_183 dX7_stake_35 ?_
          exact hr _ _ _ _ dX7_stake_38 (rt2 h)
      · replace h := bp c13 h
        refine g_ldc2 (v := (-1)) K cl_X7_181 dX7_stake_22 ?_
        exact hr _ _ _ _ dX7_stake_25 (rt2 h)
theorem m_X7_stake {x1 : Int32} {x2 : Int32} {x3 : Int32} {σ : Sg}  {r : Int64 × Sg} (h : f_X7_stake x1 x2 x3 σ = some r) : CL yX7_stake cX7_stake 4 (some .long) 4 94 (fun ad => [.ref (ad 132), .int x1, .int x2, .int x3]) σ r.1 r.2 :=
  CL.of (by decide) (fun _ => Nat.le_of_ble_eq_true rfl) (fun X K hR hr => w_X7_stake K hR h hr)
def L_X7_nobody_51 (x1 : Int32) (x2 : Int32) : Nat → Int64 → Int32 → Sg → Option (Int64 × Int32 × Sg)
  | 0, _, _, _ => none
  | n + 1, x3, x5, σ =>
    if 4 ≤ x5 then
    (some (x3, x5, σ))
    else
    (Option.bind (f_X7_upper x5 x1 σ) (fun q2 =>
    L_X7_nobody_51 x1 x2 n (x3 - q2.1) (x5 + 1) q2.2))
set_option maxRecDepth 20000 in
set_option maxHeartbeats 4000000 in
theorem l_X7_nobody_51 {X : Ctx} (K : Cok X cX7_nobody 6 RX7) (hR : 4 ≤ X.R.frames ∧ 94 ≤ X.R.locals) {x1 : Int32} {x2 : Int32}  :
    ∀ (n : Nat) (x3 : Int64) (x5 : Int32) (σ : Sg) (o : (Int64 × Int32 × Sg)), L_X7_nobody_51 x1 x2 n x3 x5 σ = some o → G X 6 73 [(0, .ref (X.ad 132)), (1, .int x1), (2, .int x2), (3, .long o.1), (5, .int o.2.1)] [] o.2.2 → G X 6 51 [(0, .ref (X.ad 132)), (1, .int x1), (2, .int x2), (3, .long x3), (5, .int x5)] [] σ := by
  intro n
  induction n with
  | zero => intro x3 x5 σ o h; exact absurd h (by unfold L_X7_nobody_51; intro h; cases h)
  | succ n ih =>
    intro x3 x5 σ o h hexit
    unfold L_X7_nobody_51 at h
    refine g_iload K 4 dX7_nobody_51 rfl ?_
    refine g_iconst (v := 4) K dX7_nobody_53 ic_4 ?_
    refine g_icmp_ge (tgt := 73) K dX7_nobody_54 (by decide) (fun c1 => ?_) (fun c1 => ?_)
    · replace h := bp c1 h
      refine g_sub [0, 1, 2, 3, 4] rfl ?_
      obtain rfl := Option.some.inj h
      exact hexit
    · replace h := bn c1 h
      refine g_lload_n K 3 dX7_nobody_57 rfl rfl ?_
      refine g_aload_n K 0 dX7_nobody_58 rfl rfl ?_
      refine g_iload K 4 dX7_nobody_59 rfl ?_
      refine g_iload_n K 1 dX7_nobody_61 rfl rfl ?_
      obtain ⟨q2, e3, h⟩ := ob h
      refine g_cvl (As := [.int x5, .int x1]) (rest := [.long x3]) K (m_X7_upper e3) yv_X7_upper ml_X7_185 rfl rfl rfl (e_ControlRegisterModel kd_132) ltN_132 rfl rfl ⟨Nat.le_trans (Nat.le_of_ble_eq_true rfl) hR.1, Nat.le_trans (Nat.le_of_ble_eq_true rfl) hR.2⟩ (Nat.le_of_ble_eq_true rfl) dX7_nobody_62 ?_
      refine g_lsub K dX7_nobody_65 ?_
      refine g_lstore_n (lv' := [(3, .long (x3 - q2.1)), (0, .ref (X.ad 132)), (1, .int x1), (2, .int x2), (5, .int x5)]) K dX7_nobody_66 rfl (by decide) rfl ?_
      refine g_iinc (lv' := [(5, .int (x5 + 1)), (3, .long (x3 - q2.1)), (0, .ref (X.ad 132)), (1, .int x1), (2, .int x2)]) K 4 dX7_nobody_67 rfl (by rw [ic_1]) (by decide) rfl ?_
      refine g_goto (tgt := 51) K dX7_nobody_70 (by decide) ?_
      refine g_sub [2, 3, 4, 1, 0] rfl ?_
      exact ih _ _ _ _ h hexit
def f_X7_nobody (x1 : Int32) (x2 : Int32) (σ : Sg) : Option (Int64 × Sg) :=
  if (f_X7_isFirm x1) = 0 then
  (some ((-1), σ))
  else
  (if (f_X7_in x2 0 1) = 0 then
  (some ((-2), σ))
  else
  (Option.bind (f_X7_lay (σ.1 132 7) (-6) σ) (fun q3 =>
  Option.bind (f_X7_lower q3.2) (fun q5 =>
  Option.bind (f_X7_upper 9 x1 q5.2) (fun q7 =>
  Option.bind (L_X7_nobody_51 x1 x2 FU (q5.1 - q7.1) 0 q7.2) (fun o9 =>
  Option.bind (f_X7_lower o9.2.2) (fun q11 =>
  Option.bind (f_X7_part o9.1 q11.1 x2 q11.2) (fun r13 =>
  some (r13, q11.2)))))))))
set_option maxRecDepth 20000 in
set_option maxHeartbeats 4000000 in
theorem w_X7_nobody {X : Ctx} (K : Cok X cX7_nobody 6 RX7) (hR : 4 ≤ X.R.frames ∧ 94 ≤ X.R.locals) {x1 : Int32} {x2 : Int32} {σ : Sg}  {r : Int64 × Sg} (h : f_X7_nobody x1 x2 σ = some r) (hr : RLg X cX7_nobody 6 r) : G X 6 0 [(0, .ref (X.ad 132)), (1, .int x1), (2, .int x2)] [] σ := by
  unfold f_X7_nobody at h
  refine g_iload_n K 1 dX7_nobody_0 rfl rfl ?_
  refine g_csi (As := [.int x1]) (rest := []) K (m_X7_isFirm x1 σ) yv_X7_isFirm ml_X7_93 rfl rfl rfl ⟨Nat.le_trans (Nat.le_of_ble_eq_true rfl) hR.1, Nat.le_trans (Nat.le_of_ble_eq_true rfl) hR.2⟩ (Nat.le_of_ble_eq_true rfl) dX7_nobody_1 ?_
  refine g_if_ne (tgt := 11) K dX7_nobody_4 (by decide) (fun c1 => ?_) (fun c1 => ?_)
  · replace h := bn c1 h
    refine g_iload_n K 2 dX7_nobody_11 rfl rfl ?_
    refine g_iconst (v := 0) K dX7_nobody_12 ic_0 ?_
    refine g_iconst (v := 1) K dX7_nobody_13 ic_1 ?_
    refine g_csi (As := [.int x2, .int 0, .int 1]) (rest := []) K (m_X7_in x2 0 1 σ) yv_X7_in ml_X7_66 rfl rfl rfl ⟨Nat.le_trans (Nat.le_of_ble_eq_true rfl) hR.1, Nat.le_trans (Nat.le_of_ble_eq_true rfl) hR.2⟩ (Nat.le_of_ble_eq_true rfl) dX7_nobody_14 ?_
    refine g_if_ne (tgt := 24) K dX7_nobody_17 (by decide) (fun c2 => ?_) (fun c2 => ?_)
    · replace h := bn c2 h
      refine g_aload_n K 0 dX7_nobody_24 rfl rfl ?_
      refine g_aload_n K 0 dX7_nobody_25 rfl rfl ?_
      refine g_get (v := .int (σ.1 132 7)) K (e_ControlRegisterModel kd_132) ltN_132 rfl 7 (by decide) rfl fw_X7_114 u_X7 dX7_nobody_26 ?_
      refine g_bipush (v := (-6)) K dX7_nobody_29 bp_m6 ?_
      obtain ⟨q3, e4, h⟩ := ob h
      refine g_cvi (As := [.int (σ.1 132 7), .int (-6)]) (rest := []) K (m_X7_lay e4) yv_X7_lay ml_X7_89 rfl rfl rfl (e_ControlRegisterModel kd_132) ltN_132 rfl rfl ⟨Nat.le_trans (Nat.le_of_ble_eq_true rfl) hR.1, Nat.le_trans (Nat.le_of_ble_eq_true rfl) hR.2⟩ (Nat.le_of_ble_eq_true rfl) dX7_nobody_31 ?_
      refine g_pop K dX7_nobody_34 rfl ?_
      refine g_aload_n K 0 dX7_nobody_35 rfl rfl ?_
      obtain ⟨q5, e6, h⟩ := ob h
      refine g_cvl (As := []) (rest := []) K (m_X7_lower e6) yv_X7_lower ml_X7_189 rfl rfl rfl (e_ControlRegisterModel kd_132) ltN_132 rfl rfl ⟨Nat.le_trans (Nat.le_of_ble_eq_true rfl) hR.1, Nat.le_trans (Nat.le_of_ble_eq_true rfl) hR.2⟩ (Nat.le_of_ble_eq_true rfl) dX7_nobody_36 ?_
      refine g_aload_n K 0 dX7_nobody_39 rfl rfl ?_
      refine g_bipush (v := 9) K dX7_nobody_40 bp_9 ?_
      refine g_iload_n K 1 dX7_nobody_42 rfl rfl ?_
      obtain ⟨q7, e8, h⟩ := ob h
      refine g_cvl (As := [.int 9, .int x1]) (rest := [.long q5.1]) K (m_X7_upper e8) yv_X7_upper ml_X7_185 rfl rfl rfl (e_ControlRegisterModel kd_132) ltN_132 rfl rfl ⟨Nat.le_trans (Nat.le_of_ble_eq_true rfl) hR.1, Nat.le_trans (Nat.le_of_ble_eq_true rfl) hR.2⟩ (Nat.le_of_ble_eq_true rfl) dX7_nobody_43 ?_
      refine g_lsub K dX7_nobody_46 ?_
      refine g_lstore_n (lv' := [(3, .long (q5.1 - q7.1)), (0, .ref (X.ad 132)), (1, .int x1), (2, .int x2)]) K dX7_nobody_47 rfl (by decide) rfl ?_
      refine g_iconst (v := 0) K dX7_nobody_48 ic_0 ?_
      refine g_istore (lv' := [(5, .int 0), (3, .long (q5.1 - q7.1)), (0, .ref (X.ad 132)), (1, .int x1), (2, .int x2)]) K dX7_nobody_49 (by decide) rfl ?_
      obtain ⟨o9, e10, h⟩ := ob h
      refine g_sub [2, 3, 4, 1, 0] rfl ?_
      refine l_X7_nobody_51 K hR _ _ _ _ _ e10 ?_
      refine g_lload_n K 3 dX7_nobody_73 rfl rfl ?_
      refine g_aload_n K 0 dX7_nobody_74 rfl rfl ?_
      obtain ⟨q11, e12, h⟩ := ob h
      refine g_cvl (As := []) (rest := [.long o9.1]) K (m_X7_lower e12) yv_X7_lower ml_X7_189 rfl rfl rfl (e_ControlRegisterModel kd_132) ltN_132 rfl rfl ⟨Nat.le_trans (Nat.le_of_ble_eq_true rfl) hR.1, Nat.le_trans (Nat.le_of_ble_eq_true rfl) hR.2⟩ (Nat.le_of_ble_eq_true rfl) dX7_nobody_75 ?_
      refine g_iload_n K 2 dX7_nobody_78 rfl rfl ?_
      obtain ⟨r13, e14, h⟩ := ob h
      refine g_csl (As := [.long o9.1, .long q11.1, .int x2]) (rest := []) K (m_X7_part e14) yv_X7_part ml_X7_192 rfl rfl rfl ⟨Nat.le_trans (Nat.le_of_ble_eq_true rfl) hR.1, Nat.le_trans (Nat.le_of_ble_eq_true rfl) hR.2⟩ (Nat.le_of_ble_eq_true rfl) dX7_nobody_79 ?_
      exact hr _ _ _ _ dX7_nobody_82 (rt2 h)
    · replace h := bp c2 h
      refine g_ldc2 (v := (-2)) K cl_X7_183 dX7_nobody_20 ?_
      exact hr _ _ _ _ dX7_nobody_23 (rt2 h)
  · replace h := bp c1 h
    refine g_ldc2 (v := (-1)) K cl_X7_181 dX7_nobody_7 ?_
    exact hr _ _ _ _ dX7_nobody_10 (rt2 h)
theorem m_X7_nobody {x1 : Int32} {x2 : Int32} {σ : Sg}  {r : Int64 × Sg} (h : f_X7_nobody x1 x2 σ = some r) : CL yX7_nobody cX7_nobody 6 (some .long) 4 94 (fun ad => [.ref (ad 132), .int x1, .int x2]) σ r.1 r.2 :=
  CL.of (by decide) (fun _ => Nat.le_of_ble_eq_true rfl) (fun X K hR hr => w_X7_nobody K hR h hr)
def L_X7_layUppers_13 (x1 : Int32) : Nat → Int32 → Sg → Option (Int32 × Sg)
  | 0, _, _ => none
  | n + 1, x2, σ =>
    if 4 ≤ x2 then
    (some (x2, σ))
    else
    (Option.bind (f_X7_upper x2 x1 σ) (fun q2 =>
    if inb x2 4 then
    (jn (setL q2.2 147 (vp_updL (q2.2.2 147) x2.toNatClampNeg q2.1)) (fun σ5 =>
    L_X7_layUppers_13 x1 n (x2 + 1) σ5))
    else none))
set_option maxRecDepth 20000 in
set_option maxHeartbeats 4000000 in
theorem l_X7_layUppers_13 {X : Ctx} (K : Cok X cX7_layUppers 3 RX7) (hR : 4 ≤ X.R.frames ∧ 94 ≤ X.R.locals) {x1 : Int32}  :
    ∀ (n : Nat) (x2 : Int32) (σ : Sg) (o : (Int32 × Sg)), L_X7_layUppers_13 x1 n x2 σ = some o → G X 3 36 [(0, .ref (X.ad 132)), (1, .int x1), (2, .int o.1)] [] o.2 → G X 3 13 [(0, .ref (X.ad 132)), (1, .int x1), (2, .int x2)] [] σ := by
  intro n
  induction n with
  | zero => intro x2 σ o h; exact absurd h (by unfold L_X7_layUppers_13; intro h; cases h)
  | succ n ih =>
    intro x2 σ o h hexit
    unfold L_X7_layUppers_13 at h
    refine g_iload_n K 2 dX7_layUppers_13 rfl rfl ?_
    refine g_iconst (v := 4) K dX7_layUppers_14 ic_4 ?_
    refine g_icmp_ge (tgt := 36) K dX7_layUppers_15 (by decide) (fun c1 => ?_) (fun c1 => ?_)
    · replace h := bp c1 h
      refine g_sub [0, 1, 2] rfl ?_
      obtain rfl := Option.some.inj h
      exact hexit
    · replace h := bn c1 h
      refine g_aload_n K 0 dX7_layUppers_18 rfl rfl ?_
      refine g_get (v := .ref (X.ad 147)) K (e_ControlRegisterModel kd_132) ltN_132 rfl 21 (by decide) rfl fw_X7_54 u_X7 dX7_layUppers_19 ?_
      refine g_iload_n K 2 dX7_layUppers_22 rfl rfl ?_
      refine g_aload_n K 0 dX7_layUppers_23 rfl rfl ?_
      refine g_iload_n K 2 dX7_layUppers_24 rfl rfl ?_
      refine g_iload_n K 1 dX7_layUppers_25 rfl rfl ?_
      obtain ⟨q2, e3, h⟩ := ob h
      refine g_cvl (As := [.int x2, .int x1]) (rest := [.int x2, .ref (X.ad 147)]) K (m_X7_upper e3) yv_X7_upper ml_X7_185 rfl rfl rfl (e_ControlRegisterModel kd_132) ltN_132 rfl rfl ⟨Nat.le_trans (Nat.le_of_ble_eq_true rfl) hR.1, Nat.le_trans (Nat.le_of_ble_eq_true rfl) hR.2⟩ (Nat.le_of_ble_eq_true rfl) dX7_layUppers_26 ?_
      obtain ⟨g4, h⟩ := og h
      refine g_last K kd_147 ltN_147 g4 dX7_layUppers_29 (fun σ5 s6 => ?_)
      replace h := jn_at s6 h
      refine g_iinc (lv' := [(2, .int (x2 + 1)), (0, .ref (X.ad 132)), (1, .int x1)]) K 2 dX7_layUppers_30 rfl (by rw [ic_1]) (by decide) rfl ?_
      refine g_goto (tgt := 13) K dX7_layUppers_33 (by decide) ?_
      refine g_sub [1, 2, 0] rfl ?_
      exact ih _ _ _ h hexit
def f_X7_layUppers (x1 : Int32) (σ : Sg) : Option Sg :=
  Option.bind (f_X7_lay (σ.1 132 7) (-6) σ) (fun q1 =>
  Option.bind (L_X7_layUppers_13 x1 FU 0 q1.2) (fun o3 =>
  some o3.2))
set_option maxRecDepth 20000 in
set_option maxHeartbeats 4000000 in
theorem w_X7_layUppers {X : Ctx} (K : Cok X cX7_layUppers 3 RX7) (hR : 4 ≤ X.R.frames ∧ 94 ≤ X.R.locals) {x1 : Int32} {σ : Sg}  {r : Sg} (h : f_X7_layUppers x1 σ = some r) (hr : RV X cX7_layUppers 3 r) : G X 3 0 [(0, .ref (X.ad 132)), (1, .int x1)] [] σ := by
  unfold f_X7_layUppers at h
  refine g_aload_n K 0 dX7_layUppers_0 rfl rfl ?_
  refine g_aload_n K 0 dX7_layUppers_1 rfl rfl ?_
  refine g_get (v := .int (σ.1 132 7)) K (e_ControlRegisterModel kd_132) ltN_132 rfl 7 (by decide) rfl fw_X7_114 u_X7 dX7_layUppers_2 ?_
  refine g_bipush (v := (-6)) K dX7_layUppers_5 bp_m6 ?_
  obtain ⟨q1, e2, h⟩ := ob h
  refine g_cvi (As := [.int (σ.1 132 7), .int (-6)]) (rest := []) K (m_X7_lay e2) yv_X7_lay ml_X7_89 rfl rfl rfl (e_ControlRegisterModel kd_132) ltN_132 rfl rfl ⟨Nat.le_trans (Nat.le_of_ble_eq_true rfl) hR.1, Nat.le_trans (Nat.le_of_ble_eq_true rfl) hR.2⟩ (Nat.le_of_ble_eq_true rfl) dX7_layUppers_7 ?_
  refine g_pop K dX7_layUppers_10 rfl ?_
  refine g_iconst (v := 0) K dX7_layUppers_11 ic_0 ?_
  refine g_istore_n (lv' := [(2, .int 0), (0, .ref (X.ad 132)), (1, .int x1)]) K dX7_layUppers_12 rfl (by decide) rfl ?_
  obtain ⟨o3, e4, h⟩ := ob h
  refine g_sub [1, 2, 0] rfl ?_
  refine l_X7_layUppers_13 K hR _ _ _ _ e4 ?_
  exact hr _ _ _ dX7_layUppers_36 (rt2 h)
theorem m_X7_layUppers {x1 : Int32} {σ : Sg}  {r : Sg} (h : f_X7_layUppers x1 σ = some r) : CV yX7_layUppers cX7_layUppers 3 none 4 94 (fun ad => [.ref (ad 132), .int x1]) σ r :=
  CV.of (by decide) (fun _ => Nat.le_of_ble_eq_true rfl) (fun X K hR hr => w_X7_layUppers K hR h hr)
def L_X7_ranked_32 (x2 : Int32) (x3 : Int32) (x4 : Int32) (σ : Sg) : Nat → Int32 → Int32 → Option (Int32 × Int32)
  | 0, _, _ => none
  | n + 1, x5, x6 =>
    if 4 ≤ x6 then
    (some (x5, x6))
    else
    (if inb x6 4 then
    (if inb x4 4 then
    (Option.bind (if 0 < (lg_cmp (σ.2 147 x6.toNatClampNeg) (σ.2 147 x4.toNatClampNeg)) then (some 1) else (if inb x6 4 then (if inb x4 4 then (if (lg_cmp (σ.2 147 x6.toNatClampNeg) (σ.2 147 x4.toNatClampNeg)) = 0 then (if x4 ≤ x6 then (some 0) else (some 1)) else (some 0)) else none) else none) : Option Int32) (fun v10 =>
    L_X7_ranked_32 x2 x3 x4 σ n (x5 + v10) (x6 + 1)))
    else none)
    else none)
set_option maxRecDepth 20000 in
set_option maxHeartbeats 4000000 in
theorem l_X7_ranked_32 {X : Ctx} (K : Cok X cX7_ranked 7 RX7) (hR : 5 ≤ X.R.frames ∧ 116 ≤ X.R.locals) {x2 : Int32} {x3 : Int32} {x4 : Int32} {σ : Sg}  :
    ∀ (n : Nat) (x5 : Int32) (x6 : Int32) (o : (Int32 × Int32)), L_X7_ranked_32 x2 x3 x4 σ n x5 x6 = some o → G X 7 97 [(0, .ref (X.ad 132)), (2, .int x2), (3, .int x3), (4, .int x4), (5, .int o.1), (6, .int o.2)] [] σ → G X 7 32 [(0, .ref (X.ad 132)), (2, .int x2), (3, .int x3), (4, .int x4), (5, .int x5), (6, .int x6)] [] σ := by
  intro n
  induction n with
  | zero => intro x5 x6 o h; exact absurd h (by unfold L_X7_ranked_32; intro h; cases h)
  | succ n ih =>
    intro x5 x6 o h hexit
    unfold L_X7_ranked_32 at h
    refine g_iload K 5 dX7_ranked_32 rfl ?_
    refine g_iconst (v := 4) K dX7_ranked_34 ic_4 ?_
    refine g_icmp_ge (tgt := 97) K dX7_ranked_35 (by decide) (fun c1 => ?_) (fun c1 => ?_)
    · replace h := bp c1 h
      refine g_sub [0, 1, 2, 3, 4, 5] rfl ?_
      obtain rfl := Option.some.inj h
      exact hexit
    · replace h := bn c1 h
      refine g_iload K 4 dX7_ranked_38 rfl ?_
      refine g_aload_n K 0 dX7_ranked_40 rfl rfl ?_
      refine g_get (v := .ref (X.ad 147)) K (e_ControlRegisterModel kd_132) ltN_132 rfl 21 (by decide) rfl fw_X7_54 u_X7 dX7_ranked_41 ?_
      refine g_iload K 5 dX7_ranked_44 rfl ?_
      obtain ⟨g2, h⟩ := og h
      refine g_lald K kd_147 ltN_147 g2 dX7_ranked_46 ?_
      refine g_aload_n K 0 dX7_ranked_47 rfl rfl ?_
      refine g_get (v := .ref (X.ad 147)) K (e_ControlRegisterModel kd_132) ltN_132 rfl 21 (by decide) rfl fw_X7_54 u_X7 dX7_ranked_48 ?_
      refine g_iload K 3 dX7_ranked_51 rfl ?_
      obtain ⟨g3, h⟩ := og h
      refine g_lald K kd_147 ltN_147 g3 dX7_ranked_53 ?_
      refine g_lcmp K dX7_ranked_54 ?_
      refine bd_cut h (P := (fun v10 => G X 7 88 [(0, .ref (X.ad 132)), (2, .int x2), (3, .int x3), (4, .int x4), (5, .int x5), (6, .int x6)] [.int v10, .int x5] σ)) (fun v10 h => ?_) (fun tail_9 => ?_)
      · refine g_iadd K dX7_ranked_88 ?_
        refine g_istore (lv' := [(5, .int (x5 + v10)), (0, .ref (X.ad 132)), (2, .int x2), (3, .int x3), (4, .int x4), (6, .int x6)]) K dX7_ranked_89 (by decide) rfl ?_
        refine g_iinc (lv' := [(6, .int (x6 + 1)), (5, .int (x5 + v10)), (0, .ref (X.ad 132)), (2, .int x2), (3, .int x3), (4, .int x4)]) K 5 dX7_ranked_91 rfl (by rw [ic_1]) (by decide) rfl ?_
        refine g_goto (tgt := 32) K dX7_ranked_94 (by decide) ?_
        refine g_sub [2, 3, 4, 5, 1, 0] rfl ?_
        exact ih _ _ _ h hexit
      · refine g_if_gt (tgt := 83) K dX7_ranked_55 (by decide) (fun c11 => ?_) (fun c11 => ?_)
        · replace h := jbp c11 h
          refine g_iconst (v := 1) K dX7_ranked_83 ic_1 ?_
          refine g_goto (tgt := 88) K dX7_ranked_84 (by decide) ?_
          exact tail_9 _ h
        · replace h := jbn c11 h
          refine g_aload_n K 0 dX7_ranked_58 rfl rfl ?_
          refine g_get (v := .ref (X.ad 147)) K (e_ControlRegisterModel kd_132) ltN_132 rfl 21 (by decide) rfl fw_X7_54 u_X7 dX7_ranked_59 ?_
          refine g_iload K 5 dX7_ranked_62 rfl ?_
          obtain ⟨g12, h⟩ := ogb h
          refine g_lald K kd_147 ltN_147 g12 dX7_ranked_64 ?_
          refine g_aload_n K 0 dX7_ranked_65 rfl rfl ?_
          refine g_get (v := .ref (X.ad 147)) K (e_ControlRegisterModel kd_132) ltN_132 rfl 21 (by decide) rfl fw_X7_54 u_X7 dX7_ranked_66 ?_
          refine g_iload K 3 dX7_ranked_69 rfl ?_
          obtain ⟨g13, h⟩ := ogb h
          refine g_lald K kd_147 ltN_147 g13 dX7_ranked_71 ?_
          refine g_lcmp K dX7_ranked_72 ?_
          refine g_if_ne (tgt := 87) K dX7_ranked_73 (by decide) (fun c14 => ?_) (fun c14 => ?_)
          · replace h := jbn c14 h
            refine g_iconst (v := 0) K dX7_ranked_87 ic_0 ?_
            exact tail_9 _ h
          · replace h := jbp c14 h
            refine g_iload K 5 dX7_ranked_76 rfl ?_
            refine g_iload K 3 dX7_ranked_78 rfl ?_
            refine g_icmp_ge (tgt := 87) K dX7_ranked_80 (by decide) (fun c15 => ?_) (fun c15 => ?_)
            · replace h := jbp c15 h
              refine g_iconst (v := 0) K dX7_ranked_87 ic_0 ?_
              exact tail_9 _ h
            · replace h := jbn c15 h
              refine g_iconst (v := 1) K dX7_ranked_83 ic_1 ?_
              refine g_goto (tgt := 88) K dX7_ranked_84 (by decide) ?_
              exact tail_9 _ h
def L_X7_ranked_20 (x2 : Int32) (σ : Sg) : Nat → Int32 → Int32 → Option (Int32 × Int32)
  | 0, _, _ => none
  | n + 1, x3, x4 =>
    if 4 ≤ x4 then
    (some (x3, x4))
    else
    (Option.bind (L_X7_ranked_32 x2 x3 x4 σ FU 0 0) (fun o2 =>
    Option.bind (if o2.1 = x2 then (if inb x4 4 then (if (lg_cmp (σ.2 147 x4.toNatClampNeg) 0) ≤ 0 then (some x3) else (some x4)) else none) else (some x3) : Option Int32) (fun v8 =>
    L_X7_ranked_20 x2 σ n v8 (x4 + 1))))
set_option maxRecDepth 20000 in
set_option maxHeartbeats 4000000 in
theorem l_X7_ranked_20 {X : Ctx} (K : Cok X cX7_ranked 7 RX7) (hR : 5 ≤ X.R.frames ∧ 116 ≤ X.R.locals) {x2 : Int32} {σ : Sg}  :
    ∀ (n : Nat) (x3 : Int32) (x4 : Int32) (o : (Int32 × Int32)), L_X7_ranked_20 x2 σ n x3 x4 = some o → G X 7 128 [(0, .ref (X.ad 132)), (2, .int x2), (3, .int o.1), (4, .int o.2)] [] σ → G X 7 20 [(0, .ref (X.ad 132)), (2, .int x2), (3, .int x3), (4, .int x4)] [] σ := by
  intro n
  induction n with
  | zero => intro x3 x4 o h; exact absurd h (by unfold L_X7_ranked_20; intro h; cases h)
  | succ n ih =>
    intro x3 x4 o h hexit
    unfold L_X7_ranked_20 at h
    refine g_iload K 3 dX7_ranked_20 rfl ?_
    refine g_iconst (v := 4) K dX7_ranked_22 ic_4 ?_
    refine g_icmp_ge (tgt := 128) K dX7_ranked_23 (by decide) (fun c1 => ?_) (fun c1 => ?_)
    · replace h := bp c1 h
      refine g_sub [0, 1, 2, 3] rfl ?_
      obtain rfl := Option.some.inj h
      exact hexit
    · replace h := bn c1 h
      refine g_iconst (v := 0) K dX7_ranked_26 ic_0 ?_
      refine g_istore (lv' := [(5, .int 0), (0, .ref (X.ad 132)), (2, .int x2), (3, .int x3), (4, .int x4)]) K dX7_ranked_27 (by decide) rfl ?_
      refine g_iconst (v := 0) K dX7_ranked_29 ic_0 ?_
      refine g_istore (lv' := [(6, .int 0), (5, .int 0), (0, .ref (X.ad 132)), (2, .int x2), (3, .int x3), (4, .int x4)]) K dX7_ranked_30 (by decide) rfl ?_
      obtain ⟨o2, e3, h⟩ := ob h
      refine g_sub [2, 3, 4, 5, 1, 0] rfl ?_
      refine l_X7_ranked_32 K hR _ _ _ _ e3 ?_
      refine g_iload K 4 dX7_ranked_97 rfl ?_
      refine g_iload_n K 1 dX7_ranked_99 rfl rfl ?_
      refine bd_cut h (P := (fun v8 => G X 7 121 [(0, .ref (X.ad 132)), (2, .int x2), (3, .int x3), (4, .int x4), (5, .int o2.1), (6, .int o2.2)] [.int v8] σ)) (fun v8 h => ?_) (fun tail_7 => ?_)
      · refine g_istore_n (lv' := [(3, .int v8), (0, .ref (X.ad 132)), (2, .int x2), (4, .int x4), (5, .int o2.1), (6, .int o2.2)]) K dX7_ranked_121 rfl (by decide) rfl ?_
        refine g_iinc (lv' := [(4, .int (x4 + 1)), (3, .int v8), (0, .ref (X.ad 132)), (2, .int x2), (5, .int o2.1), (6, .int o2.2)]) K 3 dX7_ranked_122 rfl (by rw [ic_1]) (by decide) rfl ?_
        refine g_goto (tgt := 20) K dX7_ranked_125 (by decide) ?_
        refine g_sub [2, 3, 1, 0] rfl ?_
        exact ih _ _ _ h hexit
      · refine g_icmp_ne (tgt := 120) K dX7_ranked_100 (by decide) (fun c9 => ?_) (fun c9 => ?_)
        · replace h := jbn c9 h
          refine g_iload_n K 2 dX7_ranked_120 rfl rfl ?_
          exact tail_7 _ h
        · replace h := jbp c9 h
          refine g_aload_n K 0 dX7_ranked_103 rfl rfl ?_
          refine g_get (v := .ref (X.ad 147)) K (e_ControlRegisterModel kd_132) ltN_132 rfl 21 (by decide) rfl fw_X7_54 u_X7 dX7_ranked_104 ?_
          refine g_iload K 3 dX7_ranked_107 rfl ?_
          obtain ⟨g10, h⟩ := ogb h
          refine g_lald K kd_147 ltN_147 g10 dX7_ranked_109 ?_
          refine g_lconst (v := 0) K dX7_ranked_110 lc_0 ?_
          refine g_lcmp K dX7_ranked_111 ?_
          refine g_if_le (tgt := 120) K dX7_ranked_112 (by decide) (fun c11 => ?_) (fun c11 => ?_)
          · replace h := jbp c11 h
            refine g_iload_n K 2 dX7_ranked_120 rfl rfl ?_
            exact tail_7 _ h
          · replace h := jbn c11 h
            refine g_iload K 3 dX7_ranked_115 rfl ?_
            refine g_goto (tgt := 121) K dX7_ranked_117 (by decide) ?_
            exact tail_7 _ h
def f_X7_ranked (x1 : Int32) (x2 : Int32) (σ : Sg) : Option (Int32 × Sg) :=
  if (f_X7_isFirm x1) = 0 then
  (some ((-1), σ))
  else
  (Option.bind (f_X7_layUppers x1 σ) (fun q2 =>
  Option.bind (L_X7_ranked_20 x2 q2 FU (-6) 0) (fun o4 =>
  some (o4.1, q2))))
set_option maxRecDepth 20000 in
set_option maxHeartbeats 4000000 in
theorem w_X7_ranked {X : Ctx} (K : Cok X cX7_ranked 7 RX7) (hR : 5 ≤ X.R.frames ∧ 116 ≤ X.R.locals) {x1 : Int32} {x2 : Int32} {σ : Sg}  {r : Int32 × Sg} (h : f_X7_ranked x1 x2 σ = some r) (hr : RI X cX7_ranked 7 r) : G X 7 0 [(0, .ref (X.ad 132)), (1, .int x1), (2, .int x2)] [] σ := by
  unfold f_X7_ranked at h
  refine g_iload_n K 1 dX7_ranked_0 rfl rfl ?_
  refine g_csi (As := [.int x1]) (rest := []) K (m_X7_isFirm x1 σ) yv_X7_isFirm ml_X7_93 rfl rfl rfl ⟨Nat.le_trans (Nat.le_of_ble_eq_true rfl) hR.1, Nat.le_trans (Nat.le_of_ble_eq_true rfl) hR.2⟩ (Nat.le_of_ble_eq_true rfl) dX7_ranked_1 ?_
  refine g_if_ne (tgt := 9) K dX7_ranked_4 (by decide) (fun c1 => ?_) (fun c1 => ?_)
  · replace h := bn c1 h
    refine g_aload_n K 0 dX7_ranked_9 rfl rfl ?_
    refine g_iload_n K 1 dX7_ranked_10 rfl rfl ?_
    obtain ⟨q2, e3, h⟩ := ob h
    refine g_cvv (As := [.int x1]) (rest := []) K (m_X7_layUppers e3) yv_X7_layUppers ml_X7_196 rfl rfl rfl (e_ControlRegisterModel kd_132) ltN_132 rfl rfl ⟨Nat.le_trans (Nat.le_of_ble_eq_true rfl) hR.1, Nat.le_trans (Nat.le_of_ble_eq_true rfl) hR.2⟩ (Nat.le_of_ble_eq_true rfl) dX7_ranked_11 ?_
    refine g_bipush (v := (-6)) K dX7_ranked_14 bp_m6 ?_
    refine g_istore_n (lv' := [(3, .int (-6)), (0, .ref (X.ad 132)), (1, .int x1), (2, .int x2)]) K dX7_ranked_16 rfl (by decide) rfl ?_
    refine g_iconst (v := 0) K dX7_ranked_17 ic_0 ?_
    refine g_istore (lv' := [(4, .int 0), (3, .int (-6)), (0, .ref (X.ad 132)), (1, .int x1), (2, .int x2)]) K dX7_ranked_18 (by decide) rfl ?_
    obtain ⟨o4, e5, h⟩ := ob h
    refine g_sub [2, 4, 1, 0] rfl ?_
    refine l_X7_ranked_20 K hR _ _ _ _ e5 ?_
    refine g_iload_n K 2 dX7_ranked_128 rfl rfl ?_
    exact hr _ _ _ _ dX7_ranked_129 (rt2 h)
  · replace h := bp c1 h
    refine g_iconst (v := (-1)) K dX7_ranked_7 ic_m1 ?_
    exact hr _ _ _ _ dX7_ranked_8 (rt2 h)
theorem m_X7_ranked {x1 : Int32} {x2 : Int32} {σ : Sg}  {r : Int32 × Sg} (h : f_X7_ranked x1 x2 σ = some r) : CI yX7_ranked cX7_ranked 7 (some .int) 5 116 (fun ad => [.ref (ad 132), .int x1, .int x2]) σ r.1 r.2 :=
  CI.of (by decide) (fun _ => Nat.le_of_ble_eq_true rfl) (fun X K hR hr => w_X7_ranked K hR h hr)
def L_X7_owners_25 (x1 : Int32) (x2 : Int64) : Nat → Int32 → Int32 → Sg → Option (Int32 × Int32 × Sg)
  | 0, _, _, _ => none
  | n + 1, x4, x5, σ =>
    if 4 ≤ x5 then
    (some (x4, x5, σ))
    else
    (Option.bind (f_X7_control x5 σ) (fun q2 =>
    Option.bind (if (f_X7_has q2.1 x1) = 0 then (if inb x5 4 then (if inb 2 3 then (if (lg_cmp (100 * (q2.2.2 147 x5.toNatClampNeg)) ((Int32.toInt64 (q2.2.1 139 (2 : Int32).toNatClampNeg)) * x2)) ≤ 0 then (some 0) else (some (1 <<< (x5 &&& 31)))) else none) else none) else (some (1 <<< (x5 &&& 31))) : Option Int32) (fun v9 =>
    L_X7_owners_25 x1 x2 n (x4 ||| v9) (x5 + 1) q2.2)))
set_option maxRecDepth 20000 in
set_option maxHeartbeats 4000000 in
theorem l_X7_owners_25 {X : Ctx} (K : Cok X cX7_owners 6 RX7) (hR : 5 ≤ X.R.frames ∧ 120 ≤ X.R.locals) {x1 : Int32} {x2 : Int64}  :
    ∀ (n : Nat) (x4 : Int32) (x5 : Int32) (σ : Sg) (o : (Int32 × Int32 × Sg)), L_X7_owners_25 x1 x2 n x4 x5 σ = some o → G X 6 87 [(0, .ref (X.ad 132)), (1, .int x1), (2, .long x2), (4, .int o.1), (5, .int o.2.1)] [] o.2.2 → G X 6 25 [(0, .ref (X.ad 132)), (1, .int x1), (2, .long x2), (4, .int x4), (5, .int x5)] [] σ := by
  intro n
  induction n with
  | zero => intro x4 x5 σ o h; exact absurd h (by unfold L_X7_owners_25; intro h; cases h)
  | succ n ih =>
    intro x4 x5 σ o h hexit
    unfold L_X7_owners_25 at h
    refine g_iload K 4 dX7_owners_25 rfl ?_
    refine g_iconst (v := 4) K dX7_owners_27 ic_4 ?_
    refine g_icmp_ge (tgt := 87) K dX7_owners_28 (by decide) (fun c1 => ?_) (fun c1 => ?_)
    · replace h := bp c1 h
      refine g_sub [0, 1, 2, 3, 4] rfl ?_
      obtain rfl := Option.some.inj h
      exact hexit
    · replace h := bn c1 h
      refine g_iload K 3 dX7_owners_31 rfl ?_
      refine g_aload_n K 0 dX7_owners_33 rfl rfl ?_
      refine g_iload K 4 dX7_owners_34 rfl ?_
      obtain ⟨q2, e3, h⟩ := ob h
      refine g_cvi (As := [.int x5]) (rest := [.int x4]) K (m_X7_control e3) yv_X7_control ml_X7_133 rfl rfl rfl (e_ControlRegisterModel kd_132) ltN_132 rfl rfl ⟨Nat.le_trans (Nat.le_of_ble_eq_true rfl) hR.1, Nat.le_trans (Nat.le_of_ble_eq_true rfl) hR.2⟩ (Nat.le_of_ble_eq_true rfl) dX7_owners_36 ?_
      refine g_iload_n K 1 dX7_owners_39 rfl rfl ?_
      refine g_csi (As := [.int q2.1, .int x1]) (rest := [.int x4]) K (m_X7_has q2.1 x1 q2.2) yv_X7_has ml_X7_117 rfl rfl rfl ⟨Nat.le_trans (Nat.le_of_ble_eq_true rfl) hR.1, Nat.le_trans (Nat.le_of_ble_eq_true rfl) hR.2⟩ (Nat.le_of_ble_eq_true rfl) dX7_owners_40 ?_
      refine bd_cut h (P := (fun v9 => G X 6 78 [(0, .ref (X.ad 132)), (1, .int x1), (2, .long x2), (4, .int x4), (5, .int x5)] [.int v9, .int x4] q2.2)) (fun v9 h => ?_) (fun tail_8 => ?_)
      · refine g_ior K dX7_owners_78 ?_
        refine g_istore (lv' := [(4, .int (x4 ||| v9)), (0, .ref (X.ad 132)), (1, .int x1), (2, .long x2), (5, .int x5)]) K dX7_owners_79 (by decide) rfl ?_
        refine g_iinc (lv' := [(5, .int (x5 + 1)), (4, .int (x4 ||| v9)), (0, .ref (X.ad 132)), (1, .int x1), (2, .long x2)]) K 4 dX7_owners_81 rfl (by rw [ic_1]) (by decide) rfl ?_
        refine g_goto (tgt := 25) K dX7_owners_84 (by decide) ?_
        refine g_sub [2, 3, 4, 1, 0] rfl ?_
        exact ih _ _ _ _ h hexit
      · refine g_if_ne (tgt := 70) K dX7_owners_43 (by decide) (fun c10 => ?_) (fun c10 => ?_)
        · replace h := jbn c10 h
          refine g_iconst (v := 1) K dX7_owners_70 ic_1 ?_
          refine g_iload K 4 dX7_owners_71 rfl ?_
          refine g_ishl K dX7_owners_73 ?_
          refine g_goto (tgt := 78) K dX7_owners_74 (by decide) ?_
          exact tail_8 _ h
        · replace h := jbp c10 h
          refine g_ldc2 (v := 100) K cl_X7_172 dX7_owners_46 ?_
          refine g_aload_n K 0 dX7_owners_49 rfl rfl ?_
          refine g_get (v := .ref (X.ad 147)) K (e_ControlRegisterModel kd_132) ltN_132 rfl 21 (by decide) rfl fw_X7_54 u_X7 dX7_owners_50 ?_
          refine g_iload K 4 dX7_owners_53 rfl ?_
          obtain ⟨g11, h⟩ := ogb h
          refine g_lald K kd_147 ltN_147 g11 dX7_owners_55 ?_
          refine g_lmul K dX7_owners_56 ?_
          refine g_aload_n K 0 dX7_owners_57 rfl rfl ?_
          refine g_get (v := .ref (X.ad 139)) K (e_ControlRegisterModel kd_132) ltN_132 rfl 8 (by decide) rfl fw_X7_28 u_X7 dX7_owners_58 ?_
          refine g_iconst (v := 2) K dX7_owners_61 ic_2 ?_
          obtain ⟨g12, h⟩ := ogb h
          refine g_iald K kd_139 ltN_139 g12 dX7_owners_62 ?_
          refine g_i2l K dX7_owners_63 ?_
          refine g_lload_n K 2 dX7_owners_64 rfl rfl ?_
          refine g_lmul K dX7_owners_65 ?_
          refine g_lcmp K dX7_owners_66 ?_
          refine g_if_le (tgt := 77) K dX7_owners_67 (by decide) (fun c13 => ?_) (fun c13 => ?_)
          · replace h := jbp c13 h
            refine g_iconst (v := 0) K dX7_owners_77 ic_0 ?_
            exact tail_8 _ h
          · replace h := jbn c13 h
            refine g_iconst (v := 1) K dX7_owners_70 ic_1 ?_
            refine g_iload K 4 dX7_owners_71 rfl ?_
            refine g_ishl K dX7_owners_73 ?_
            refine g_goto (tgt := 78) K dX7_owners_74 (by decide) ?_
            exact tail_8 _ h
def f_X7_owners (x1 : Int32) (σ : Sg) : Option (Int32 × Sg) :=
  if (f_X7_isFirm x1) = 0 then
  (some ((-1), σ))
  else
  (Option.bind (f_X7_layUppers x1 σ) (fun q2 =>
  Option.bind (f_X7_lower q2) (fun q4 =>
  Option.bind (L_X7_owners_25 x1 q4.1 FU 0 0 q4.2) (fun o6 =>
  some (o6.1, o6.2.2)))))
set_option maxRecDepth 20000 in
set_option maxHeartbeats 4000000 in
theorem w_X7_owners {X : Ctx} (K : Cok X cX7_owners 6 RX7) (hR : 5 ≤ X.R.frames ∧ 120 ≤ X.R.locals) {x1 : Int32} {σ : Sg}  {r : Int32 × Sg} (h : f_X7_owners x1 σ = some r) (hr : RI X cX7_owners 6 r) : G X 6 0 [(0, .ref (X.ad 132)), (1, .int x1)] [] σ := by
  unfold f_X7_owners at h
  refine g_iload_n K 1 dX7_owners_0 rfl rfl ?_
  refine g_csi (As := [.int x1]) (rest := []) K (m_X7_isFirm x1 σ) yv_X7_isFirm ml_X7_93 rfl rfl rfl ⟨Nat.le_trans (Nat.le_of_ble_eq_true rfl) hR.1, Nat.le_trans (Nat.le_of_ble_eq_true rfl) hR.2⟩ (Nat.le_of_ble_eq_true rfl) dX7_owners_1 ?_
  refine g_if_ne (tgt := 9) K dX7_owners_4 (by decide) (fun c1 => ?_) (fun c1 => ?_)
  · replace h := bn c1 h
    refine g_aload_n K 0 dX7_owners_9 rfl rfl ?_
    refine g_iload_n K 1 dX7_owners_10 rfl rfl ?_
    obtain ⟨q2, e3, h⟩ := ob h
    refine g_cvv (As := [.int x1]) (rest := []) K (m_X7_layUppers e3) yv_X7_layUppers ml_X7_196 rfl rfl rfl (e_ControlRegisterModel kd_132) ltN_132 rfl rfl ⟨Nat.le_trans (Nat.le_of_ble_eq_true rfl) hR.1, Nat.le_trans (Nat.le_of_ble_eq_true rfl) hR.2⟩ (Nat.le_of_ble_eq_true rfl) dX7_owners_11 ?_
    refine g_aload_n K 0 dX7_owners_14 rfl rfl ?_
    obtain ⟨q4, e5, h⟩ := ob h
    refine g_cvl (As := []) (rest := []) K (m_X7_lower e5) yv_X7_lower ml_X7_189 rfl rfl rfl (e_ControlRegisterModel kd_132) ltN_132 rfl rfl ⟨Nat.le_trans (Nat.le_of_ble_eq_true rfl) hR.1, Nat.le_trans (Nat.le_of_ble_eq_true rfl) hR.2⟩ (Nat.le_of_ble_eq_true rfl) dX7_owners_15 ?_
    refine g_lstore_n (lv' := [(2, .long q4.1), (0, .ref (X.ad 132)), (1, .int x1)]) K dX7_owners_18 rfl (by decide) rfl ?_
    refine g_iconst (v := 0) K dX7_owners_19 ic_0 ?_
    refine g_istore (lv' := [(4, .int 0), (2, .long q4.1), (0, .ref (X.ad 132)), (1, .int x1)]) K dX7_owners_20 (by decide) rfl ?_
    refine g_iconst (v := 0) K dX7_owners_22 ic_0 ?_
    refine g_istore (lv' := [(5, .int 0), (4, .int 0), (2, .long q4.1), (0, .ref (X.ad 132)), (1, .int x1)]) K dX7_owners_23 (by decide) rfl ?_
    obtain ⟨o6, e7, h⟩ := ob h
    refine g_sub [3, 4, 2, 1, 0] rfl ?_
    refine l_X7_owners_25 K hR _ _ _ _ _ e7 ?_
    refine g_iload K 3 dX7_owners_87 rfl ?_
    exact hr _ _ _ _ dX7_owners_89 (rt2 h)
  · replace h := bp c1 h
    refine g_iconst (v := (-1)) K dX7_owners_7 ic_m1 ?_
    exact hr _ _ _ _ dX7_owners_8 (rt2 h)
theorem m_X7_owners {x1 : Int32} {σ : Sg}  {r : Int32 × Sg} (h : f_X7_owners x1 σ = some r) : CI yX7_owners cX7_owners 6 (some .int) 5 120 (fun ad => [.ref (ad 132), .int x1]) σ r.1 r.2 :=
  CI.of (by decide) (fun _ => Nat.le_of_ble_eq_true rfl) (fun X K hR hr => w_X7_owners K hR h hr)
def L_X7_circle_22 (x1 : Int32) : Nat → Int32 → Sg → Option (Int32 × Sg)
  | 0, _, _ => none
  | n + 1, x2, σ =>
    if 5 ≤ x2 then
    (some (x2, σ))
    else
    (if inb x2 5 then
    (jn (setR σ 148 (upd (σ.1 148) x2.toNatClampNeg 0)) (fun σ3 =>
    L_X7_circle_22 x1 n (x2 + 1) σ3))
    else none)
set_option maxRecDepth 20000 in
set_option maxHeartbeats 4000000 in
theorem l_X7_circle_22 {X : Ctx} (K : Cok X cX7_circle 5 RX7) (hR : 3 ≤ X.R.frames ∧ 68 ≤ X.R.locals) {x1 : Int32}  :
    ∀ (n : Nat) (x2 : Int32) (σ : Sg) (o : (Int32 × Sg)), L_X7_circle_22 x1 n x2 σ = some o → G X 5 40 [(0, .ref (X.ad 132)), (1, .int x1), (2, .int o.1)] [] o.2 → G X 5 22 [(0, .ref (X.ad 132)), (1, .int x1), (2, .int x2)] [] σ := by
  intro n
  induction n with
  | zero => intro x2 σ o h; exact absurd h (by unfold L_X7_circle_22; intro h; cases h)
  | succ n ih =>
    intro x2 σ o h hexit
    unfold L_X7_circle_22 at h
    refine g_iload_n K 2 dX7_circle_22 rfl rfl ?_
    refine g_iconst (v := 5) K dX7_circle_23 ic_5 ?_
    refine g_icmp_ge (tgt := 40) K dX7_circle_24 (by decide) (fun c1 => ?_) (fun c1 => ?_)
    · replace h := bp c1 h
      refine g_sub [0, 1, 2] rfl ?_
      obtain rfl := Option.some.inj h
      exact hexit
    · replace h := bn c1 h
      refine g_aload_n K 0 dX7_circle_27 rfl rfl ?_
      refine g_get (v := .ref (X.ad 148)) K (e_ControlRegisterModel kd_132) ltN_132 rfl 22 (by decide) rfl fw_X7_57 u_X7 dX7_circle_28 ?_
      refine g_iload_n K 2 dX7_circle_31 rfl rfl ?_
      refine g_iconst (v := 0) K dX7_circle_32 ic_0 ?_
      obtain ⟨g2, h⟩ := og h
      refine g_iast K kd_148 ltN_148 g2 dX7_circle_33 (fun σ3 s4 => ?_)
      replace h := jn_at s4 h
      refine g_iinc (lv' := [(2, .int (x2 + 1)), (0, .ref (X.ad 132)), (1, .int x1)]) K 2 dX7_circle_34 rfl (by rw [ic_1]) (by decide) rfl ?_
      refine g_goto (tgt := 22) K dX7_circle_37 (by decide) ?_
      refine g_sub [1, 2, 0] rfl ?_
      exact ih _ _ _ h hexit
def L_X7_circle_57 (x1 : Int32) (x2 : Int32) (x3 : Int32) : Nat → Int32 → Sg → Option (Int32 × Sg)
  | 0, _, _ => none
  | n + 1, x4, σ =>
    if 5 ≤ x4 then
    (some (x4, σ))
    else
    (if inb x3 5 then
    (if inb (f_X7_at (4 + x3) x4) 50 then
    (Option.bind (if (σ.1 141 (f_X7_at (4 + x3) x4).toNatClampNeg) ≤ 0 then (some 0) else (if inb x4 5 then (some ((1 <<< (x4 &&& 31)) ||| (σ.1 148 x4.toNatClampNeg))) else none) : Option Int32) (fun v7 =>
    if inb x3 5 then
    (jn (setR σ 148 (upd (σ.1 148) x3.toNatClampNeg ((σ.1 148 x3.toNatClampNeg) ||| v7))) (fun σ11 =>
    L_X7_circle_57 x1 x2 x3 n (x4 + 1) σ11))
    else none))
    else none)
    else none)
set_option maxRecDepth 20000 in
set_option maxHeartbeats 4000000 in
theorem l_X7_circle_57 {X : Ctx} (K : Cok X cX7_circle 5 RX7) (hR : 3 ≤ X.R.frames ∧ 68 ≤ X.R.locals) {x1 : Int32} {x2 : Int32} {x3 : Int32}  :
    ∀ (n : Nat) (x4 : Int32) (σ : Sg) (o : (Int32 × Sg)), L_X7_circle_57 x1 x2 x3 n x4 σ = some o → G X 5 110 [(0, .ref (X.ad 132)), (1, .int x1), (2, .int x2), (3, .int x3), (4, .int o.1)] [] o.2 → G X 5 57 [(0, .ref (X.ad 132)), (1, .int x1), (2, .int x2), (3, .int x3), (4, .int x4)] [] σ := by
  intro n
  induction n with
  | zero => intro x4 σ o h; exact absurd h (by unfold L_X7_circle_57; intro h; cases h)
  | succ n ih =>
    intro x4 σ o h hexit
    unfold L_X7_circle_57 at h
    refine g_iload K 4 dX7_circle_57 rfl ?_
    refine g_iconst (v := 5) K dX7_circle_59 ic_5 ?_
    refine g_icmp_ge (tgt := 110) K dX7_circle_60 (by decide) (fun c1 => ?_) (fun c1 => ?_)
    · replace h := bp c1 h
      refine g_sub [0, 1, 2, 3, 4] rfl ?_
      obtain rfl := Option.some.inj h
      exact hexit
    · replace h := bn c1 h
      refine g_aload_n K 0 dX7_circle_63 rfl rfl ?_
      refine g_get (v := .ref (X.ad 148)) K (e_ControlRegisterModel kd_132) ltN_132 rfl 22 (by decide) rfl fw_X7_57 u_X7 dX7_circle_64 ?_
      refine g_iload_n K 3 dX7_circle_67 rfl rfl ?_
      refine g_dup2 K dX7_circle_68 rfl rfl ?_
      obtain ⟨g2, h⟩ := og h
      refine g_iald K kd_148 ltN_148 g2 dX7_circle_69 ?_
      refine g_aload_n K 0 dX7_circle_70 rfl rfl ?_
      refine g_get (v := .ref (X.ad 141)) K (e_ControlRegisterModel kd_132) ltN_132 rfl 10 (by decide) rfl fw_X7_34 u_X7 dX7_circle_71 ?_
      refine g_iconst (v := 4) K dX7_circle_74 ic_4 ?_
      refine g_iload_n K 3 dX7_circle_75 rfl rfl ?_
      refine g_iadd K dX7_circle_76 ?_
      refine g_iload K 4 dX7_circle_77 rfl ?_
      refine g_csi (As := [.int (4 + x3), .int x4]) (rest := [.ref (X.ad 141), .int (σ.1 148 x3.toNatClampNeg), .int x3, .ref (X.ad 148)]) K (m_X7_at (4 + x3) x4 σ) yv_X7_at ml_X7_78 rfl rfl rfl ⟨Nat.le_trans (Nat.le_of_ble_eq_true rfl) hR.1, Nat.le_trans (Nat.le_of_ble_eq_true rfl) hR.2⟩ (Nat.le_of_ble_eq_true rfl) dX7_circle_79 ?_
      obtain ⟨g3, h⟩ := og h
      refine g_iald K kd_141 ltN_141 g3 dX7_circle_82 ?_
      refine bd_cut h (P := (fun v7 => G X 5 102 [(0, .ref (X.ad 132)), (1, .int x1), (2, .int x2), (3, .int x3), (4, .int x4)] [.int v7, .int (σ.1 148 x3.toNatClampNeg), .int x3, .ref (X.ad 148)] σ)) (fun v7 h => ?_) (fun tail_6 => ?_)
      · refine g_ior K dX7_circle_102 ?_
        obtain ⟨g10, h⟩ := og h
        refine g_iast K kd_148 ltN_148 g10 dX7_circle_103 (fun σ11 s12 => ?_)
        replace h := jn_at s12 h
        refine g_iinc (lv' := [(4, .int (x4 + 1)), (0, .ref (X.ad 132)), (1, .int x1), (2, .int x2), (3, .int x3)]) K 4 dX7_circle_104 rfl (by rw [ic_1]) (by decide) rfl ?_
        refine g_goto (tgt := 57) K dX7_circle_107 (by decide) ?_
        refine g_sub [1, 2, 3, 4, 0] rfl ?_
        exact ih _ _ _ h hexit
      · refine g_if_le (tgt := 101) K dX7_circle_83 (by decide) (fun c8 => ?_) (fun c8 => ?_)
        · replace h := jbp c8 h
          refine g_iconst (v := 0) K dX7_circle_101 ic_0 ?_
          exact tail_6 _ h
        · replace h := jbn c8 h
          refine g_iconst (v := 1) K dX7_circle_86 ic_1 ?_
          refine g_iload K 4 dX7_circle_87 rfl ?_
          refine g_ishl K dX7_circle_89 ?_
          refine g_aload_n K 0 dX7_circle_90 rfl rfl ?_
          refine g_get (v := .ref (X.ad 148)) K (e_ControlRegisterModel kd_132) ltN_132 rfl 22 (by decide) rfl fw_X7_57 u_X7 dX7_circle_91 ?_
          refine g_iload K 4 dX7_circle_94 rfl ?_
          obtain ⟨g9, h⟩ := ogb h
          refine g_iald K kd_148 ltN_148 g9 dX7_circle_96 ?_
          refine g_ior K dX7_circle_97 ?_
          refine g_goto (tgt := 102) K dX7_circle_98 (by decide) ?_
          exact tail_6 _ h
def L_X7_circle_49 (x1 : Int32) (x2 : Int32) : Nat → Int32 → Sg → Option (Int32 × Sg)
  | 0, _, _ => none
  | n + 1, x3, σ =>
    if 5 ≤ x3 then
    (some (x3, σ))
    else
    (Option.bind (L_X7_circle_57 x1 x2 x3 FU 0 σ) (fun o2 =>
    L_X7_circle_49 x1 x2 n (x3 + 1) o2.2))
set_option maxRecDepth 20000 in
set_option maxHeartbeats 4000000 in
theorem l_X7_circle_49 {X : Ctx} (K : Cok X cX7_circle 5 RX7) (hR : 3 ≤ X.R.frames ∧ 68 ≤ X.R.locals) {x1 : Int32} {x2 : Int32}  :
    ∀ (n : Nat) (x3 : Int32) (σ : Sg) (o : (Int32 × Sg)), L_X7_circle_49 x1 x2 n x3 σ = some o → G X 5 116 [(0, .ref (X.ad 132)), (1, .int x1), (2, .int x2), (3, .int o.1)] [] o.2 → G X 5 49 [(0, .ref (X.ad 132)), (1, .int x1), (2, .int x2), (3, .int x3)] [] σ := by
  intro n
  induction n with
  | zero => intro x3 σ o h; exact absurd h (by unfold L_X7_circle_49; intro h; cases h)
  | succ n ih =>
    intro x3 σ o h hexit
    unfold L_X7_circle_49 at h
    refine g_iload_n K 3 dX7_circle_49 rfl rfl ?_
    refine g_iconst (v := 5) K dX7_circle_50 ic_5 ?_
    refine g_icmp_ge (tgt := 116) K dX7_circle_51 (by decide) (fun c1 => ?_) (fun c1 => ?_)
    · replace h := bp c1 h
      refine g_sub [0, 1, 2, 3] rfl ?_
      obtain rfl := Option.some.inj h
      exact hexit
    · replace h := bn c1 h
      refine g_iconst (v := 0) K dX7_circle_54 ic_0 ?_
      refine g_istore (lv' := [(4, .int 0), (0, .ref (X.ad 132)), (1, .int x1), (2, .int x2), (3, .int x3)]) K dX7_circle_55 (by decide) rfl ?_
      obtain ⟨o2, e3, h⟩ := ob h
      refine g_sub [1, 2, 3, 4, 0] rfl ?_
      refine l_X7_circle_57 K hR _ _ _ _ e3 ?_
      refine g_iinc (lv' := [(3, .int (x3 + 1)), (0, .ref (X.ad 132)), (1, .int x1), (2, .int x2), (4, .int o2.1)]) K 3 dX7_circle_110 rfl (by rw [ic_1]) (by decide) rfl ?_
      refine g_goto (tgt := 49) K dX7_circle_113 (by decide) ?_
      refine g_sub [1, 2, 3, 0] rfl ?_
      exact ih _ _ _ h hexit
def L_X7_circle_42 (x1 : Int32) : Nat → Int32 → Sg → Option (Int32 × Sg)
  | 0, _, _ => none
  | n + 1, x2, σ =>
    if 5 ≤ x2 then
    (some (x2, σ))
    else
    (Option.bind (L_X7_circle_49 x1 x2 FU 0 σ) (fun o2 =>
    L_X7_circle_42 x1 n (x2 + 1) o2.2))
set_option maxRecDepth 20000 in
set_option maxHeartbeats 4000000 in
theorem l_X7_circle_42 {X : Ctx} (K : Cok X cX7_circle 5 RX7) (hR : 3 ≤ X.R.frames ∧ 68 ≤ X.R.locals) {x1 : Int32}  :
    ∀ (n : Nat) (x2 : Int32) (σ : Sg) (o : (Int32 × Sg)), L_X7_circle_42 x1 n x2 σ = some o → G X 5 122 [(0, .ref (X.ad 132)), (1, .int x1), (2, .int o.1)] [] o.2 → G X 5 42 [(0, .ref (X.ad 132)), (1, .int x1), (2, .int x2)] [] σ := by
  intro n
  induction n with
  | zero => intro x2 σ o h; exact absurd h (by unfold L_X7_circle_42; intro h; cases h)
  | succ n ih =>
    intro x2 σ o h hexit
    unfold L_X7_circle_42 at h
    refine g_iload_n K 2 dX7_circle_42 rfl rfl ?_
    refine g_iconst (v := 5) K dX7_circle_43 ic_5 ?_
    refine g_icmp_ge (tgt := 122) K dX7_circle_44 (by decide) (fun c1 => ?_) (fun c1 => ?_)
    · replace h := bp c1 h
      refine g_sub [0, 1, 2] rfl ?_
      obtain rfl := Option.some.inj h
      exact hexit
    · replace h := bn c1 h
      refine g_iconst (v := 0) K dX7_circle_47 ic_0 ?_
      refine g_istore_n (lv' := [(3, .int 0), (0, .ref (X.ad 132)), (1, .int x1), (2, .int x2)]) K dX7_circle_48 rfl (by decide) rfl ?_
      obtain ⟨o2, e3, h⟩ := ob h
      refine g_sub [1, 2, 3, 0] rfl ?_
      refine l_X7_circle_49 K hR _ _ _ _ e3 ?_
      refine g_iinc (lv' := [(2, .int (x2 + 1)), (0, .ref (X.ad 132)), (1, .int x1), (3, .int o2.1)]) K 2 dX7_circle_116 rfl (by rw [ic_1]) (by decide) rfl ?_
      refine g_goto (tgt := 42) K dX7_circle_119 (by decide) ?_
      refine g_sub [1, 2, 0] rfl ?_
      exact ih _ _ _ h hexit
def L_X7_circle_126 (x1 : Int32) (σ : Sg) : Nat → Int32 → Int32 → Option (Int32 × Int32)
  | 0, _, _ => none
  | n + 1, x2, x3 =>
    if 5 ≤ x3 then
    (some (x2, x3))
    else
    (if inb x1 5 then
    (Option.bind (if (f_X7_has (σ.1 148 x1.toNatClampNeg) x3) = 0 then (some 0) else (if inb x3 5 then (if (f_X7_has (σ.1 148 x3.toNatClampNeg) x1) = 0 then (some 0) else (some (1 <<< (x3 &&& 31)))) else none) : Option Int32) (fun v7 =>
    L_X7_circle_126 x1 σ n (x2 ||| v7) (x3 + 1)))
    else none)
set_option maxRecDepth 20000 in
set_option maxHeartbeats 4000000 in
theorem l_X7_circle_126 {X : Ctx} (K : Cok X cX7_circle 5 RX7) (hR : 3 ≤ X.R.frames ∧ 68 ≤ X.R.locals) {x1 : Int32} {σ : Sg}  :
    ∀ (n : Nat) (x2 : Int32) (x3 : Int32) (o : (Int32 × Int32)), L_X7_circle_126 x1 σ n x2 x3 = some o → G X 5 173 [(0, .ref (X.ad 132)), (1, .int x1), (2, .int o.1), (3, .int o.2)] [] σ → G X 5 126 [(0, .ref (X.ad 132)), (1, .int x1), (2, .int x2), (3, .int x3)] [] σ := by
  intro n
  induction n with
  | zero => intro x2 x3 o h; exact absurd h (by unfold L_X7_circle_126; intro h; cases h)
  | succ n ih =>
    intro x2 x3 o h hexit
    unfold L_X7_circle_126 at h
    refine g_iload_n K 3 dX7_circle_126 rfl rfl ?_
    refine g_iconst (v := 5) K dX7_circle_127 ic_5 ?_
    refine g_icmp_ge (tgt := 173) K dX7_circle_128 (by decide) (fun c1 => ?_) (fun c1 => ?_)
    · replace h := bp c1 h
      refine g_sub [0, 1, 2, 3] rfl ?_
      obtain rfl := Option.some.inj h
      exact hexit
    · replace h := bn c1 h
      refine g_iload_n K 2 dX7_circle_131 rfl rfl ?_
      refine g_aload_n K 0 dX7_circle_132 rfl rfl ?_
      refine g_get (v := .ref (X.ad 148)) K (e_ControlRegisterModel kd_132) ltN_132 rfl 22 (by decide) rfl fw_X7_57 u_X7 dX7_circle_133 ?_
      refine g_iload_n K 1 dX7_circle_136 rfl rfl ?_
      obtain ⟨g2, h⟩ := og h
      refine g_iald K kd_148 ltN_148 g2 dX7_circle_137 ?_
      refine g_iload_n K 3 dX7_circle_138 rfl rfl ?_
      refine g_csi (As := [.int (σ.1 148 x1.toNatClampNeg), .int x3]) (rest := [.int x2]) K (m_X7_has (σ.1 148 x1.toNatClampNeg) x3 σ) yv_X7_has ml_X7_117 rfl rfl rfl ⟨Nat.le_trans (Nat.le_of_ble_eq_true rfl) hR.1, Nat.le_trans (Nat.le_of_ble_eq_true rfl) hR.2⟩ (Nat.le_of_ble_eq_true rfl) dX7_circle_139 ?_
      refine bd_cut h (P := (fun v7 => G X 5 165 [(0, .ref (X.ad 132)), (1, .int x1), (2, .int x2), (3, .int x3)] [.int v7, .int x2] σ)) (fun v7 h => ?_) (fun tail_6 => ?_)
      · refine g_ior K dX7_circle_165 ?_
        refine g_istore_n (lv' := [(2, .int (x2 ||| v7)), (0, .ref (X.ad 132)), (1, .int x1), (3, .int x3)]) K dX7_circle_166 rfl (by decide) rfl ?_
        refine g_iinc (lv' := [(3, .int (x3 + 1)), (2, .int (x2 ||| v7)), (0, .ref (X.ad 132)), (1, .int x1)]) K 3 dX7_circle_167 rfl (by rw [ic_1]) (by decide) rfl ?_
        refine g_goto (tgt := 126) K dX7_circle_170 (by decide) ?_
        refine g_sub [2, 3, 1, 0] rfl ?_
        exact ih _ _ _ h hexit
      · refine g_if_eq (tgt := 164) K dX7_circle_142 (by decide) (fun c8 => ?_) (fun c8 => ?_)
        · replace h := jbp c8 h
          refine g_iconst (v := 0) K dX7_circle_164 ic_0 ?_
          exact tail_6 _ h
        · replace h := jbn c8 h
          refine g_aload_n K 0 dX7_circle_145 rfl rfl ?_
          refine g_get (v := .ref (X.ad 148)) K (e_ControlRegisterModel kd_132) ltN_132 rfl 22 (by decide) rfl fw_X7_57 u_X7 dX7_circle_146 ?_
          refine g_iload_n K 3 dX7_circle_149 rfl rfl ?_
          obtain ⟨g9, h⟩ := ogb h
          refine g_iald K kd_148 ltN_148 g9 dX7_circle_150 ?_
          refine g_iload_n K 1 dX7_circle_151 rfl rfl ?_
          refine g_csi (As := [.int (σ.1 148 x3.toNatClampNeg), .int x1]) (rest := [.int x2]) K (m_X7_has (σ.1 148 x3.toNatClampNeg) x1 σ) yv_X7_has ml_X7_117 rfl rfl rfl ⟨Nat.le_trans (Nat.le_of_ble_eq_true rfl) hR.1, Nat.le_trans (Nat.le_of_ble_eq_true rfl) hR.2⟩ (Nat.le_of_ble_eq_true rfl) dX7_circle_152 ?_
          refine g_if_eq (tgt := 164) K dX7_circle_155 (by decide) (fun c10 => ?_) (fun c10 => ?_)
          · replace h := jbp c10 h
            refine g_iconst (v := 0) K dX7_circle_164 ic_0 ?_
            exact tail_6 _ h
          · replace h := jbn c10 h
            refine g_iconst (v := 1) K dX7_circle_158 ic_1 ?_
            refine g_iload_n K 3 dX7_circle_159 rfl rfl ?_
            refine g_ishl K dX7_circle_160 ?_
            refine g_goto (tgt := 165) K dX7_circle_161 (by decide) ?_
            exact tail_6 _ h
def f_X7_circle (x1 : Int32) (σ : Sg) : Option (Int32 × Sg) :=
  if (f_X7_isFirm x1) = 0 then
  (some ((-1), σ))
  else
  (Option.bind (f_X7_lay (σ.1 132 7) (-6) σ) (fun q2 =>
  Option.bind (L_X7_circle_22 x1 FU 0 q2.2) (fun o4 =>
  Option.bind (L_X7_circle_42 x1 FU 0 o4.2) (fun o6 =>
  Option.bind (L_X7_circle_126 x1 o6.2 FU 0 0) (fun o8 =>
  some (o8.1, o6.2))))))
set_option maxRecDepth 20000 in
set_option maxHeartbeats 4000000 in
theorem w_X7_circle {X : Ctx} (K : Cok X cX7_circle 5 RX7) (hR : 3 ≤ X.R.frames ∧ 68 ≤ X.R.locals) {x1 : Int32} {σ : Sg}  {r : Int32 × Sg} (h : f_X7_circle x1 σ = some r) (hr : RI X cX7_circle 5 r) : G X 5 0 [(0, .ref (X.ad 132)), (1, .int x1)] [] σ := by
  unfold f_X7_circle at h
  refine g_iload_n K 1 dX7_circle_0 rfl rfl ?_
  refine g_csi (As := [.int x1]) (rest := []) K (m_X7_isFirm x1 σ) yv_X7_isFirm ml_X7_93 rfl rfl rfl ⟨Nat.le_trans (Nat.le_of_ble_eq_true rfl) hR.1, Nat.le_trans (Nat.le_of_ble_eq_true rfl) hR.2⟩ (Nat.le_of_ble_eq_true rfl) dX7_circle_1 ?_
  refine g_if_ne (tgt := 9) K dX7_circle_4 (by decide) (fun c1 => ?_) (fun c1 => ?_)
  · replace h := bn c1 h
    refine g_aload_n K 0 dX7_circle_9 rfl rfl ?_
    refine g_aload_n K 0 dX7_circle_10 rfl rfl ?_
    refine g_get (v := .int (σ.1 132 7)) K (e_ControlRegisterModel kd_132) ltN_132 rfl 7 (by decide) rfl fw_X7_114 u_X7 dX7_circle_11 ?_
    refine g_bipush (v := (-6)) K dX7_circle_14 bp_m6 ?_
    obtain ⟨q2, e3, h⟩ := ob h
    refine g_cvi (As := [.int (σ.1 132 7), .int (-6)]) (rest := []) K (m_X7_lay e3) yv_X7_lay ml_X7_89 rfl rfl rfl (e_ControlRegisterModel kd_132) ltN_132 rfl rfl ⟨Nat.le_trans (Nat.le_of_ble_eq_true rfl) hR.1, Nat.le_trans (Nat.le_of_ble_eq_true rfl) hR.2⟩ (Nat.le_of_ble_eq_true rfl) dX7_circle_16 ?_
    refine g_pop K dX7_circle_19 rfl ?_
    refine g_iconst (v := 0) K dX7_circle_20 ic_0 ?_
    refine g_istore_n (lv' := [(2, .int 0), (0, .ref (X.ad 132)), (1, .int x1)]) K dX7_circle_21 rfl (by decide) rfl ?_
    obtain ⟨o4, e5, h⟩ := ob h
    refine g_sub [1, 2, 0] rfl ?_
    refine l_X7_circle_22 K hR _ _ _ _ e5 ?_
    refine g_iconst (v := 0) K dX7_circle_40 ic_0 ?_
    refine g_istore_n (lv' := [(2, .int 0), (0, .ref (X.ad 132)), (1, .int x1)]) K dX7_circle_41 rfl (by decide) rfl ?_
    obtain ⟨o6, e7, h⟩ := ob h
    refine g_sub [1, 2, 0] rfl ?_
    refine l_X7_circle_42 K hR _ _ _ _ e7 ?_
    refine g_iconst (v := 0) K dX7_circle_122 ic_0 ?_
    refine g_istore_n (lv' := [(2, .int 0), (0, .ref (X.ad 132)), (1, .int x1)]) K dX7_circle_123 rfl (by decide) rfl ?_
    refine g_iconst (v := 0) K dX7_circle_124 ic_0 ?_
    refine g_istore_n (lv' := [(3, .int 0), (2, .int 0), (0, .ref (X.ad 132)), (1, .int x1)]) K dX7_circle_125 rfl (by decide) rfl ?_
    obtain ⟨o8, e9, h⟩ := ob h
    refine g_sub [2, 3, 1, 0] rfl ?_
    refine l_X7_circle_126 K hR _ _ _ _ e9 ?_
    refine g_iload_n K 2 dX7_circle_173 rfl rfl ?_
    exact hr _ _ _ _ dX7_circle_174 (rt2 h)
  · replace h := bp c1 h
    refine g_iconst (v := (-1)) K dX7_circle_7 ic_m1 ?_
    exact hr _ _ _ _ dX7_circle_8 (rt2 h)
theorem m_X7_circle {x1 : Int32} {σ : Sg}  {r : Int32 × Sg} (h : f_X7_circle x1 σ = some r) : CI yX7_circle cX7_circle 5 (some .int) 3 68 (fun ad => [.ref (ad 132), .int x1]) σ r.1 r.2 :=
  CI.of (by decide) (fun _ => Nat.le_of_ble_eq_true rfl) (fun X K hR hr => w_X7_circle K hR h hr)
def L_X7_image_20 (x1 : Int32) (x2 : Int32) : Nat → Int32 → Sg → Option (Int32 × Sg)
  | 0, _, _ => none
  | n + 1, x3, σ =>
    if (σ.1 132 6) ≤ x3 then
    (some (x3, σ))
    else
    (if inb x3 41 then
    (if inb (x2 + (6 * x3)) 490 then
    (jn (setR σ 149 (upd (σ.1 149) (x2 + (6 * x3)).toNatClampNeg (σ.1 133 x3.toNatClampNeg))) (fun σ4 =>
    if inb x3 41 then
    (if inb ((x2 + (6 * x3)) + 1) 490 then
    (jn (setR σ4 149 (upd (σ4.1 149) ((x2 + (6 * x3)) + 1).toNatClampNeg (σ4.1 134 x3.toNatClampNeg))) (fun σ8 =>
    if inb x3 41 then
    (if inb ((x2 + (6 * x3)) + 2) 490 then
    (jn (setR σ8 149 (upd (σ8.1 149) ((x2 + (6 * x3)) + 2).toNatClampNeg (σ8.1 135 x3.toNatClampNeg))) (fun σ12 =>
    if inb x3 41 then
    (if inb ((x2 + (6 * x3)) + 3) 490 then
    (jn (setR σ12 149 (upd (σ12.1 149) ((x2 + (6 * x3)) + 3).toNatClampNeg (σ12.1 136 x3.toNatClampNeg))) (fun σ16 =>
    if inb x3 41 then
    (if inb ((x2 + (6 * x3)) + 4) 490 then
    (jn (setR σ16 149 (upd (σ16.1 149) ((x2 + (6 * x3)) + 4).toNatClampNeg (σ16.1 137 x3.toNatClampNeg))) (fun σ20 =>
    if inb x3 41 then
    (if inb ((x2 + (6 * x3)) + 5) 490 then
    (jn (setR σ20 149 (upd (σ20.1 149) ((x2 + (6 * x3)) + 5).toNatClampNeg (σ20.1 138 x3.toNatClampNeg))) (fun σ24 =>
    L_X7_image_20 x1 x2 n (x3 + 1) σ24))
    else none)
    else none))
    else none)
    else none))
    else none)
    else none))
    else none)
    else none))
    else none)
    else none))
    else none)
    else none)
set_option maxRecDepth 20000 in
set_option maxHeartbeats 4000000 in
theorem l_X7_image_20 {X : Ctx} (K : Cok X cX7_image 4 RX7) (hR : 1 ≤ X.R.frames ∧ 22 ≤ X.R.locals) {x1 : Int32} {x2 : Int32}  :
    ∀ (n : Nat) (x3 : Int32) (σ : Sg) (o : (Int32 × Sg)), L_X7_image_20 x1 x2 n x3 σ = some o → G X 4 146 [(0, .ref (X.ad 132)), (1, .int x1), (2, .int x2), (3, .int o.1)] [] o.2 → G X 4 20 [(0, .ref (X.ad 132)), (1, .int x1), (2, .int x2), (3, .int x3)] [] σ := by
  intro n
  induction n with
  | zero => intro x3 σ o h; exact absurd h (by unfold L_X7_image_20; intro h; cases h)
  | succ n ih =>
    intro x3 σ o h hexit
    unfold L_X7_image_20 at h
    refine g_iload_n K 3 dX7_image_20 rfl rfl ?_
    refine g_aload_n K 0 dX7_image_21 rfl rfl ?_
    refine g_get (v := .int (σ.1 132 6)) K (e_ControlRegisterModel kd_132) ltN_132 rfl 6 (by decide) rfl fw_X7_70 u_X7 dX7_image_22 ?_
    refine g_icmp_ge (tgt := 146) K dX7_image_25 (by decide) (fun c1 => ?_) (fun c1 => ?_)
    · replace h := bp c1 h
      refine g_sub [0, 1, 2, 3] rfl ?_
      obtain rfl := Option.some.inj h
      exact hexit
    · replace h := bn c1 h
      refine g_aload_n K 0 dX7_image_28 rfl rfl ?_
      refine g_get (v := .ref (X.ad 149)) K (e_ControlRegisterModel kd_132) ltN_132 rfl 23 (by decide) rfl fw_X7_60 u_X7 dX7_image_29 ?_
      refine g_iload_n K 2 dX7_image_32 rfl rfl ?_
      refine g_bipush (v := 6) K dX7_image_33 bp_6 ?_
      refine g_iload_n K 3 dX7_image_35 rfl rfl ?_
      refine g_imul K dX7_image_36 ?_
      refine g_iadd K dX7_image_37 ?_
      refine g_aload_n K 0 dX7_image_38 rfl rfl ?_
      refine g_get (v := .ref (X.ad 133)) K (e_ControlRegisterModel kd_132) ltN_132 rfl 0 (by decide) rfl fw_X7_7 u_X7 dX7_image_39 ?_
      refine g_iload_n K 3 dX7_image_42 rfl rfl ?_
      obtain ⟨g2, h⟩ := og h
      refine g_iald K kd_133 ltN_133 g2 dX7_image_43 ?_
      obtain ⟨g3, h⟩ := og h
      refine g_iast K kd_149 ltN_149 g3 dX7_image_44 (fun σ4 s5 => ?_)
      replace h := jn_at s5 h
      refine g_aload_n K 0 dX7_image_45 rfl rfl ?_
      refine g_get (v := .ref (X.ad 149)) K (e_ControlRegisterModel kd_132) ltN_132 rfl 23 (by decide) rfl fw_X7_60 u_X7 dX7_image_46 ?_
      refine g_iload_n K 2 dX7_image_49 rfl rfl ?_
      refine g_bipush (v := 6) K dX7_image_50 bp_6 ?_
      refine g_iload_n K 3 dX7_image_52 rfl rfl ?_
      refine g_imul K dX7_image_53 ?_
      refine g_iadd K dX7_image_54 ?_
      refine g_iconst (v := 1) K dX7_image_55 ic_1 ?_
      refine g_iadd K dX7_image_56 ?_
      refine g_aload_n K 0 dX7_image_57 rfl rfl ?_
      refine g_get (v := .ref (X.ad 134)) K (e_ControlRegisterModel kd_132) ltN_132 rfl 1 (by decide) rfl fw_X7_13 u_X7 dX7_image_58 ?_
      refine g_iload_n K 3 dX7_image_61 rfl rfl ?_
      obtain ⟨g6, h⟩ := og h
      refine g_iald K kd_134 ltN_134 g6 dX7_image_62 ?_
      obtain ⟨g7, h⟩ := og h
      refine g_iast K kd_149 ltN_149 g7 dX7_image_63 (fun σ8 s9 => ?_)
      replace h := jn_at s9 h
      refine g_aload_n K 0 dX7_image_64 rfl rfl ?_
      refine g_get (v := .ref (X.ad 149)) K (e_ControlRegisterModel kd_132) ltN_132 rfl 23 (by decide) rfl fw_X7_60 u_X7 dX7_image_65 ?_
      refine g_iload_n K 2 dX7_image_68 rfl rfl ?_
      refine g_bipush (v := 6) K dX7_image_69 bp_6 ?_
      refine g_iload_n K 3 dX7_image_71 rfl rfl ?_
      refine g_imul K dX7_image_72 ?_
      refine g_iadd K dX7_image_73 ?_
      refine g_iconst (v := 2) K dX7_image_74 ic_2 ?_
      refine g_iadd K dX7_image_75 ?_
      refine g_aload_n K 0 dX7_image_76 rfl rfl ?_
      refine g_get (v := .ref (X.ad 135)) K (e_ControlRegisterModel kd_132) ltN_132 rfl 2 (by decide) rfl fw_X7_16 u_X7 dX7_image_77 ?_
      refine g_iload_n K 3 dX7_image_80 rfl rfl ?_
      obtain ⟨g10, h⟩ := og h
      refine g_iald K kd_135 ltN_135 g10 dX7_image_81 ?_
      obtain ⟨g11, h⟩ := og h
      refine g_iast K kd_149 ltN_149 g11 dX7_image_82 (fun σ12 s13 => ?_)
      replace h := jn_at s13 h
      refine g_aload_n K 0 dX7_image_83 rfl rfl ?_
      refine g_get (v := .ref (X.ad 149)) K (e_ControlRegisterModel kd_132) ltN_132 rfl 23 (by decide) rfl fw_X7_60 u_X7 dX7_image_84 ?_
      refine g_iload_n K 2 dX7_image_87 rfl rfl ?_
      refine g_bipush (v := 6) K dX7_image_88 bp_6 ?_
      refine g_iload_n K 3 dX7_image_90 rfl rfl ?_
      refine g_imul K dX7_image_91 ?_
      refine g_iadd K dX7_image_92 ?_
      refine g_iconst (v := 3) K dX7_image_93 ic_3 ?_
      refine g_iadd K dX7_image_94 ?_
      refine g_aload_n K 0 dX7_image_95 rfl rfl ?_
      refine g_get (v := .ref (X.ad 136)) K (e_ControlRegisterModel kd_132) ltN_132 rfl 3 (by decide) rfl fw_X7_19 u_X7 dX7_image_96 ?_
      refine g_iload_n K 3 dX7_image_99 rfl rfl ?_
      obtain ⟨g14, h⟩ := og h
      refine g_iald K kd_136 ltN_136 g14 dX7_image_100 ?_
      obtain ⟨g15, h⟩ := og h
      refine g_iast K kd_149 ltN_149 g15 dX7_image_101 (fun σ16 s17 => ?_)
      replace h := jn_at s17 h
      refine g_aload_n K 0 dX7_image_102 rfl rfl ?_
      refine g_get (v := .ref (X.ad 149)) K (e_ControlRegisterModel kd_132) ltN_132 rfl 23 (by decide) rfl fw_X7_60 u_X7 dX7_image_103 ?_
      refine g_iload_n K 2 dX7_image_106 rfl rfl ?_
      refine g_bipush (v := 6) K dX7_image_107 bp_6 ?_
      refine g_iload_n K 3 dX7_image_109 rfl rfl ?_
      refine g_imul K dX7_image_110 ?_
      refine g_iadd K dX7_image_111 ?_
      refine g_iconst (v := 4) K dX7_image_112 ic_4 ?_
      refine g_iadd K dX7_image_113 ?_
      refine g_aload_n K 0 dX7_image_114 rfl rfl ?_
      refine g_get (v := .ref (X.ad 137)) K (e_ControlRegisterModel kd_132) ltN_132 rfl 4 (by decide) rfl fw_X7_22 u_X7 dX7_image_115 ?_
      refine g_iload_n K 3 dX7_image_118 rfl rfl ?_
      obtain ⟨g18, h⟩ := og h
      refine g_iald K kd_137 ltN_137 g18 dX7_image_119 ?_
      obtain ⟨g19, h⟩ := og h
      refine g_iast K kd_149 ltN_149 g19 dX7_image_120 (fun σ20 s21 => ?_)
      replace h := jn_at s21 h
      refine g_aload_n K 0 dX7_image_121 rfl rfl ?_
      refine g_get (v := .ref (X.ad 149)) K (e_ControlRegisterModel kd_132) ltN_132 rfl 23 (by decide) rfl fw_X7_60 u_X7 dX7_image_122 ?_
      refine g_iload_n K 2 dX7_image_125 rfl rfl ?_
      refine g_bipush (v := 6) K dX7_image_126 bp_6 ?_
      refine g_iload_n K 3 dX7_image_128 rfl rfl ?_
      refine g_imul K dX7_image_129 ?_
      refine g_iadd K dX7_image_130 ?_
      refine g_iconst (v := 5) K dX7_image_131 ic_5 ?_
      refine g_iadd K dX7_image_132 ?_
      refine g_aload_n K 0 dX7_image_133 rfl rfl ?_
      refine g_get (v := .ref (X.ad 138)) K (e_ControlRegisterModel kd_132) ltN_132 rfl 5 (by decide) rfl fw_X7_25 u_X7 dX7_image_134 ?_
      refine g_iload_n K 3 dX7_image_137 rfl rfl ?_
      obtain ⟨g22, h⟩ := og h
      refine g_iald K kd_138 ltN_138 g22 dX7_image_138 ?_
      obtain ⟨g23, h⟩ := og h
      refine g_iast K kd_149 ltN_149 g23 dX7_image_139 (fun σ24 s25 => ?_)
      replace h := jn_at s25 h
      refine g_iinc (lv' := [(3, .int (x3 + 1)), (0, .ref (X.ad 132)), (1, .int x1), (2, .int x2)]) K 3 dX7_image_140 rfl (by rw [ic_1]) (by decide) rfl ?_
      refine g_goto (tgt := 20) K dX7_image_143 (by decide) ?_
      refine g_sub [1, 2, 3, 0] rfl ?_
      exact ih _ _ _ h hexit
def L_X7_image_176 (x1 : Int32) (x2 : Int32) : Nat → Int32 → Sg → Option (Int32 × Sg)
  | 0, _, _ => none
  | n + 1, x3, σ =>
    if 3 ≤ x3 then
    (some (x3, σ))
    else
    (if inb x3 3 then
    (if inb ((x2 + 242) + x3) 490 then
    (jn (setR σ 149 (upd (σ.1 149) ((x2 + 242) + x3).toNatClampNeg (σ.1 139 x3.toNatClampNeg))) (fun σ4 =>
    L_X7_image_176 x1 x2 n (x3 + 1) σ4))
    else none)
    else none)
set_option maxRecDepth 20000 in
set_option maxHeartbeats 4000000 in
theorem l_X7_image_176 {X : Ctx} (K : Cok X cX7_image 4 RX7) (hR : 1 ≤ X.R.frames ∧ 22 ≤ X.R.locals) {x1 : Int32} {x2 : Int32}  :
    ∀ (n : Nat) (x3 : Int32) (σ : Sg) (o : (Int32 × Sg)), L_X7_image_176 x1 x2 n x3 σ = some o → G X 4 205 [(0, .ref (X.ad 132)), (1, .int x1), (2, .int x2), (3, .int o.1)] [] o.2 → G X 4 176 [(0, .ref (X.ad 132)), (1, .int x1), (2, .int x2), (3, .int x3)] [] σ := by
  intro n
  induction n with
  | zero => intro x3 σ o h; exact absurd h (by unfold L_X7_image_176; intro h; cases h)
  | succ n ih =>
    intro x3 σ o h hexit
    unfold L_X7_image_176 at h
    refine g_iload_n K 3 dX7_image_176 rfl rfl ?_
    refine g_iconst (v := 3) K dX7_image_177 ic_3 ?_
    refine g_icmp_ge (tgt := 205) K dX7_image_178 (by decide) (fun c1 => ?_) (fun c1 => ?_)
    · replace h := bp c1 h
      refine g_sub [0, 1, 2, 3] rfl ?_
      obtain rfl := Option.some.inj h
      exact hexit
    · replace h := bn c1 h
      refine g_aload_n K 0 dX7_image_181 rfl rfl ?_
      refine g_get (v := .ref (X.ad 149)) K (e_ControlRegisterModel kd_132) ltN_132 rfl 23 (by decide) rfl fw_X7_60 u_X7 dX7_image_182 ?_
      refine g_iload_n K 2 dX7_image_185 rfl rfl ?_
      refine g_sipush (v := 242) K dX7_image_186 sp_242 ?_
      refine g_iadd K dX7_image_189 ?_
      refine g_iload_n K 3 dX7_image_190 rfl rfl ?_
      refine g_iadd K dX7_image_191 ?_
      refine g_aload_n K 0 dX7_image_192 rfl rfl ?_
      refine g_get (v := .ref (X.ad 139)) K (e_ControlRegisterModel kd_132) ltN_132 rfl 8 (by decide) rfl fw_X7_28 u_X7 dX7_image_193 ?_
      refine g_iload_n K 3 dX7_image_196 rfl rfl ?_
      obtain ⟨g2, h⟩ := og h
      refine g_iald K kd_139 ltN_139 g2 dX7_image_197 ?_
      obtain ⟨g3, h⟩ := og h
      refine g_iast K kd_149 ltN_149 g3 dX7_image_198 (fun σ4 s5 => ?_)
      replace h := jn_at s5 h
      refine g_iinc (lv' := [(3, .int (x3 + 1)), (0, .ref (X.ad 132)), (1, .int x1), (2, .int x2)]) K 3 dX7_image_199 rfl (by rw [ic_1]) (by decide) rfl ?_
      refine g_goto (tgt := 176) K dX7_image_202 (by decide) ?_
      refine g_sub [1, 2, 3, 0] rfl ?_
      exact ih _ _ _ h hexit
def f_X7_image (x1 : Int32) (σ : Sg) : Option (Int32 × Sg) :=
  if (f_X7_in x1 0 1) = 0 then
  (some ((-2), σ))
  else
  (Option.bind (L_X7_image_20 x1 (245 * x1) FU 0 σ) (fun o2 =>
  if inb ((245 * x1) + 240) 490 then
  (jn (setR o2.2 149 (upd (o2.2.1 149) ((245 * x1) + 240).toNatClampNeg (o2.2.1 132 6))) (fun σ5 =>
  if inb ((245 * x1) + 241) 490 then
  (jn (setR σ5 149 (upd (σ5.1 149) ((245 * x1) + 241).toNatClampNeg (σ5.1 132 7))) (fun σ8 =>
  Option.bind (L_X7_image_176 x1 (245 * x1) FU 0 σ8) (fun o10 =>
  if inb x1 2 then
  (jn (setR o10.2 150 (upd (o10.2.1 150) x1.toNatClampNeg (vp_nar .boolean 1))) (fun σ13 =>
  some (1, σ13)))
  else none)))
  else none))
  else none))
set_option maxRecDepth 20000 in
set_option maxHeartbeats 4000000 in
theorem w_X7_image {X : Ctx} (K : Cok X cX7_image 4 RX7) (hR : 1 ≤ X.R.frames ∧ 22 ≤ X.R.locals) {x1 : Int32} {σ : Sg}  {r : Int32 × Sg} (h : f_X7_image x1 σ = some r) (hr : RI X cX7_image 4 r) : G X 4 0 [(0, .ref (X.ad 132)), (1, .int x1)] [] σ := by
  unfold f_X7_image at h
  refine g_iload_n K 1 dX7_image_0 rfl rfl ?_
  refine g_iconst (v := 0) K dX7_image_1 ic_0 ?_
  refine g_iconst (v := 1) K dX7_image_2 ic_1 ?_
  refine g_csi (As := [.int x1, .int 0, .int 1]) (rest := []) K (m_X7_in x1 0 1 σ) yv_X7_in ml_X7_66 rfl rfl rfl ⟨Nat.le_trans (Nat.le_of_ble_eq_true rfl) hR.1, Nat.le_trans (Nat.le_of_ble_eq_true rfl) hR.2⟩ (Nat.le_of_ble_eq_true rfl) dX7_image_3 ?_
  refine g_if_ne (tgt := 12) K dX7_image_6 (by decide) (fun c1 => ?_) (fun c1 => ?_)
  · replace h := bn c1 h
    refine g_sipush (v := 245) K dX7_image_12 sp_245 ?_
    refine g_iload_n K 1 dX7_image_15 rfl rfl ?_
    refine g_imul K dX7_image_16 ?_
    refine g_istore_n (lv' := [(2, .int (245 * x1)), (0, .ref (X.ad 132)), (1, .int x1)]) K dX7_image_17 rfl (by decide) rfl ?_
    refine g_iconst (v := 0) K dX7_image_18 ic_0 ?_
    refine g_istore_n (lv' := [(3, .int 0), (2, .int (245 * x1)), (0, .ref (X.ad 132)), (1, .int x1)]) K dX7_image_19 rfl (by decide) rfl ?_
    obtain ⟨o2, e3, h⟩ := ob h
    refine g_sub [2, 3, 1, 0] rfl ?_
    refine l_X7_image_20 K hR _ _ _ _ e3 ?_
    refine g_aload_n K 0 dX7_image_146 rfl rfl ?_
    refine g_get (v := .ref (X.ad 149)) K (e_ControlRegisterModel kd_132) ltN_132 rfl 23 (by decide) rfl fw_X7_60 u_X7 dX7_image_147 ?_
    refine g_iload_n K 2 dX7_image_150 rfl rfl ?_
    refine g_sipush (v := 240) K dX7_image_151 sp_240 ?_
    refine g_iadd K dX7_image_154 ?_
    refine g_aload_n K 0 dX7_image_155 rfl rfl ?_
    refine g_get (v := .int (o2.2.1 132 6)) K (e_ControlRegisterModel kd_132) ltN_132 rfl 6 (by decide) rfl fw_X7_70 u_X7 dX7_image_156 ?_
    obtain ⟨g4, h⟩ := og h
    refine g_iast K kd_149 ltN_149 g4 dX7_image_159 (fun σ5 s6 => ?_)
    replace h := jn_at s6 h
    refine g_aload_n K 0 dX7_image_160 rfl rfl ?_
    refine g_get (v := .ref (X.ad 149)) K (e_ControlRegisterModel kd_132) ltN_132 rfl 23 (by decide) rfl fw_X7_60 u_X7 dX7_image_161 ?_
    refine g_iload_n K 2 dX7_image_164 rfl rfl ?_
    refine g_sipush (v := 241) K dX7_image_165 sp_241 ?_
    refine g_iadd K dX7_image_168 ?_
    refine g_aload_n K 0 dX7_image_169 rfl rfl ?_
    refine g_get (v := .int (σ5.1 132 7)) K (e_ControlRegisterModel kd_132) ltN_132 rfl 7 (by decide) rfl fw_X7_114 u_X7 dX7_image_170 ?_
    obtain ⟨g7, h⟩ := og h
    refine g_iast K kd_149 ltN_149 g7 dX7_image_173 (fun σ8 s9 => ?_)
    replace h := jn_at s9 h
    refine g_iconst (v := 0) K dX7_image_174 ic_0 ?_
    refine g_istore_n (lv' := [(3, .int 0), (0, .ref (X.ad 132)), (1, .int x1), (2, .int (245 * x1))]) K dX7_image_175 rfl (by decide) rfl ?_
    obtain ⟨o10, e11, h⟩ := ob h
    refine g_sub [1, 2, 3, 0] rfl ?_
    refine l_X7_image_176 K hR _ _ _ _ e11 ?_
    refine g_aload_n K 0 dX7_image_205 rfl rfl ?_
    refine g_get (v := .ref (X.ad 150)) K (e_ControlRegisterModel kd_132) ltN_132 rfl 24 (by decide) rfl fw_X7_63 u_X7 dX7_image_206 ?_
    refine g_iload_n K 1 dX7_image_209 rfl rfl ?_
    refine g_iconst (v := 1) K dX7_image_210 ic_1 ?_
    obtain ⟨g12, h⟩ := og h
    refine g_zast K kd_150 ltN_150 g12 dX7_image_211 (fun σ13 s14 => ?_)
    replace h := jn_at s14 h
    refine g_iconst (v := 1) K dX7_image_212 ic_1 ?_
    exact hr _ _ _ _ dX7_image_213 (rt2 h)
  · replace h := bp c1 h
    refine g_bipush (v := (-2)) K dX7_image_9 bp_m2 ?_
    exact hr _ _ _ _ dX7_image_11 (rt2 h)
theorem m_X7_image {x1 : Int32} {σ : Sg}  {r : Int32 × Sg} (h : f_X7_image x1 σ = some r) : CI yX7_image cX7_image 4 (some .int) 1 22 (fun ad => [.ref (ad 132), .int x1]) σ r.1 r.2 :=
  CI.of (by decide) (fun _ => Nat.le_of_ble_eq_true rfl) (fun X K hR hr => w_X7_image K hR h hr)
def L_X7_restore_60 (x2 : Int32) : Nat → Int32 → Sg → Option (Int32 × Sg)
  | 0, _, _ => none
  | n + 1, x3, σ =>
    if (σ.1 132 6) ≤ x3 then
    (some (x3, σ))
    else
    (if inb (x2 + (6 * x3)) 490 then
    (if inb ((x2 + (6 * x3)) + 1) 490 then
    (if inb ((x2 + (6 * x3)) + 2) 490 then
    (if inb ((x2 + (6 * x3)) + 3) 490 then
    (if inb ((x2 + (6 * x3)) + 4) 490 then
    (if inb ((x2 + (6 * x3)) + 5) 490 then
    (Option.bind (f_X7_put x3 (σ.1 149 (x2 + (6 * x3)).toNatClampNeg) (σ.1 149 ((x2 + (6 * x3)) + 1).toNatClampNeg) (σ.1 149 ((x2 + (6 * x3)) + 2).toNatClampNeg) (σ.1 149 ((x2 + (6 * x3)) + 3).toNatClampNeg) (σ.1 149 ((x2 + (6 * x3)) + 4).toNatClampNeg) (σ.1 149 ((x2 + (6 * x3)) + 5).toNatClampNeg) σ) (fun q8 =>
    L_X7_restore_60 x2 n (x3 + 1) q8))
    else none)
    else none)
    else none)
    else none)
    else none)
    else none)
set_option maxRecDepth 20000 in
set_option maxHeartbeats 4000000 in
theorem l_X7_restore_60 {X : Ctx} (K : Cok X cX7_restore 5 RX7) (hR : 1 ≤ X.R.frames ∧ 27 ≤ X.R.locals) {x2 : Int32}  :
    ∀ (n : Nat) (x3 : Int32) (σ : Sg) (o : (Int32 × Sg)), L_X7_restore_60 x2 n x3 σ = some o → G X 5 139 [(0, .ref (X.ad 132)), (2, .int x2), (3, .int o.1)] [] o.2 → G X 5 60 [(0, .ref (X.ad 132)), (2, .int x2), (3, .int x3)] [] σ := by
  intro n
  induction n with
  | zero => intro x3 σ o h; exact absurd h (by unfold L_X7_restore_60; intro h; cases h)
  | succ n ih =>
    intro x3 σ o h hexit
    unfold L_X7_restore_60 at h
    refine g_iload_n K 2 dX7_restore_60 rfl rfl ?_
    refine g_aload_n K 0 dX7_restore_61 rfl rfl ?_
    refine g_get (v := .int (σ.1 132 6)) K (e_ControlRegisterModel kd_132) ltN_132 rfl 6 (by decide) rfl fw_X7_70 u_X7 dX7_restore_62 ?_
    refine g_icmp_ge (tgt := 139) K dX7_restore_65 (by decide) (fun c1 => ?_) (fun c1 => ?_)
    · replace h := bp c1 h
      refine g_sub [0, 1, 2] rfl ?_
      obtain rfl := Option.some.inj h
      exact hexit
    · replace h := bn c1 h
      refine g_iload_n K 1 dX7_restore_68 rfl rfl ?_
      refine g_bipush (v := 6) K dX7_restore_69 bp_6 ?_
      refine g_iload_n K 2 dX7_restore_71 rfl rfl ?_
      refine g_imul K dX7_restore_72 ?_
      refine g_iadd K dX7_restore_73 ?_
      refine g_istore (lv' := [(4, .int (x2 + (6 * x3))), (0, .ref (X.ad 132)), (2, .int x2), (3, .int x3)]) K dX7_restore_74 (by decide) rfl ?_
      refine g_aload_n K 1 dX7_restore_76 rfl rfl ?_
      refine g_iload_n K 3 dX7_restore_77 rfl rfl ?_
      refine g_aload_n K 1 dX7_restore_78 rfl rfl ?_
      refine g_get (v := .ref (X.ad 149)) K (e_ControlRegisterModel kd_132) ltN_132 rfl 23 (by decide) rfl fw_X7_60 u_X7 dX7_restore_79 ?_
      refine g_iload K 0 dX7_restore_82 rfl ?_
      obtain ⟨g2, h⟩ := og h
      refine g_iald K kd_149 ltN_149 g2 dX7_restore_84 ?_
      refine g_aload_n K 1 dX7_restore_85 rfl rfl ?_
      refine g_get (v := .ref (X.ad 149)) K (e_ControlRegisterModel kd_132) ltN_132 rfl 23 (by decide) rfl fw_X7_60 u_X7 dX7_restore_86 ?_
      refine g_iload K 0 dX7_restore_89 rfl ?_
      refine g_iconst (v := 1) K dX7_restore_91 ic_1 ?_
      refine g_iadd K dX7_restore_92 ?_
      obtain ⟨g3, h⟩ := og h
      refine g_iald K kd_149 ltN_149 g3 dX7_restore_93 ?_
      refine g_aload_n K 1 dX7_restore_94 rfl rfl ?_
      refine g_get (v := .ref (X.ad 149)) K (e_ControlRegisterModel kd_132) ltN_132 rfl 23 (by decide) rfl fw_X7_60 u_X7 dX7_restore_95 ?_
      refine g_iload K 0 dX7_restore_98 rfl ?_
      refine g_iconst (v := 2) K dX7_restore_100 ic_2 ?_
      refine g_iadd K dX7_restore_101 ?_
      obtain ⟨g4, h⟩ := og h
      refine g_iald K kd_149 ltN_149 g4 dX7_restore_102 ?_
      refine g_aload_n K 1 dX7_restore_103 rfl rfl ?_
      refine g_get (v := .ref (X.ad 149)) K (e_ControlRegisterModel kd_132) ltN_132 rfl 23 (by decide) rfl fw_X7_60 u_X7 dX7_restore_104 ?_
      refine g_iload K 0 dX7_restore_107 rfl ?_
      refine g_iconst (v := 3) K dX7_restore_109 ic_3 ?_
      refine g_iadd K dX7_restore_110 ?_
      obtain ⟨g5, h⟩ := og h
      refine g_iald K kd_149 ltN_149 g5 dX7_restore_111 ?_
      refine g_aload_n K 1 dX7_restore_112 rfl rfl ?_
      refine g_get (v := .ref (X.ad 149)) K (e_ControlRegisterModel kd_132) ltN_132 rfl 23 (by decide) rfl fw_X7_60 u_X7 dX7_restore_113 ?_
      refine g_iload K 0 dX7_restore_116 rfl ?_
      refine g_iconst (v := 4) K dX7_restore_118 ic_4 ?_
      refine g_iadd K dX7_restore_119 ?_
      obtain ⟨g6, h⟩ := og h
      refine g_iald K kd_149 ltN_149 g6 dX7_restore_120 ?_
      refine g_aload_n K 1 dX7_restore_121 rfl rfl ?_
      refine g_get (v := .ref (X.ad 149)) K (e_ControlRegisterModel kd_132) ltN_132 rfl 23 (by decide) rfl fw_X7_60 u_X7 dX7_restore_122 ?_
      refine g_iload K 0 dX7_restore_125 rfl ?_
      refine g_iconst (v := 5) K dX7_restore_127 ic_5 ?_
      refine g_iadd K dX7_restore_128 ?_
      obtain ⟨g7, h⟩ := og h
      refine g_iald K kd_149 ltN_149 g7 dX7_restore_129 ?_
      obtain ⟨q8, e9, h⟩ := ob h
      refine g_cvv (As := [.int x3, .int (σ.1 149 (x2 + (6 * x3)).toNatClampNeg), .int (σ.1 149 ((x2 + (6 * x3)) + 1).toNatClampNeg), .int (σ.1 149 ((x2 + (6 * x3)) + 2).toNatClampNeg), .int (σ.1 149 ((x2 + (6 * x3)) + 3).toNatClampNeg), .int (σ.1 149 ((x2 + (6 * x3)) + 4).toNatClampNeg), .int (σ.1 149 ((x2 + (6 * x3)) + 5).toNatClampNeg)]) (rest := []) K (m_X7_put e9) yv_X7_put ml_X7_96 rfl rfl rfl (e_ControlRegisterModel kd_132) ltN_132 rfl rfl ⟨Nat.le_trans (Nat.le_of_ble_eq_true rfl) hR.1, Nat.le_trans (Nat.le_of_ble_eq_true rfl) hR.2⟩ (Nat.le_of_ble_eq_true rfl) dX7_restore_130 ?_
      refine g_iinc (lv' := [(3, .int (x3 + 1)), (4, .int (x2 + (6 * x3))), (0, .ref (X.ad 132)), (2, .int x2)]) K 3 dX7_restore_133 rfl (by rw [ic_1]) (by decide) rfl ?_
      refine g_goto (tgt := 60) K dX7_restore_136 (by decide) ?_
      refine g_sub [2, 3, 0] rfl ?_
      exact ih _ _ _ h hexit
def L_X7_restore_141 (x2 : Int32) : Nat → Int32 → Sg → Option (Int32 × Sg)
  | 0, _, _ => none
  | n + 1, x3, σ =>
    if 3 ≤ x3 then
    (some (x3, σ))
    else
    (if inb ((x2 + 242) + x3) 490 then
    (if inb x3 3 then
    (jn (setR σ 139 (upd (σ.1 139) x3.toNatClampNeg (σ.1 149 ((x2 + 242) + x3).toNatClampNeg))) (fun σ4 =>
    L_X7_restore_141 x2 n (x3 + 1) σ4))
    else none)
    else none)
set_option maxRecDepth 20000 in
set_option maxHeartbeats 4000000 in
theorem l_X7_restore_141 {X : Ctx} (K : Cok X cX7_restore 5 RX7) (hR : 1 ≤ X.R.frames ∧ 27 ≤ X.R.locals) {x2 : Int32}  :
    ∀ (n : Nat) (x3 : Int32) (σ : Sg) (o : (Int32 × Sg)), L_X7_restore_141 x2 n x3 σ = some o → G X 5 170 [(0, .ref (X.ad 132)), (2, .int x2), (3, .int o.1)] [] o.2 → G X 5 141 [(0, .ref (X.ad 132)), (2, .int x2), (3, .int x3)] [] σ := by
  intro n
  induction n with
  | zero => intro x3 σ o h; exact absurd h (by unfold L_X7_restore_141; intro h; cases h)
  | succ n ih =>
    intro x3 σ o h hexit
    unfold L_X7_restore_141 at h
    refine g_iload_n K 2 dX7_restore_141 rfl rfl ?_
    refine g_iconst (v := 3) K dX7_restore_142 ic_3 ?_
    refine g_icmp_ge (tgt := 170) K dX7_restore_143 (by decide) (fun c1 => ?_) (fun c1 => ?_)
    · replace h := bp c1 h
      refine g_sub [0, 1, 2] rfl ?_
      obtain rfl := Option.some.inj h
      exact hexit
    · replace h := bn c1 h
      refine g_aload_n K 0 dX7_restore_146 rfl rfl ?_
      refine g_get (v := .ref (X.ad 139)) K (e_ControlRegisterModel kd_132) ltN_132 rfl 8 (by decide) rfl fw_X7_28 u_X7 dX7_restore_147 ?_
      refine g_iload_n K 2 dX7_restore_150 rfl rfl ?_
      refine g_aload_n K 0 dX7_restore_151 rfl rfl ?_
      refine g_get (v := .ref (X.ad 149)) K (e_ControlRegisterModel kd_132) ltN_132 rfl 23 (by decide) rfl fw_X7_60 u_X7 dX7_restore_152 ?_
      refine g_iload_n K 1 dX7_restore_155 rfl rfl ?_
      refine g_sipush (v := 242) K dX7_restore_156 sp_242 ?_
      refine g_iadd K dX7_restore_159 ?_
      refine g_iload_n K 2 dX7_restore_160 rfl rfl ?_
      refine g_iadd K dX7_restore_161 ?_
      obtain ⟨g2, h⟩ := og h
      refine g_iald K kd_149 ltN_149 g2 dX7_restore_162 ?_
      obtain ⟨g3, h⟩ := og h
      refine g_iast K kd_139 ltN_139 g3 dX7_restore_163 (fun σ4 s5 => ?_)
      replace h := jn_at s5 h
      refine g_iinc (lv' := [(3, .int (x3 + 1)), (0, .ref (X.ad 132)), (2, .int x2)]) K 2 dX7_restore_164 rfl (by rw [ic_1]) (by decide) rfl ?_
      refine g_goto (tgt := 141) K dX7_restore_167 (by decide) ?_
      refine g_sub [1, 2, 0] rfl ?_
      exact ih _ _ _ h hexit
def f_X7_restore (x1 : Int32) (σ : Sg) : Option (Int32 × Sg) :=
  if (f_X7_in x1 0 1) = 0 then
  (some ((-2), σ))
  else
  (if inb x1 2 then
  (if (σ.1 150 x1.toNatClampNeg) = 0 then
  (some ((-3), σ))
  else
  (if inb ((245 * x1) + 240) 490 then
  (jn (setR σ 132 (upd (σ.1 132) 6 (σ.1 149 ((245 * x1) + 240).toNatClampNeg))) (fun σ5 =>
  if inb ((245 * x1) + 241) 490 then
  (jn (setR σ5 132 (upd (σ5.1 132) 7 (σ5.1 149 ((245 * x1) + 241).toNatClampNeg))) (fun σ8 =>
  Option.bind (L_X7_restore_60 (245 * x1) FU 0 σ8) (fun o10 =>
  Option.bind (L_X7_restore_141 (245 * x1) FU 0 o10.2) (fun o12 =>
  some (1, o12.2)))))
  else none))
  else none))
  else none)
set_option maxRecDepth 20000 in
set_option maxHeartbeats 4000000 in
theorem w_X7_restore {X : Ctx} (K : Cok X cX7_restore 5 RX7) (hR : 1 ≤ X.R.frames ∧ 27 ≤ X.R.locals) {x1 : Int32} {σ : Sg}  {r : Int32 × Sg} (h : f_X7_restore x1 σ = some r) (hr : RI X cX7_restore 5 r) : G X 5 0 [(0, .ref (X.ad 132)), (1, .int x1)] [] σ := by
  unfold f_X7_restore at h
  refine g_iload_n K 1 dX7_restore_0 rfl rfl ?_
  refine g_iconst (v := 0) K dX7_restore_1 ic_0 ?_
  refine g_iconst (v := 1) K dX7_restore_2 ic_1 ?_
  refine g_csi (As := [.int x1, .int 0, .int 1]) (rest := []) K (m_X7_in x1 0 1 σ) yv_X7_in ml_X7_66 rfl rfl rfl ⟨Nat.le_trans (Nat.le_of_ble_eq_true rfl) hR.1, Nat.le_trans (Nat.le_of_ble_eq_true rfl) hR.2⟩ (Nat.le_of_ble_eq_true rfl) dX7_restore_3 ?_
  refine g_if_ne (tgt := 12) K dX7_restore_6 (by decide) (fun c1 => ?_) (fun c1 => ?_)
  · replace h := bn c1 h
    refine g_aload_n K 0 dX7_restore_12 rfl rfl ?_
    refine g_get (v := .ref (X.ad 150)) K (e_ControlRegisterModel kd_132) ltN_132 rfl 24 (by decide) rfl fw_X7_63 u_X7 dX7_restore_13 ?_
    refine g_iload_n K 1 dX7_restore_16 rfl rfl ?_
    obtain ⟨g2, h⟩ := og h
    refine g_zald K kd_150 ltN_150 g2 dX7_restore_17 ?_
    refine g_if_ne (tgt := 24) K dX7_restore_18 (by decide) (fun c3 => ?_) (fun c3 => ?_)
    · replace h := bn c3 h
      refine g_sipush (v := 245) K dX7_restore_24 sp_245 ?_
      refine g_iload_n K 1 dX7_restore_27 rfl rfl ?_
      refine g_imul K dX7_restore_28 ?_
      refine g_istore_n (lv' := [(2, .int (245 * x1)), (0, .ref (X.ad 132)), (1, .int x1)]) K dX7_restore_29 rfl (by decide) rfl ?_
      refine g_aload_n K 1 dX7_restore_30 rfl rfl ?_
      refine g_aload_n K 1 dX7_restore_31 rfl rfl ?_
      refine g_get (v := .ref (X.ad 149)) K (e_ControlRegisterModel kd_132) ltN_132 rfl 23 (by decide) rfl fw_X7_60 u_X7 dX7_restore_32 ?_
      refine g_iload_n K 0 dX7_restore_35 rfl rfl ?_
      refine g_sipush (v := 240) K dX7_restore_36 sp_240 ?_
      refine g_iadd K dX7_restore_39 ?_
      obtain ⟨g4, h⟩ := og h
      refine g_iald K kd_149 ltN_149 g4 dX7_restore_40 ?_
      refine g_put (f' := (upd (σ.1 132) 6 (σ.1 149 ((245 * x1) + 240).toNatClampNeg))) K (e_ControlRegisterModel kd_132) ltN_132 rfl 6 (by decide) (e_ControlRegisterModel kd_132) tyX7 tyX7_ok nmX7 rfl (ty := .int) (by decide +kernel) rfl rfl (Nat.le_of_ble_eq_true rfl) fw_X7_70 u_X7 dX7_restore_41 (fun σ5 s6 => ?_)
      replace h := jn_at s6 h
      refine g_aload_n K 1 dX7_restore_44 rfl rfl ?_
      refine g_aload_n K 1 dX7_restore_45 rfl rfl ?_
      refine g_get (v := .ref (X.ad 149)) K (e_ControlRegisterModel kd_132) ltN_132 rfl 23 (by decide) rfl fw_X7_60 u_X7 dX7_restore_46 ?_
      refine g_iload_n K 0 dX7_restore_49 rfl rfl ?_
      refine g_sipush (v := 241) K dX7_restore_50 sp_241 ?_
      refine g_iadd K dX7_restore_53 ?_
      obtain ⟨g7, h⟩ := og h
      refine g_iald K kd_149 ltN_149 g7 dX7_restore_54 ?_
      refine g_put (f' := (upd (σ5.1 132) 7 (σ5.1 149 ((245 * x1) + 241).toNatClampNeg))) K (e_ControlRegisterModel kd_132) ltN_132 rfl 7 (by decide) (e_ControlRegisterModel kd_132) tyX7 tyX7_ok nmX7 rfl (ty := .int) (by decide +kernel) rfl rfl (Nat.le_of_ble_eq_true rfl) fw_X7_114 u_X7 dX7_restore_55 (fun σ8 s9 => ?_)
      replace h := jn_at s9 h
      refine g_iconst (v := 0) K dX7_restore_58 ic_0 ?_
      refine g_istore_n (lv' := [(3, .int 0), (2, .int (245 * x1)), (0, .ref (X.ad 132)), (1, .int x1)]) K dX7_restore_59 rfl (by decide) rfl ?_
      obtain ⟨o10, e11, h⟩ := ob h
      refine g_sub [2, 1, 0] rfl ?_
      refine l_X7_restore_60 K hR _ _ _ _ e11 ?_
      refine g_iconst (v := 0) K dX7_restore_139 ic_0 ?_
      refine g_istore_n (lv' := [(3, .int 0), (0, .ref (X.ad 132)), (2, .int (245 * x1))]) K dX7_restore_140 rfl (by decide) rfl ?_
      obtain ⟨o12, e13, h⟩ := ob h
      refine g_sub [1, 2, 0] rfl ?_
      refine l_X7_restore_141 K hR _ _ _ _ e13 ?_
      refine g_iconst (v := 1) K dX7_restore_170 ic_1 ?_
      exact hr _ _ _ _ dX7_restore_171 (rt2 h)
    · replace h := bp c3 h
      refine g_bipush (v := (-3)) K dX7_restore_21 bp_m3 ?_
      exact hr _ _ _ _ dX7_restore_23 (rt2 h)
  · replace h := bp c1 h
    refine g_bipush (v := (-2)) K dX7_restore_9 bp_m2 ?_
    exact hr _ _ _ _ dX7_restore_11 (rt2 h)
theorem m_X7_restore {x1 : Int32} {σ : Sg}  {r : Int32 × Sg} (h : f_X7_restore x1 σ = some r) : CI yX7_restore cX7_restore 5 (some .int) 1 27 (fun ad => [.ref (ad 132), .int x1]) σ r.1 r.2 :=
  CI.of (by decide) (fun _ => Nat.le_of_ble_eq_true rfl) (fun X K hR hr => w_X7_restore K hR h hr)
def L_X7_done_4 (σ : Sg) : Nat → Int32 → Int32 → Option (Int32 × Int32)
  | 0, _, _ => none
  | n + 1, x1, x2 =>
    if (σ.1 132 6) ≤ x2 then
    (some (x1, x2))
    else
    (if inb x2 41 then
    (jn (if (σ.1 132 7) < (σ.1 133 x2.toNatClampNeg) then (0) else (1) : Int32) (fun v5 =>
    L_X7_done_4 σ n (x1 + v5) (x2 + 1)))
    else none)
set_option maxRecDepth 20000 in
set_option maxHeartbeats 4000000 in
theorem l_X7_done_4 {X : Ctx} (K : Cok X cX7_done 3 RX7) (hR : 0 ≤ X.R.frames ∧ 0 ≤ X.R.locals) {σ : Sg}  :
    ∀ (n : Nat) (x1 : Int32) (x2 : Int32) (o : (Int32 × Int32)), L_X7_done_4 σ n x1 x2 = some o → G X 3 39 [(0, .ref (X.ad 132)), (1, .int o.1), (2, .int o.2)] [] σ → G X 3 4 [(0, .ref (X.ad 132)), (1, .int x1), (2, .int x2)] [] σ := by
  intro n
  induction n with
  | zero => intro x1 x2 o h; exact absurd h (by unfold L_X7_done_4; intro h; cases h)
  | succ n ih =>
    intro x1 x2 o h hexit
    unfold L_X7_done_4 at h
    refine g_iload_n K 2 dX7_done_4 rfl rfl ?_
    refine g_aload_n K 0 dX7_done_5 rfl rfl ?_
    refine g_get (v := .int (σ.1 132 6)) K (e_ControlRegisterModel kd_132) ltN_132 rfl 6 (by decide) rfl fw_X7_70 u_X7 dX7_done_6 ?_
    refine g_icmp_ge (tgt := 39) K dX7_done_9 (by decide) (fun c1 => ?_) (fun c1 => ?_)
    · replace h := bp c1 h
      refine g_sub [0, 1, 2] rfl ?_
      obtain rfl := Option.some.inj h
      exact hexit
    · replace h := bn c1 h
      refine g_iload_n K 1 dX7_done_12 rfl rfl ?_
      refine g_aload_n K 0 dX7_done_13 rfl rfl ?_
      refine g_get (v := .ref (X.ad 133)) K (e_ControlRegisterModel kd_132) ltN_132 rfl 0 (by decide) rfl fw_X7_7 u_X7 dX7_done_14 ?_
      refine g_iload_n K 2 dX7_done_17 rfl rfl ?_
      obtain ⟨g2, h⟩ := og h
      refine g_iald K kd_133 ltN_133 g2 dX7_done_18 ?_
      refine g_aload_n K 0 dX7_done_19 rfl rfl ?_
      refine g_get (v := .int (σ.1 132 7)) K (e_ControlRegisterModel kd_132) ltN_132 rfl 7 (by decide) rfl fw_X7_114 u_X7 dX7_done_20 ?_
      refine jn_cut h (P := (fun v5 => G X 3 31 [(0, .ref (X.ad 132)), (1, .int x1), (2, .int x2)] [.int v5, .int x1] σ)) (fun v5 h => ?_) (fun tail_4 => ?_)
      · refine g_iadd K dX7_done_31 ?_
        refine g_istore_n (lv' := [(1, .int (x1 + v5)), (0, .ref (X.ad 132)), (2, .int x2)]) K dX7_done_32 rfl (by decide) rfl ?_
        refine g_iinc (lv' := [(2, .int (x2 + 1)), (1, .int (x1 + v5)), (0, .ref (X.ad 132))]) K 2 dX7_done_33 rfl (by rw [ic_1]) (by decide) rfl ?_
        refine g_goto (tgt := 4) K dX7_done_36 (by decide) ?_
        refine g_sub [2, 1, 0] rfl ?_
        exact ih _ _ _ h hexit
      · refine g_icmp_gt (tgt := 30) K dX7_done_23 (by decide) (fun c6 => ?_) (fun c6 => ?_)
        · replace h := jpp c6 h
          refine g_iconst (v := 0) K dX7_done_30 ic_0 ?_
          exact tail_4 _ h
        · replace h := jpn c6 h
          refine g_iconst (v := 1) K dX7_done_26 ic_1 ?_
          refine g_goto (tgt := 31) K dX7_done_27 (by decide) ?_
          exact tail_4 _ h
def f_X7_done  (σ : Sg) : Option Int32 :=
  Option.bind (L_X7_done_4 σ FU 0 0) (fun o1 =>
  some o1.1)
set_option maxRecDepth 20000 in
set_option maxHeartbeats 4000000 in
theorem w_X7_done {X : Ctx} (K : Cok X cX7_done 3 RX7) (hR : 0 ≤ X.R.frames ∧ 0 ≤ X.R.locals)  {σ : Sg}  {r : Int32} (h : f_X7_done σ = some r) (hr : RI X cX7_done 3 (r, σ)) : G X 3 0 [(0, .ref (X.ad 132))] [] σ := by
  unfold f_X7_done at h
  refine g_iconst (v := 0) K dX7_done_0 ic_0 ?_
  refine g_istore_n (lv' := [(1, .int 0), (0, .ref (X.ad 132))]) K dX7_done_1 rfl (by decide) rfl ?_
  refine g_iconst (v := 0) K dX7_done_2 ic_0 ?_
  refine g_istore_n (lv' := [(2, .int 0), (1, .int 0), (0, .ref (X.ad 132))]) K dX7_done_3 rfl (by decide) rfl ?_
  obtain ⟨o1, e2, h⟩ := ob h
  refine g_sub [2, 1, 0] rfl ?_
  refine l_X7_done_4 K hR _ _ _ _ e2 ?_
  refine g_iload_n K 1 dX7_done_39 rfl rfl ?_
  exact hr _ _ _ _ dX7_done_40 (rt1 h)
theorem m_X7_done  {σ : Sg}  {r : Int32} (h : f_X7_done σ = some r) : CI yX7_done cX7_done 3 (some .int) 0 0 (fun ad => [.ref (ad 132)]) σ r σ :=
  CI.of (by decide) (fun _ => Nat.le_of_ble_eq_true rfl) (fun X K hR hr => w_X7_done K hR h hr)
def L_X7_mostRounds_4  : Nat → Int32 → Int32 → Sg → Option (Int32 × Int32 × Sg)
  | 0, _, _, _ => none
  | n + 1, x1, x2, σ =>
    if 9 ≤ x2 then
    (some (x1, x2, σ))
    else
    (Option.bind (f_X7_control x2 σ) (fun q2 =>
    jn (if q2.1 ≤ 0 then (x1) else (if (q2.2.1 132 14) ≤ x1 then (x1) else ((q2.2.1 132 14))) : Int32) (fun v7 =>
    L_X7_mostRounds_4 n v7 (x2 + 1) q2.2)))
set_option maxRecDepth 20000 in
set_option maxHeartbeats 4000000 in
theorem l_X7_mostRounds_4 {X : Ctx} (K : Cok X cX7_mostRounds 3 RX7) (hR : 5 ≤ X.R.frames ∧ 120 ≤ X.R.locals)   :
    ∀ (n : Nat) (x1 : Int32) (x2 : Int32) (σ : Sg) (o : (Int32 × Int32 × Sg)), L_X7_mostRounds_4  n x1 x2 σ = some o → G X 3 41 [(0, .ref (X.ad 132)), (1, .int o.1), (2, .int o.2.1)] [] o.2.2 → G X 3 4 [(0, .ref (X.ad 132)), (1, .int x1), (2, .int x2)] [] σ := by
  intro n
  induction n with
  | zero => intro x1 x2 σ o h; exact absurd h (by unfold L_X7_mostRounds_4; intro h; cases h)
  | succ n ih =>
    intro x1 x2 σ o h hexit
    unfold L_X7_mostRounds_4 at h
    refine g_iload_n K 2 dX7_mostRounds_4 rfl rfl ?_
    refine g_bipush (v := 9) K dX7_mostRounds_5 bp_9 ?_
    refine g_icmp_ge (tgt := 41) K dX7_mostRounds_7 (by decide) (fun c1 => ?_) (fun c1 => ?_)
    · replace h := bp c1 h
      refine g_sub [0, 1, 2] rfl ?_
      obtain rfl := Option.some.inj h
      exact hexit
    · replace h := bn c1 h
      refine g_aload_n K 0 dX7_mostRounds_10 rfl rfl ?_
      refine g_iload_n K 2 dX7_mostRounds_11 rfl rfl ?_
      obtain ⟨q2, e3, h⟩ := ob h
      refine g_cvi (As := [.int x2]) (rest := []) K (m_X7_control e3) yv_X7_control ml_X7_133 rfl rfl rfl (e_ControlRegisterModel kd_132) ltN_132 rfl rfl ⟨Nat.le_trans (Nat.le_of_ble_eq_true rfl) hR.1, Nat.le_trans (Nat.le_of_ble_eq_true rfl) hR.2⟩ (Nat.le_of_ble_eq_true rfl) dX7_mostRounds_12 ?_
      refine jn_cut h (P := (fun v7 => G X 3 34 [(0, .ref (X.ad 132)), (1, .int x1), (2, .int x2)] [.int v7] q2.2)) (fun v7 h => ?_) (fun tail_6 => ?_)
      · refine g_istore_n (lv' := [(1, .int v7), (0, .ref (X.ad 132)), (2, .int x2)]) K dX7_mostRounds_34 rfl (by decide) rfl ?_
        refine g_iinc (lv' := [(2, .int (x2 + 1)), (1, .int v7), (0, .ref (X.ad 132))]) K 2 dX7_mostRounds_35 rfl (by rw [ic_1]) (by decide) rfl ?_
        refine g_goto (tgt := 4) K dX7_mostRounds_38 (by decide) ?_
        refine g_sub [2, 1, 0] rfl ?_
        exact ih _ _ _ _ h hexit
      · refine g_if_le (tgt := 33) K dX7_mostRounds_15 (by decide) (fun c8 => ?_) (fun c8 => ?_)
        · replace h := jpp c8 h
          refine g_iload_n K 1 dX7_mostRounds_33 rfl rfl ?_
          exact tail_6 _ h
        · replace h := jpn c8 h
          refine g_aload_n K 0 dX7_mostRounds_18 rfl rfl ?_
          refine g_get (v := .int (q2.2.1 132 14)) K (e_ControlRegisterModel kd_132) ltN_132 rfl 14 (by decide) rfl fw_X7_127 u_X7 dX7_mostRounds_19 ?_
          refine g_iload_n K 1 dX7_mostRounds_22 rfl rfl ?_
          refine g_icmp_le (tgt := 33) K dX7_mostRounds_23 (by decide) (fun c9 => ?_) (fun c9 => ?_)
          · replace h := jpp c9 h
            refine g_iload_n K 1 dX7_mostRounds_33 rfl rfl ?_
            exact tail_6 _ h
          · replace h := jpn c9 h
            refine g_aload_n K 0 dX7_mostRounds_26 rfl rfl ?_
            refine g_get (v := .int (q2.2.1 132 14)) K (e_ControlRegisterModel kd_132) ltN_132 rfl 14 (by decide) rfl fw_X7_127 u_X7 dX7_mostRounds_27 ?_
            refine g_goto (tgt := 34) K dX7_mostRounds_30 (by decide) ?_
            exact tail_6 _ h
def f_X7_mostRounds  (σ : Sg) : Option (Int32 × Sg) :=
  Option.bind (L_X7_mostRounds_4 FU 0 0 σ) (fun o1 =>
  some (o1.1, o1.2.2))
set_option maxRecDepth 20000 in
set_option maxHeartbeats 4000000 in
theorem w_X7_mostRounds {X : Ctx} (K : Cok X cX7_mostRounds 3 RX7) (hR : 5 ≤ X.R.frames ∧ 120 ≤ X.R.locals)  {σ : Sg}  {r : Int32 × Sg} (h : f_X7_mostRounds σ = some r) (hr : RI X cX7_mostRounds 3 r) : G X 3 0 [(0, .ref (X.ad 132))] [] σ := by
  unfold f_X7_mostRounds at h
  refine g_iconst (v := 0) K dX7_mostRounds_0 ic_0 ?_
  refine g_istore_n (lv' := [(1, .int 0), (0, .ref (X.ad 132))]) K dX7_mostRounds_1 rfl (by decide) rfl ?_
  refine g_iconst (v := 0) K dX7_mostRounds_2 ic_0 ?_
  refine g_istore_n (lv' := [(2, .int 0), (1, .int 0), (0, .ref (X.ad 132))]) K dX7_mostRounds_3 rfl (by decide) rfl ?_
  obtain ⟨o1, e2, h⟩ := ob h
  refine g_sub [2, 1, 0] rfl ?_
  refine l_X7_mostRounds_4 K hR _ _ _ _ _ e2 ?_
  refine g_iload_n K 1 dX7_mostRounds_41 rfl rfl ?_
  exact hr _ _ _ _ dX7_mostRounds_42 (rt2 h)
theorem m_X7_mostRounds  {σ : Sg}  {r : Int32 × Sg} (h : f_X7_mostRounds σ = some r) : CI yX7_mostRounds cX7_mostRounds 3 (some .int) 5 120 (fun ad => [.ref (ad 132)]) σ r.1 r.2 :=
  CI.of (by decide) (fun _ => Nat.le_of_ble_eq_true rfl) (fun X K hR hr => w_X7_mostRounds K hR h hr)
def L_X7_unlikeDay_8 (x1 : Int32) (σ : Sg) : Nat → Int32 → Int32 → Option (Int32 × Int32)
  | 0, _, _ => none
  | n + 1, x2, x3 =>
    if x1 ≤ x3 then
    (some (x2, x3))
    else
    (if x2 < 0 then
    (some (x2, x3))
    else
    (Option.bind (f_X7_dayBehind x2 σ) (fun r3 =>
    L_X7_unlikeDay_8 x1 σ n r3 (x3 + 1))))
set_option maxRecDepth 20000 in
set_option maxHeartbeats 4000000 in
theorem l_X7_unlikeDay_8 {X : Ctx} (K : Cok X cX7_unlikeDay 4 RX7) (hR : 1 ≤ X.R.frames ∧ 23 ≤ X.R.locals) {x1 : Int32} {σ : Sg}  :
    ∀ (n : Nat) (x2 : Int32) (x3 : Int32) (o : (Int32 × Int32)), L_X7_unlikeDay_8 x1 σ n x2 x3 = some o → G X 4 29 [(0, .ref (X.ad 132)), (1, .int x1), (2, .int o.1), (3, .int o.2)] [] σ → G X 4 8 [(0, .ref (X.ad 132)), (1, .int x1), (2, .int x2), (3, .int x3)] [] σ := by
  intro n
  induction n with
  | zero => intro x2 x3 o h; exact absurd h (by unfold L_X7_unlikeDay_8; intro h; cases h)
  | succ n ih =>
    intro x2 x3 o h hexit
    unfold L_X7_unlikeDay_8 at h
    refine g_iload_n K 3 dX7_unlikeDay_8 rfl rfl ?_
    refine g_iload_n K 1 dX7_unlikeDay_9 rfl rfl ?_
    refine g_icmp_ge (tgt := 29) K dX7_unlikeDay_10 (by decide) (fun c1 => ?_) (fun c1 => ?_)
    · replace h := bp c1 h
      refine g_sub [0, 1, 2, 3] rfl ?_
      obtain rfl := Option.some.inj h
      exact hexit
    · replace h := bn c1 h
      refine g_iload_n K 2 dX7_unlikeDay_13 rfl rfl ?_
      refine g_if_lt (tgt := 29) K dX7_unlikeDay_14 (by decide) (fun c2 => ?_) (fun c2 => ?_)
      · replace h := bp c2 h
        refine g_sub [0, 1, 2, 3] rfl ?_
        obtain rfl := Option.some.inj h
        exact hexit
      · replace h := bn c2 h
        refine g_aload_n K 0 dX7_unlikeDay_17 rfl rfl ?_
        refine g_iload_n K 2 dX7_unlikeDay_18 rfl rfl ?_
        obtain ⟨r3, e4, h⟩ := ob h
        refine g_cvi (As := [.int x2]) (rest := []) K (m_X7_dayBehind e4) yv_X7_dayBehind ml_X7_148 rfl rfl rfl (e_ControlRegisterModel kd_132) ltN_132 rfl rfl ⟨Nat.le_trans (Nat.le_of_ble_eq_true rfl) hR.1, Nat.le_trans (Nat.le_of_ble_eq_true rfl) hR.2⟩ (Nat.le_of_ble_eq_true rfl) dX7_unlikeDay_19 ?_
        refine g_istore_n (lv' := [(2, .int r3), (0, .ref (X.ad 132)), (1, .int x1), (3, .int x3)]) K dX7_unlikeDay_22 rfl (by decide) rfl ?_
        refine g_iinc (lv' := [(3, .int (x3 + 1)), (2, .int r3), (0, .ref (X.ad 132)), (1, .int x1)]) K 3 dX7_unlikeDay_23 rfl (by rw [ic_1]) (by decide) rfl ?_
        refine g_goto (tgt := 8) K dX7_unlikeDay_26 (by decide) ?_
        refine g_sub [2, 3, 1, 0] rfl ?_
        exact ih _ _ _ h hexit
def f_X7_unlikeDay (x1 : Int32) (σ : Sg) : Option Int32 :=
  Option.bind (f_X7_dayBehind (-1) σ) (fun r1 =>
  Option.bind (L_X7_unlikeDay_8 x1 σ FU r1 0) (fun o3 =>
  some o3.1))
set_option maxRecDepth 20000 in
set_option maxHeartbeats 4000000 in
theorem w_X7_unlikeDay {X : Ctx} (K : Cok X cX7_unlikeDay 4 RX7) (hR : 1 ≤ X.R.frames ∧ 23 ≤ X.R.locals) {x1 : Int32} {σ : Sg}  {r : Int32} (h : f_X7_unlikeDay x1 σ = some r) (hr : RI X cX7_unlikeDay 4 (r, σ)) : G X 4 0 [(0, .ref (X.ad 132)), (1, .int x1)] [] σ := by
  unfold f_X7_unlikeDay at h
  refine g_aload_n K 0 dX7_unlikeDay_0 rfl rfl ?_
  refine g_iconst (v := (-1)) K dX7_unlikeDay_1 ic_m1 ?_
  obtain ⟨r1, e2, h⟩ := ob h
  refine g_cvi (As := [.int (-1)]) (rest := []) K (m_X7_dayBehind e2) yv_X7_dayBehind ml_X7_148 rfl rfl rfl (e_ControlRegisterModel kd_132) ltN_132 rfl rfl ⟨Nat.le_trans (Nat.le_of_ble_eq_true rfl) hR.1, Nat.le_trans (Nat.le_of_ble_eq_true rfl) hR.2⟩ (Nat.le_of_ble_eq_true rfl) dX7_unlikeDay_2 ?_
  refine g_istore_n (lv' := [(2, .int r1), (0, .ref (X.ad 132)), (1, .int x1)]) K dX7_unlikeDay_5 rfl (by decide) rfl ?_
  refine g_iconst (v := 0) K dX7_unlikeDay_6 ic_0 ?_
  refine g_istore_n (lv' := [(3, .int 0), (2, .int r1), (0, .ref (X.ad 132)), (1, .int x1)]) K dX7_unlikeDay_7 rfl (by decide) rfl ?_
  obtain ⟨o3, e4, h⟩ := ob h
  refine g_sub [2, 3, 1, 0] rfl ?_
  refine l_X7_unlikeDay_8 K hR _ _ _ _ e4 ?_
  refine g_iload_n K 2 dX7_unlikeDay_29 rfl rfl ?_
  exact hr _ _ _ _ dX7_unlikeDay_30 (rt1 h)
theorem m_X7_unlikeDay {x1 : Int32} {σ : Sg}  {r : Int32} (h : f_X7_unlikeDay x1 σ = some r) : CI yX7_unlikeDay cX7_unlikeDay 4 (some .int) 1 23 (fun ad => [.ref (ad 132), .int x1]) σ r σ :=
  CI.of (by decide) (fun _ => Nat.le_of_ble_eq_true rfl) (fun X K hR hr => w_X7_unlikeDay K hR h hr)
def f_X7_count (x1 : Int32) (σ : Sg) : Option (Int32 × Sg) :=
  Option.bind (f_X7_lay (σ.1 132 7) (-6) σ) (fun q1 =>
  if x1 = 0 then
  (some ((q1.2.1 132 6), q1.2))
  else
  (if x1 = 1 then
  (some ((q1.2.1 132 7), q1.2))
  else
  (if x1 = 2 then
  (if inb 0 3 then
  (some ((q1.2.1 139 (0 : Int32).toNatClampNeg), q1.2))
  else none)
  else
  (if x1 = 3 then
  (if inb 1 3 then
  (some ((q1.2.1 139 (1 : Int32).toNatClampNeg), q1.2))
  else none)
  else
  (if x1 = 4 then
  (if inb 2 3 then
  (some ((q1.2.1 139 (2 : Int32).toNatClampNeg), q1.2))
  else none)
  else
  (if x1 = 5 then
  (Option.bind (f_X7_done q1.2) (fun r12 =>
  some (r12, q1.2)))
  else
  (if x1 = 6 then
  (Option.bind (f_X7_mostRounds q1.2) (fun q15 =>
  some (q15.1, q15.2)))
  else
  (if x1 = 7 then
  (Option.bind (f_X7_events (-6) q1.2) (fun q18 =>
  some (q18.1, q18.2)))
  else
  (if x1 = 8 then
  (Option.bind (f_X7_locked q1.2) (fun r21 =>
  some (r21, q1.2)))
  else
  (if x1 = 9 then
  (if inb 0 2 then
  (jn (if (q1.2.1 150 (0 : Int32).toNatClampNeg) = 0 then (0) else (1) : Int32) (fun v27 =>
  if inb 1 2 then
  (jn (if (q1.2.1 150 (1 : Int32).toNatClampNeg) = 0 then (0) else (2) : Int32) (fun v32 =>
  some ((v27 + v32), q1.2)))
  else none))
  else none)
  else
  (if (f_X7_in x1 10 49) = 0 then
  (some ((-2), q1.2))
  else
  (Option.bind (f_X7_unlikeDay (x1 - 10) q1.2) (fun r35 =>
  some (r35, q1.2))))))))))))))
set_option maxRecDepth 20000 in
set_option maxHeartbeats 4000000 in
theorem w_X7_count {X : Ctx} (K : Cok X cX7_count 2 RX7) (hR : 6 ≤ X.R.frames ∧ 147 ≤ X.R.locals) {x1 : Int32} {σ : Sg}  {r : Int32 × Sg} (h : f_X7_count x1 σ = some r) (hr : RI X cX7_count 2 r) : G X 2 0 [(0, .ref (X.ad 132)), (1, .int x1)] [] σ := by
  unfold f_X7_count at h
  refine g_aload_n K 0 dX7_count_0 rfl rfl ?_
  refine g_aload_n K 0 dX7_count_1 rfl rfl ?_
  refine g_get (v := .int (σ.1 132 7)) K (e_ControlRegisterModel kd_132) ltN_132 rfl 7 (by decide) rfl fw_X7_114 u_X7 dX7_count_2 ?_
  refine g_bipush (v := (-6)) K dX7_count_5 bp_m6 ?_
  obtain ⟨q1, e2, h⟩ := ob h
  refine g_cvi (As := [.int (σ.1 132 7), .int (-6)]) (rest := []) K (m_X7_lay e2) yv_X7_lay ml_X7_89 rfl rfl rfl (e_ControlRegisterModel kd_132) ltN_132 rfl rfl ⟨Nat.le_trans (Nat.le_of_ble_eq_true rfl) hR.1, Nat.le_trans (Nat.le_of_ble_eq_true rfl) hR.2⟩ (Nat.le_of_ble_eq_true rfl) dX7_count_7 ?_
  refine g_pop K dX7_count_10 rfl ?_
  refine g_iload_n K 1 dX7_count_11 rfl rfl ?_
  rcases Classical.em (x1 = 0) with c3 | c3
  · replace h := bp c3 h
    refine g_tableIn (y := 0) (off := 56) (tgt := 68) K dX7_count_12 c3 (by decide) (by decide) (by decide) (by decide) ?_
    refine g_aload_n K 0 dX7_count_68 rfl rfl ?_
    refine g_get (v := .int (q1.2.1 132 6)) K (e_ControlRegisterModel kd_132) ltN_132 rfl 6 (by decide) rfl fw_X7_70 u_X7 dX7_count_69 ?_
    exact hr _ _ _ _ dX7_count_72 (rt2 h)
  · replace h := bn c3 h
    rcases Classical.em (x1 = 1) with c4 | c4
    · replace h := bp c4 h
      refine g_tableIn (y := 1) (off := 61) (tgt := 73) K dX7_count_12 c4 (by decide) (by decide) (by decide) (by decide) ?_
      refine g_aload_n K 0 dX7_count_73 rfl rfl ?_
      refine g_get (v := .int (q1.2.1 132 7)) K (e_ControlRegisterModel kd_132) ltN_132 rfl 7 (by decide) rfl fw_X7_114 u_X7 dX7_count_74 ?_
      exact hr _ _ _ _ dX7_count_77 (rt2 h)
    · replace h := bn c4 h
      rcases Classical.em (x1 = 2) with c5 | c5
      · replace h := bp c5 h
        refine g_tableIn (y := 2) (off := 66) (tgt := 78) K dX7_count_12 c5 (by decide) (by decide) (by decide) (by decide) ?_
        refine g_aload_n K 0 dX7_count_78 rfl rfl ?_
        refine g_get (v := .ref (X.ad 139)) K (e_ControlRegisterModel kd_132) ltN_132 rfl 8 (by decide) rfl fw_X7_28 u_X7 dX7_count_79 ?_
        refine g_iconst (v := 0) K dX7_count_82 ic_0 ?_
        obtain ⟨g6, h⟩ := og h
        refine g_iald K kd_139 ltN_139 g6 dX7_count_83 ?_
        exact hr _ _ _ _ dX7_count_84 (rt2 h)
      · replace h := bn c5 h
        rcases Classical.em (x1 = 3) with c7 | c7
        · replace h := bp c7 h
          refine g_tableIn (y := 3) (off := 73) (tgt := 85) K dX7_count_12 c7 (by decide) (by decide) (by decide) (by decide) ?_
          refine g_aload_n K 0 dX7_count_85 rfl rfl ?_
          refine g_get (v := .ref (X.ad 139)) K (e_ControlRegisterModel kd_132) ltN_132 rfl 8 (by decide) rfl fw_X7_28 u_X7 dX7_count_86 ?_
          refine g_iconst (v := 1) K dX7_count_89 ic_1 ?_
          obtain ⟨g8, h⟩ := og h
          refine g_iald K kd_139 ltN_139 g8 dX7_count_90 ?_
          exact hr _ _ _ _ dX7_count_91 (rt2 h)
        · replace h := bn c7 h
          rcases Classical.em (x1 = 4) with c9 | c9
          · replace h := bp c9 h
            refine g_tableIn (y := 4) (off := 80) (tgt := 92) K dX7_count_12 c9 (by decide) (by decide) (by decide) (by decide) ?_
            refine g_aload_n K 0 dX7_count_92 rfl rfl ?_
            refine g_get (v := .ref (X.ad 139)) K (e_ControlRegisterModel kd_132) ltN_132 rfl 8 (by decide) rfl fw_X7_28 u_X7 dX7_count_93 ?_
            refine g_iconst (v := 2) K dX7_count_96 ic_2 ?_
            obtain ⟨g10, h⟩ := og h
            refine g_iald K kd_139 ltN_139 g10 dX7_count_97 ?_
            exact hr _ _ _ _ dX7_count_98 (rt2 h)
          · replace h := bn c9 h
            rcases Classical.em (x1 = 5) with c11 | c11
            · replace h := bp c11 h
              refine g_tableIn (y := 5) (off := 87) (tgt := 99) K dX7_count_12 c11 (by decide) (by decide) (by decide) (by decide) ?_
              refine g_aload_n K 0 dX7_count_99 rfl rfl ?_
              obtain ⟨r12, e13, h⟩ := ob h
              refine g_cvi (As := []) (rest := []) K (m_X7_done e13) yv_X7_done ml_X7_200 rfl rfl rfl (e_ControlRegisterModel kd_132) ltN_132 rfl rfl ⟨Nat.le_trans (Nat.le_of_ble_eq_true rfl) hR.1, Nat.le_trans (Nat.le_of_ble_eq_true rfl) hR.2⟩ (Nat.le_of_ble_eq_true rfl) dX7_count_100 ?_
              exact hr _ _ _ _ dX7_count_103 (rt2 h)
            · replace h := bn c11 h
              rcases Classical.em (x1 = 6) with c14 | c14
              · replace h := bp c14 h
                refine g_tableIn (y := 6) (off := 92) (tgt := 104) K dX7_count_12 c14 (by decide) (by decide) (by decide) (by decide) ?_
                refine g_aload_n K 0 dX7_count_104 rfl rfl ?_
                obtain ⟨q15, e16, h⟩ := ob h
                refine g_cvi (As := []) (rest := []) K (m_X7_mostRounds e16) yv_X7_mostRounds ml_X7_203 rfl rfl rfl (e_ControlRegisterModel kd_132) ltN_132 rfl rfl ⟨Nat.le_trans (Nat.le_of_ble_eq_true rfl) hR.1, Nat.le_trans (Nat.le_of_ble_eq_true rfl) hR.2⟩ (Nat.le_of_ble_eq_true rfl) dX7_count_105 ?_
                exact hr _ _ _ _ dX7_count_108 (rt2 h)
              · replace h := bn c14 h
                rcases Classical.em (x1 = 7) with c17 | c17
                · replace h := bp c17 h
                  refine g_tableIn (y := 7) (off := 97) (tgt := 109) K dX7_count_12 c17 (by decide) (by decide) (by decide) (by decide) ?_
                  refine g_aload_n K 0 dX7_count_109 rfl rfl ?_
                  refine g_bipush (v := (-6)) K dX7_count_110 bp_m6 ?_
                  obtain ⟨q18, e19, h⟩ := ob h
                  refine g_cvi (As := [.int (-6)]) (rest := []) K (m_X7_events e19) yv_X7_events ml_X7_163 rfl rfl rfl (e_ControlRegisterModel kd_132) ltN_132 rfl rfl ⟨Nat.le_trans (Nat.le_of_ble_eq_true rfl) hR.1, Nat.le_trans (Nat.le_of_ble_eq_true rfl) hR.2⟩ (Nat.le_of_ble_eq_true rfl) dX7_count_112 ?_
                  exact hr _ _ _ _ dX7_count_115 (rt2 h)
                · replace h := bn c17 h
                  rcases Classical.em (x1 = 8) with c20 | c20
                  · replace h := bp c20 h
                    refine g_tableIn (y := 8) (off := 104) (tgt := 116) K dX7_count_12 c20 (by decide) (by decide) (by decide) (by decide) ?_
                    refine g_aload_n K 0 dX7_count_116 rfl rfl ?_
                    obtain ⟨r21, e22, h⟩ := ob h
                    refine g_cvi (As := []) (rest := []) K (m_X7_locked e22) yv_X7_locked ml_X7_169 rfl rfl rfl (e_ControlRegisterModel kd_132) ltN_132 rfl rfl ⟨Nat.le_trans (Nat.le_of_ble_eq_true rfl) hR.1, Nat.le_trans (Nat.le_of_ble_eq_true rfl) hR.2⟩ (Nat.le_of_ble_eq_true rfl) dX7_count_117 ?_
                    exact hr _ _ _ _ dX7_count_120 (rt2 h)
                  · replace h := bn c20 h
                    rcases Classical.em (x1 = 9) with c23 | c23
                    · replace h := bp c23 h
                      refine g_tableIn (y := 9) (off := 109) (tgt := 121) K dX7_count_12 c23 (by decide) (by decide) (by decide) (by decide) ?_
                      refine g_aload_n K 0 dX7_count_121 rfl rfl ?_
                      refine g_get (v := .ref (X.ad 150)) K (e_ControlRegisterModel kd_132) ltN_132 rfl 24 (by decide) rfl fw_X7_63 u_X7 dX7_count_122 ?_
                      refine g_iconst (v := 0) K dX7_count_125 ic_0 ?_
                      obtain ⟨g24, h⟩ := og h
                      refine g_zald K kd_150 ltN_150 g24 dX7_count_126 ?_
                      refine jn_cut h (P := (fun v27 => G X 2 135 [(0, .ref (X.ad 132)), (1, .int x1)] [.int v27] q1.2)) (fun v27 h => ?_) (fun tail_26 => ?_)
                      · refine g_aload_n K 0 dX7_count_135 rfl rfl ?_
                        refine g_get (v := .ref (X.ad 150)) K (e_ControlRegisterModel kd_132) ltN_132 rfl 24 (by decide) rfl fw_X7_63 u_X7 dX7_count_136 ?_
                        refine g_iconst (v := 1) K dX7_count_139 ic_1 ?_
                        obtain ⟨g29, h⟩ := og h
                        refine g_zald K kd_150 ltN_150 g29 dX7_count_140 ?_
                        refine jn_cut h (P := (fun v32 => G X 2 149 [(0, .ref (X.ad 132)), (1, .int x1)] [.int v32, .int v27] q1.2)) (fun v32 h => ?_) (fun tail_31 => ?_)
                        · refine g_iadd K dX7_count_149 ?_
                          exact hr _ _ _ _ dX7_count_150 (rt2 h)
                        · refine g_if_eq (tgt := 148) K dX7_count_141 (by decide) (fun c33 => ?_) (fun c33 => ?_)
                          · replace h := jpp c33 h
                            refine g_iconst (v := 0) K dX7_count_148 ic_0 ?_
                            exact tail_31 _ h
                          · replace h := jpn c33 h
                            refine g_iconst (v := 2) K dX7_count_144 ic_2 ?_
                            refine g_goto (tgt := 149) K dX7_count_145 (by decide) ?_
                            exact tail_31 _ h
                      · refine g_if_eq (tgt := 134) K dX7_count_127 (by decide) (fun c28 => ?_) (fun c28 => ?_)
                        · replace h := jpp c28 h
                          refine g_iconst (v := 0) K dX7_count_134 ic_0 ?_
                          exact tail_26 _ h
                        · replace h := jpn c28 h
                          refine g_iconst (v := 1) K dX7_count_130 ic_1 ?_
                          refine g_goto (tgt := 135) K dX7_count_131 (by decide) ?_
                          exact tail_26 _ h
                    · replace h := bn c23 h
                      refine g_tableOut (tgt := 151) K dX7_count_12 (by have w0 := lv_neT (a := 0) c3 (by decide); have w1 := lv_neT (a := 1) c4 (by decide); have w2 := lv_neT (a := 2) c5 (by decide); have w3 := lv_neT (a := 3) c7 (by decide); have w4 := lv_neT (a := 4) c9 (by decide); have w5 := lv_neT (a := 5) c11 (by decide); have w6 := lv_neT (a := 6) c14 (by decide); have w7 := lv_neT (a := 7) c17 (by decide); have w8 := lv_neT (a := 8) c20 (by decide); have w9 := lv_neT (a := 9) c23 (by decide); omega) (by decide) ?_
                      refine g_iload_n K 1 dX7_count_151 rfl rfl ?_
                      refine g_bipush (v := 10) K dX7_count_152 bp_10 ?_
                      refine g_bipush (v := 49) K dX7_count_154 bp_49 ?_
                      refine g_csi (As := [.int x1, .int 10, .int 49]) (rest := []) K (m_X7_in x1 10 49 q1.2) yv_X7_in ml_X7_66 rfl rfl rfl ⟨Nat.le_trans (Nat.le_of_ble_eq_true rfl) hR.1, Nat.le_trans (Nat.le_of_ble_eq_true rfl) hR.2⟩ (Nat.le_of_ble_eq_true rfl) dX7_count_156 ?_
                      refine g_if_eq (tgt := 173) K dX7_count_159 (by decide) (fun c34 => ?_) (fun c34 => ?_)
                      · replace h := bp c34 h
                        refine g_bipush (v := (-2)) K dX7_count_173 bp_m2 ?_
                        exact hr _ _ _ _ dX7_count_175 (rt2 h)
                      · replace h := bn c34 h
                        refine g_aload_n K 0 dX7_count_162 rfl rfl ?_
                        refine g_iload_n K 1 dX7_count_163 rfl rfl ?_
                        refine g_bipush (v := 10) K dX7_count_164 bp_10 ?_
                        refine g_isub K dX7_count_166 ?_
                        obtain ⟨r35, e36, h⟩ := ob h
                        refine g_cvi (As := [.int (x1 - 10)]) (rest := []) K (m_X7_unlikeDay e36) yv_X7_unlikeDay ml_X7_206 rfl rfl rfl (e_ControlRegisterModel kd_132) ltN_132 rfl rfl ⟨Nat.le_trans (Nat.le_of_ble_eq_true rfl) hR.1, Nat.le_trans (Nat.le_of_ble_eq_true rfl) hR.2⟩ (Nat.le_of_ble_eq_true rfl) dX7_count_167 ?_
                        refine g_goto (tgt := 175) K dX7_count_170 (by decide) ?_
                        exact hr _ _ _ _ dX7_count_175 (rt2 h)
theorem m_X7_count {x1 : Int32} {σ : Sg}  {r : Int32 × Sg} (h : f_X7_count x1 σ = some r) : CI yX7_count cX7_count 2 (some .int) 6 147 (fun ad => [.ref (ad 132), .int x1]) σ r.1 r.2 :=
  CI.of (by decide) (fun _ => Nat.le_of_ble_eq_true rfl) (fun X K hR hr => w_X7_count K hR h hr)
