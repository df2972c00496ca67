def f_X6_above (x1 : Int32) (x2 : Int32) (σ : Sg) : Option (Int32 × Sg) :=
  if (f_X6_isFirm x1) = 0 then
  (some ((-1), σ))
  else
  (Option.bind (f_X6_bringUpToDate σ) (fun q2 =>
  if x2 = 0 then
  (Option.bind (f_X1_thoseOver 53 x1 0 4 q2) (fun r5 =>
  some (r5, q2)))
  else
  (if x2 = 1 then
  (Option.bind (f_X1_thoseOver 53 x1 4 5 q2) (fun r8 =>
  some (r8, q2)))
  else
  (if x2 = 2 then
  (if inb x1 5 then
  (some ((q2.1 38 x1.toNatClampNeg), q2))
  else none)
  else
  (if x2 = 3 then
  (if inb (f_X6_holderOf x1) 9 then
  (some ((f_X6_asNumber (f_X6_has (q2.1 54 (f_X6_holderOf x1).toNatClampNeg) x1)), q2))
  else none)
  else
  (some ((-2), q2)))))))
set_option maxRecDepth 20000 in
set_option maxHeartbeats 4000000 in
theorem w_X6_above {X : Ctx} (K : Cok X cX6_above 3 RX6) (hR : 6 ≤ X.R.frames ∧ 146 ≤ X.R.locals) {x1 : Int32} {x2 : Int32} {σ : Sg}  {r : Int32 × Sg} (h : f_X6_above x1 x2 σ = some r) (hr : RI X cX6_above 3 r) : G X 3 0 [(0, .ref (X.ad 0)), (1, .int x1), (2, .int x2)] [] σ := by
  unfold f_X6_above at h
  refine g_iload_n K 1 dX6_above_0 rfl rfl ?_
  refine g_csi (As := [.int x1]) (rest := []) K (m_X6_isFirm x1 σ) yv_X6_isFirm ml_X6_71 rfl rfl rfl ⟨Nat.le_trans (Nat.le_of_ble_eq_true rfl) hR.1, Nat.le_trans (Nat.le_of_ble_eq_true rfl) hR.2⟩ (Nat.le_of_ble_eq_true rfl) dX6_above_1 ?_
  refine g_if_ne (tgt := 9) K dX6_above_4 (by decide) (fun c1 => ?_) (fun c1 => ?_)
  · replace h := bn c1 h
    refine g_aload_n K 0 dX6_above_9 rfl rfl ?_
    obtain ⟨q2, e3, h⟩ := ob h
    refine g_cvv (As := []) (rest := []) K (m_X6_bringUpToDate e3) yv_X6_bringUpToDate ml_X6_146 rfl rfl rfl (e_ControlRegister kd_0) ltN_0 rfl rfl ⟨Nat.le_trans (Nat.le_of_ble_eq_true rfl) hR.1, Nat.le_trans (Nat.le_of_ble_eq_true rfl) hR.2⟩ (Nat.le_of_ble_eq_true rfl) dX6_above_10 ?_
    refine g_iload_n K 2 dX6_above_13 rfl rfl ?_
    rcases Classical.em (x2 = 0) with c4 | c4
    · replace h := bp c4 h
      refine g_tableIn (y := 0) (off := 30) (tgt := 44) K dX6_above_14 c4 (by decide) (by decide) (by decide) (by decide) ?_
      refine g_aload_n K 0 dX6_above_44 rfl rfl ?_
      refine g_get (v := .ref (X.ad 53)) K (e_ControlRegister kd_0) ltN_0 rfl 5 (by decide) rfl fw_X6_32 u_X6 dX6_above_45 ?_
      refine g_iload_n K 1 dX6_above_48 rfl rfl ?_
      refine g_iconst (v := 0) K dX6_above_49 ic_0 ?_
      refine g_iconst (v := 4) K dX6_above_50 ic_4 ?_
      obtain ⟨r5, e6, h⟩ := ob h
      refine g_cvi (As := [.int x1, .int 0, .int 4]) (rest := []) K (m_X1_thoseOver is_53 e6) yv_X1_thoseOver ml_X6_183 rfl rfl rfl (e_Control kd_53) ltN_53 rfl rfl ⟨Nat.le_trans (Nat.le_of_ble_eq_true rfl) hR.1, Nat.le_trans (Nat.le_of_ble_eq_true rfl) hR.2⟩ (Nat.le_of_ble_eq_true rfl) dX6_above_51 ?_
      exact hr _ _ _ _ dX6_above_54 (rt2 h)
    · replace h := bn c4 h
      rcases Classical.em (x2 = 1) with c7 | c7
      · replace h := bp c7 h
        refine g_tableIn (y := 1) (off := 41) (tgt := 55) K dX6_above_14 c7 (by decide) (by decide) (by decide) (by decide) ?_
        refine g_aload_n K 0 dX6_above_55 rfl rfl ?_
        refine g_get (v := .ref (X.ad 53)) K (e_ControlRegister kd_0) ltN_0 rfl 5 (by decide) rfl fw_X6_32 u_X6 dX6_above_56 ?_
        refine g_iload_n K 1 dX6_above_59 rfl rfl ?_
        refine g_iconst (v := 4) K dX6_above_60 ic_4 ?_
        refine g_iconst (v := 5) K dX6_above_61 ic_5 ?_
        obtain ⟨r8, e9, h⟩ := ob h
        refine g_cvi (As := [.int x1, .int 4, .int 5]) (rest := []) K (m_X1_thoseOver is_53 e9) yv_X1_thoseOver ml_X6_183 rfl rfl rfl (e_Control kd_53) ltN_53 rfl rfl ⟨Nat.le_trans (Nat.le_of_ble_eq_true rfl) hR.1, Nat.le_trans (Nat.le_of_ble_eq_true rfl) hR.2⟩ (Nat.le_of_ble_eq_true rfl) dX6_above_62 ?_
        exact hr _ _ _ _ dX6_above_65 (rt2 h)
      · replace h := bn c7 h
        rcases Classical.em (x2 = 2) with c10 | c10
        · replace h := bp c10 h
          refine g_tableIn (y := 2) (off := 52) (tgt := 66) K dX6_above_14 c10 (by decide) (by decide) (by decide) (by decide) ?_
          refine g_aload_n K 0 dX6_above_66 rfl rfl ?_
          refine g_get (v := .ref (X.ad 25)) K (e_ControlRegister kd_0) ltN_0 rfl 4 (by decide) rfl fw_X6_25 u_X6 dX6_above_67 ?_
          refine g_get (v := .ref (X.ad 38)) K (e_Holdings kd_25) ltN_25 rfl 2 (by decide) rfl fw_X6_156 u_X2 dX6_above_70 ?_
          refine g_iload_n K 1 dX6_above_73 rfl rfl ?_
          obtain ⟨g11, h⟩ := og h
          refine g_iald K kd_38 ltN_38 g11 dX6_above_74 ?_
          exact hr _ _ _ _ dX6_above_75 (rt2 h)
        · replace h := bn c10 h
          rcases Classical.em (x2 = 3) with c12 | c12
          · replace h := bp c12 h
            refine g_tableIn (y := 3) (off := 62) (tgt := 76) K dX6_above_14 c12 (by decide) (by decide) (by decide) (by decide) ?_
            refine g_aload_n K 0 dX6_above_76 rfl rfl ?_
            refine g_get (v := .ref (X.ad 53)) K (e_ControlRegister kd_0) ltN_0 rfl 5 (by decide) rfl fw_X6_32 u_X6 dX6_above_77 ?_
            refine g_get (v := .ref (X.ad 54)) K (e_Control kd_53) ltN_53 rfl 0 (by decide) rfl fw_X6_163 u_X1 dX6_above_80 ?_
            refine g_iload_n K 1 dX6_above_83 rfl rfl ?_
            refine g_csi (As := [.int x1]) (rest := [.ref (X.ad 54)]) K (m_X6_holderOf x1 q2) yv_X6_holderOf ml_X6_187 rfl rfl rfl ⟨Nat.le_trans (Nat.le_of_ble_eq_true rfl) hR.1, Nat.le_trans (Nat.le_of_ble_eq_true rfl) hR.2⟩ (Nat.le_of_ble_eq_true rfl) dX6_above_84 ?_
            obtain ⟨g13, h⟩ := og h
            refine g_iald K kd_54 ltN_54 g13 dX6_above_87 ?_
            refine g_iload_n K 1 dX6_above_88 rfl rfl ?_
            refine g_csi (As := [.int (q2.1 54 (f_X6_holderOf x1).toNatClampNeg), .int x1]) (rest := []) K (m_X6_has (q2.1 54 (f_X6_holderOf x1).toNatClampNeg) x1 q2) yv_X6_has ml_X6_159 rfl rfl rfl ⟨Nat.le_trans (Nat.le_of_ble_eq_true rfl) hR.1, Nat.le_trans (Nat.le_of_ble_eq_true rfl) hR.2⟩ (Nat.le_of_ble_eq_true rfl) dX6_above_89 ?_
            refine g_csi (As := [.int (f_X6_has (q2.1 54 (f_X6_holderOf x1).toNatClampNeg) x1)]) (rest := []) K (m_X6_asNumber (f_X6_has (q2.1 54 (f_X6_holderOf x1).toNatClampNeg) x1) q2) yv_X6_asNumber ml_X6_126 rfl rfl rfl ⟨Nat.le_trans (Nat.le_of_ble_eq_true rfl) hR.1, Nat.le_trans (Nat.le_of_ble_eq_true rfl) hR.2⟩ (Nat.le_of_ble_eq_true rfl) dX6_above_92 ?_
            exact hr _ _ _ _ dX6_above_95 (rt2 h)
          · replace h := bn c12 h
            refine g_tableOut (tgt := 96) K dX6_above_14 (by have w0 := lv_neT (a := 0) c4 (by decide); have w1 := lv_neT (a := 1) c7 (by decide); have w2 := lv_neT (a := 2) c10 (by decide); have w3 := lv_neT (a := 3) c12 (by decide); omega) (by decide) ?_
            refine g_bipush (v := (-2)) K dX6_above_96 bp_m2 ?_
            exact hr _ _ _ _ dX6_above_98 (rt2 h)
  · replace h := bp c1 h
    refine g_iconst (v := (-1)) K dX6_above_7 ic_m1 ?_
    exact hr _ _ _ _ dX6_above_8 (rt2 h)
theorem m_X6_above {x1 : Int32} {x2 : Int32} {σ : Sg}  {r : Int32 × Sg} (h : f_X6_above x1 x2 σ = some r) : CI yX6_above cX6_above 3 (some .int) 6 146 (fun ad => [.ref (ad 0), .int x1, .int x2]) σ r.1 r.2 :=
  CI.of (by decide) (fun _ => Nat.le_of_ble_eq_true rfl) (fun X K hR hr => w_X6_above K hR h hr)
def f_X6_trace  (σ : Sg) : Option Sg :=
  if (σ.1 0 10) = 0 then
  (Option.bind (f_X5_workOut 1 39 66 σ) (fun q2 =>
  jn (setR q2 0 (upd (q2.1 0) 10 1)) (fun σ4 =>
  some (σ4))))
  else
  (some (σ))
set_option maxRecDepth 20000 in
set_option maxHeartbeats 4000000 in
theorem w_X6_trace {X : Ctx} (K : Cok X cX6_trace 1 RX6) (hR : 5 ≤ X.R.frames ∧ 127 ≤ X.R.locals)  {σ : Sg}  {r : Sg} (h : f_X6_trace σ = some r) (hr : RV X cX6_trace 1 r) : G X 1 0 [(0, .ref (X.ad 0))] [] σ := by
  unfold f_X6_trace at h
  refine g_aload_n K 0 dX6_trace_0 rfl rfl ?_
  refine g_get (v := .int (σ.1 0 10)) K (e_ControlRegister kd_0) ltN_0 rfl 10 (by decide) rfl fw_X6_278 u_X6 dX6_trace_1 ?_
  refine g_if_eq (tgt := 8) K dX6_trace_4 (by decide) (fun c1 => ?_) (fun c1 => ?_)
  · replace h := bp c1 h
    refine g_aload_n K 0 dX6_trace_8 rfl rfl ?_
    refine g_get (v := .ref (X.ad 88)) K (e_ControlRegister kd_0) ltN_0 rfl 9 (by decide) rfl fw_X6_53 u_X6 dX6_trace_9 ?_
    refine g_aload_n K 0 dX6_trace_12 rfl rfl ?_
    refine g_get (v := .ref (X.ad 1)) K (e_ControlRegister kd_0) ltN_0 rfl 0 (by decide) rfl fw_X6_12 u_X6 dX6_trace_13 ?_
    refine g_aload_n K 0 dX6_trace_16 rfl rfl ?_
    refine g_get (v := .ref (X.ad 39)) K (e_ControlRegister kd_0) ltN_0 rfl 11 (by decide) rfl fw_X6_57 u_X6 dX6_trace_17 ?_
    refine g_aload_n K 0 dX6_trace_20 rfl rfl ?_
    refine g_get (v := .ref (X.ad 66)) K (e_ControlRegister kd_0) ltN_0 rfl 12 (by decide) rfl fw_X6_60 u_X6 dX6_trace_21 ?_
    obtain ⟨q2, e3, h⟩ := ob h
    refine g_cvv (As := [.ref (X.ad 1), .ref (X.ad 39), .ref (X.ad 66)]) (rest := []) K (m_X5_workOut is_1 is_39 is_66 e3) yv_X5_workOut ml_X6_290 rfl rfl rfl (e_Timeline kd_88) ltN_88 rfl rfl ⟨Nat.le_trans (Nat.le_of_ble_eq_true rfl) hR.1, Nat.le_trans (Nat.le_of_ble_eq_true rfl) hR.2⟩ (Nat.le_of_ble_eq_true rfl) dX6_trace_24 ?_
    refine g_aload_n K 0 dX6_trace_27 rfl rfl ?_
    refine g_iconst (v := 1) K dX6_trace_28 ic_1 ?_
    refine g_put (f' := (upd (q2.1 0) 10 1)) K (e_ControlRegister kd_0) ltN_0 rfl 10 (by decide) (e_ControlRegister kd_0) tyX6 tyX6_ok nmX6 rfl (ty := .boolean) (by decide +kernel) rfl rfl (Nat.le_of_ble_eq_true rfl) fw_X6_278 u_X6 dX6_trace_29 (fun σ4 s5 => ?_)
    replace h := jn_at s5 h
    exact hr _ _ _ dX6_trace_32 (rt2 h)
  · replace h := bn c1 h
    exact hr _ _ _ dX6_trace_7 (rt2 h)
theorem m_X6_trace  {σ : Sg}  {r : Sg} (h : f_X6_trace σ = some r) : CV yX6_trace cX6_trace 1 none 5 127 (fun ad => [.ref (ad 0)]) σ r :=
  CV.of (by decide) (fun _ => Nat.le_of_ble_eq_true rfl) (fun X K hR hr => w_X6_trace K hR h hr)
def f_X6_when (x1 : Int32) (x2 : Int32) (x3 : Int32) (σ : Sg) : Option (Int32 × Sg) :=
  if (f_X6_isController x1) = 0 then
  (some ((-1), σ))
  else
  (if (f_X6_isFirm x2) = 0 then
  (some ((-1), σ))
  else
  (if (f_X6_isYesOrNo x3) = 0 then
  (some ((-2), σ))
  else
  (Option.bind (f_X6_trace σ) (fun q4 =>
  jn (if x3 = 1 then (1) else (0) : Int32) (fun v8 =>
  Option.bind (f_X5_firstDay (q4.1 1 8) x1 x2 v8 q4) (fun r10 =>
  some (r10, q4)))))))
set_option maxRecDepth 20000 in
set_option maxHeartbeats 4000000 in
theorem w_X6_when {X : Ctx} (K : Cok X cX6_when 4 RX6) (hR : 6 ≤ X.R.frames ∧ 147 ≤ X.R.locals) {x1 : Int32} {x2 : Int32} {x3 : Int32} {σ : Sg}  {r : Int32 × Sg} (h : f_X6_when x1 x2 x3 σ = some r) (hr : RI X cX6_when 4 r) : G X 4 0 [(0, .ref (X.ad 0)), (1, .int x1), (2, .int x2), (3, .int x3)] [] σ := by
  unfold f_X6_when at h
  refine g_iload_n K 1 dX6_when_0 rfl rfl ?_
  refine g_csi (As := [.int x1]) (rest := []) K (m_X6_isController x1 σ) yv_X6_isController ml_X6_67 rfl rfl rfl ⟨Nat.le_trans (Nat.le_of_ble_eq_true rfl) hR.1, Nat.le_trans (Nat.le_of_ble_eq_true rfl) hR.2⟩ (Nat.le_of_ble_eq_true rfl) dX6_when_1 ?_
  refine g_if_eq (tgt := 14) K dX6_when_4 (by decide) (fun c1 => ?_) (fun c1 => ?_)
  · replace h := bp c1 h
    refine g_iconst (v := (-1)) K dX6_when_14 ic_m1 ?_
    exact hr _ _ _ _ dX6_when_15 (rt2 h)
  · replace h := bn c1 h
    refine g_iload_n K 2 dX6_when_7 rfl rfl ?_
    refine g_csi (As := [.int x2]) (rest := []) K (m_X6_isFirm x2 σ) yv_X6_isFirm ml_X6_71 rfl rfl rfl ⟨Nat.le_trans (Nat.le_of_ble_eq_true rfl) hR.1, Nat.le_trans (Nat.le_of_ble_eq_true rfl) hR.2⟩ (Nat.le_of_ble_eq_true rfl) dX6_when_8 ?_
    refine g_if_ne (tgt := 16) K dX6_when_11 (by decide) (fun c2 => ?_) (fun c2 => ?_)
    · replace h := bn c2 h
      refine g_iload_n K 3 dX6_when_16 rfl rfl ?_
      refine g_csi (As := [.int x3]) (rest := []) K (m_X6_isYesOrNo x3 σ) yv_X6_isYesOrNo ml_X6_77 rfl rfl rfl ⟨Nat.le_trans (Nat.le_of_ble_eq_true rfl) hR.1, Nat.le_trans (Nat.le_of_ble_eq_true rfl) hR.2⟩ (Nat.le_of_ble_eq_true rfl) dX6_when_17 ?_
      refine g_if_ne (tgt := 26) K dX6_when_20 (by decide) (fun c3 => ?_) (fun c3 => ?_)
      · replace h := bn c3 h
        refine g_aload_n K 0 dX6_when_26 rfl rfl ?_
        obtain ⟨q4, e5, h⟩ := ob h
        refine g_cvv (As := []) (rest := []) K (m_X6_trace e5) yv_X6_trace ml_X6_190 rfl rfl rfl (e_ControlRegister kd_0) ltN_0 rfl rfl ⟨Nat.le_trans (Nat.le_of_ble_eq_true rfl) hR.1, Nat.le_trans (Nat.le_of_ble_eq_true rfl) hR.2⟩ (Nat.le_of_ble_eq_true rfl) dX6_when_27 ?_
        refine g_aload_n K 0 dX6_when_30 rfl rfl ?_
        refine g_get (v := .ref (X.ad 88)) K (e_ControlRegister kd_0) ltN_0 rfl 9 (by decide) rfl fw_X6_53 u_X6 dX6_when_31 ?_
        refine g_aload_n K 0 dX6_when_34 rfl rfl ?_
        refine g_get (v := .ref (X.ad 1)) K (e_ControlRegister kd_0) ltN_0 rfl 0 (by decide) rfl fw_X6_12 u_X6 dX6_when_35 ?_
        refine g_get (v := .int (q4.1 1 8)) K (e_Book kd_1) ltN_1 rfl 8 (by decide) rfl fw_X6_123 u_X0 dX6_when_38 ?_
        refine g_iload_n K 1 dX6_when_41 rfl rfl ?_
        refine g_iload_n K 2 dX6_when_42 rfl rfl ?_
        refine g_iload_n K 3 dX6_when_43 rfl rfl ?_
        refine g_iconst (v := 1) K dX6_when_44 ic_1 ?_
        refine jn_cut h (P := (fun v8 => G X 4 53 [(0, .ref (X.ad 0)), (1, .int x1), (2, .int x2), (3, .int x3)] [.int v8, .int x2, .int x1, .int (q4.1 1 8), .ref (X.ad 88)] q4)) (fun v8 h => ?_) (fun tail_7 => ?_)
        · obtain ⟨r10, e11, h⟩ := ob h
          refine g_cvi (As := [.int (q4.1 1 8), .int x1, .int x2, .int v8]) (rest := []) K (m_X5_firstDay e11) yv_X5_firstDay ml_X6_193 rfl rfl rfl (e_Timeline kd_88) ltN_88 rfl rfl ⟨Nat.le_trans (Nat.le_of_ble_eq_true rfl) hR.1, Nat.le_trans (Nat.le_of_ble_eq_true rfl) hR.2⟩ (Nat.le_of_ble_eq_true rfl) dX6_when_53 ?_
          exact hr _ _ _ _ dX6_when_56 (rt2 h)
        · refine g_icmp_ne (tgt := 52) K dX6_when_45 (by decide) (fun c9 => ?_) (fun c9 => ?_)
          · replace h := jpn c9 h
            refine g_iconst (v := 0) K dX6_when_52 ic_0 ?_
            exact tail_7 _ h
          · replace h := jpp c9 h
            refine g_iconst (v := 1) K dX6_when_48 ic_1 ?_
            refine g_goto (tgt := 53) K dX6_when_49 (by decide) ?_
            exact tail_7 _ h
      · replace h := bp c3 h
        refine g_bipush (v := (-2)) K dX6_when_23 bp_m2 ?_
        exact hr _ _ _ _ dX6_when_25 (rt2 h)
    · replace h := bp c2 h
      refine g_iconst (v := (-1)) K dX6_when_14 ic_m1 ?_
      exact hr _ _ _ _ dX6_when_15 (rt2 h)
theorem m_X6_when {x1 : Int32} {x2 : Int32} {x3 : Int32} {σ : Sg}  {r : Int32 × Sg} (h : f_X6_when x1 x2 x3 σ = some r) : CI yX6_when cX6_when 4 (some .int) 6 147 (fun ad => [.ref (ad 0), .int x1, .int x2, .int x3]) σ r.1 r.2 :=
  CI.of (by decide) (fun _ => Nat.le_of_ble_eq_true rfl) (fun X K hR hr => w_X6_when K hR h hr)
def f_X6_wouldControl (x1 : Int32) (x2 : Int32) (σ : Sg) : Option (Int32 × Sg) :=
  Option.bind (f_X1_workOut 66 x1 39 1 σ) (fun q1 =>
  if inb x1 9 then
  (some ((f_X6_has (q1.1 67 x1.toNatClampNeg) x2), q1))
  else none)
set_option maxRecDepth 20000 in
set_option maxHeartbeats 4000000 in
theorem w_X6_wouldControl {X : Ctx} (K : Cok X cX6_wouldControl 3 RX6) (hR : 4 ≤ X.R.frames ∧ 101 ≤ X.R.locals) {x1 : Int32} {x2 : Int32} {σ : Sg}  {r : Int32 × Sg} (h : f_X6_wouldControl x1 x2 σ = some r) (hr : RZ X cX6_wouldControl 3 r) : G X 3 0 [(0, .ref (X.ad 0)), (1, .int x1), (2, .int x2)] [] σ := by
  unfold f_X6_wouldControl at h
  refine g_aload_n K 0 dX6_wouldControl_0 rfl rfl ?_
  refine g_get (v := .ref (X.ad 66)) K (e_ControlRegister kd_0) ltN_0 rfl 12 (by decide) rfl fw_X6_60 u_X6 dX6_wouldControl_1 ?_
  refine g_iload_n K 1 dX6_wouldControl_4 rfl rfl ?_
  refine g_aload_n K 0 dX6_wouldControl_5 rfl rfl ?_
  refine g_get (v := .ref (X.ad 39)) K (e_ControlRegister kd_0) ltN_0 rfl 11 (by decide) rfl fw_X6_57 u_X6 dX6_wouldControl_6 ?_
  refine g_aload_n K 0 dX6_wouldControl_9 rfl rfl ?_
  refine g_get (v := .ref (X.ad 1)) K (e_ControlRegister kd_0) ltN_0 rfl 0 (by decide) rfl fw_X6_12 u_X6 dX6_wouldControl_10 ?_
  obtain ⟨q1, e2, h⟩ := ob h
  refine g_cvv (As := [.int x1, .ref (X.ad 39), .ref (X.ad 1)]) (rest := []) K (m_X1_workOut is_66 is_39 is_1 e2) yv_X1_workOut ml_X6_308 rfl rfl rfl (e_Control kd_66) ltN_66 rfl rfl ⟨Nat.le_trans (Nat.le_of_ble_eq_true rfl) hR.1, Nat.le_trans (Nat.le_of_ble_eq_true rfl) hR.2⟩ (Nat.le_of_ble_eq_true rfl) dX6_wouldControl_13 ?_
  refine g_aload_n K 0 dX6_wouldControl_16 rfl rfl ?_
  refine g_get (v := .ref (X.ad 66)) K (e_ControlRegister kd_0) ltN_0 rfl 12 (by decide) rfl fw_X6_60 u_X6 dX6_wouldControl_17 ?_
  refine g_get (v := .ref (X.ad 67)) K (e_Control kd_66) ltN_66 rfl 0 (by decide) rfl fw_X6_163 u_X1 dX6_wouldControl_20 ?_
  refine g_iload_n K 1 dX6_wouldControl_23 rfl rfl ?_
  obtain ⟨g3, h⟩ := og h
  refine g_iald K kd_67 ltN_67 g3 dX6_wouldControl_24 ?_
  refine g_iload_n K 2 dX6_wouldControl_25 rfl rfl ?_
  refine g_csi (As := [.int (q1.1 67 x1.toNatClampNeg), .int x2]) (rest := []) K (m_X6_has (q1.1 67 x1.toNatClampNeg) x2 q1) yv_X6_has ml_X6_159 rfl rfl rfl ⟨Nat.le_trans (Nat.le_of_ble_eq_true rfl) hR.1, Nat.le_trans (Nat.le_of_ble_eq_true rfl) hR.2⟩ (Nat.le_of_ble_eq_true rfl) dX6_wouldControl_26 ?_
  exact hr _ _ _ _ dX6_wouldControl_29 (rt2 h) (nz_X6_has (q1.1 67 x1.toNatClampNeg) x2)
theorem m_X6_wouldControl {x1 : Int32} {x2 : Int32} {σ : Sg}  {r : Int32 × Sg} (h : f_X6_wouldControl x1 x2 σ = some r) : CI yX6_wouldControl cX6_wouldControl 3 (some .boolean) 4 101 (fun ad => [.ref (ad 0), .int x1, .int x2]) σ r.1 r.2 :=
  CZ.of (by decide) (fun _ => Nat.le_of_ble_eq_true rfl) (fun X K hR hr => w_X6_wouldControl K hR h hr)
def L_X6_fewestToSell_26 (x1 : Int32) (x2 : Int32) (x3 : Int32) : Nat → Int32 → Sg → Option ((Int32 × Sg) ⊕ (Int32 × Sg))
  | 0, _, _ => none
  | n + 1, x4, σ =>
    if x3 < x4 then
    (some (.inr (x4, σ)))
    else
    (Option.bind (f_X6_wouldControl x1 x2 σ) (fun q2 =>
    if q2.1 = 0 then
    (some (.inl (x4, q2.2)))
    else
    (if inb x2 5 then
    (Option.bind (f_X2_move (46 + 1 + x2.toNatClampNeg) x1 9 1 q2.2) (fun q6 =>
    L_X6_fewestToSell_26 x1 x2 x3 n (x4 + 1) q6.2))
    else none)))
set_option maxRecDepth 20000 in
set_option maxHeartbeats 4000000 in
theorem l_X6_fewestToSell_26 {X : Ctx} (K : Cok X cX6_fewestToSell 5 RX6) (hR : 5 ≤ X.R.frames ∧ 123 ≤ X.R.locals) {res : Int32 × Sg} (hr : RI X cX6_fewestToSell 5 res) {x1 : Int32} {x2 : Int32} {x3 : Int32}  :
    ∀ (n : Nat) (x4 : Int32) (σ : Sg) (o : ((Int32 × Sg) ⊕ (Int32 × Sg))), L_X6_fewestToSell_26 x1 x2 x3 n x4 σ = some o → (∀ q, o = .inl q → q = res) → (∀ q, o = .inr q → G X 5 67 [(0, .ref (X.ad 0)), (1, .int x1), (2, .int x2), (3, .int x3), (4, .int q.1)] [] q.2) → G X 5 26 [(0, .ref (X.ad 0)), (1, .int x1), (2, .int x2), (3, .int x3), (4, .int x4)] [] σ := by
  intro n
  induction n with
  | zero => intro x4 σ o h; exact absurd h (by unfold L_X6_fewestToSell_26; intro h; cases h)
  | succ n ih =>
    intro x4 σ o h hret hexit
    unfold L_X6_fewestToSell_26 at h
    refine g_iload K 4 dX6_fewestToSell_26 rfl ?_
    refine g_iload_n K 3 dX6_fewestToSell_28 rfl rfl ?_
    refine g_icmp_gt (tgt := 67) K dX6_fewestToSell_29 (by decide) (fun c1 => ?_) (fun c1 => ?_)
    · replace h := bp c1 h
      refine g_sub [0, 1, 2, 3, 4] rfl ?_
      exact hexit _ (Option.some.inj h).symm
    · replace h := bn c1 h
      refine g_aload_n K 0 dX6_fewestToSell_32 rfl rfl ?_
      refine g_iload_n K 1 dX6_fewestToSell_33 rfl rfl ?_
      refine g_iload_n K 2 dX6_fewestToSell_34 rfl rfl ?_
      obtain ⟨q2, e3, h⟩ := ob h
      refine g_cvi (As := [.int x1, .int x2]) (rest := []) K (m_X6_wouldControl e3) yv_X6_wouldControl ml_X6_301 rfl rfl rfl (e_ControlRegister kd_0) ltN_0 rfl rfl ⟨Nat.le_trans (Nat.le_of_ble_eq_true rfl) hR.1, Nat.le_trans (Nat.le_of_ble_eq_true rfl) hR.2⟩ (Nat.le_of_ble_eq_true rfl) dX6_fewestToSell_35 ?_
      refine g_if_ne (tgt := 44) K dX6_fewestToSell_38 (by decide) (fun c4 => ?_) (fun c4 => ?_)
      · replace h := bn c4 h
        refine g_aload_n K 0 dX6_fewestToSell_44 rfl rfl ?_
        refine g_get (v := .ref (X.ad 39)) K (e_ControlRegister kd_0) ltN_0 rfl 11 (by decide) rfl fw_X6_57 u_X6 dX6_fewestToSell_45 ?_
        refine g_get (v := .ref (X.ad 46)) K (e_Holdings kd_39) ltN_39 rfl 1 (by decide) rfl fw_X6_153 u_X2 dX6_fewestToSell_48 ?_
        refine g_iload_n K 2 dX6_fewestToSell_51 rfl rfl ?_
        obtain ⟨g5, h⟩ := og h
        refine g_aaldI K kd_46 ltN_46 g5 dX6_fewestToSell_52 ?_
        refine g_iload_n K 1 dX6_fewestToSell_53 rfl rfl ?_
        refine g_bipush (v := 9) K dX6_fewestToSell_54 bp_9 ?_
        refine g_iconst (v := 1) K dX6_fewestToSell_56 ic_1 ?_
        obtain ⟨q6, e7, h⟩ := ob h
        refine g_csi (As := [.ref (X.ad (46 + 1 + x2.toNatClampNeg)), .int x1, .int 9, .int 1]) (rest := []) K (m_X2_move (hd_r7 is_39 g5) (hd_s7 is_39 g5) e7) yv_X2_move ml_X6_304 rfl rfl rfl ⟨Nat.le_trans (Nat.le_of_ble_eq_true rfl) hR.1, Nat.le_trans (Nat.le_of_ble_eq_true rfl) hR.2⟩ (Nat.le_of_ble_eq_true rfl) dX6_fewestToSell_57 ?_
        refine g_pop K dX6_fewestToSell_60 rfl ?_
        refine g_iinc (lv' := [(4, .int (x4 + 1)), (0, .ref (X.ad 0)), (1, .int x1), (2, .int x2), (3, .int x3)]) K 4 dX6_fewestToSell_61 rfl (by rw [ic_1]) (by decide) rfl ?_
        refine g_goto (tgt := 26) K dX6_fewestToSell_64 (by decide) ?_
        refine g_sub [1, 2, 3, 4, 0] rfl ?_
        exact ih _ _ _ h hret hexit
      · replace h := bp c4 h
        refine g_iload K 4 dX6_fewestToSell_41 rfl ?_
        exact hr _ _ _ _ dX6_fewestToSell_43 (hret _ (Option.some.inj h).symm)
def f_X6_fewestToSell (x1 : Int32) (x2 : Int32) (σ : Sg) : Option (Int32 × Sg) :=
  if inb x2 5 then
  (if inb x1 10 then
  (Option.bind (f_X2_copyFrom 39 25 σ) (fun q3 =>
  Option.bind (L_X6_fewestToSell_26 x1 x2 (σ.1 (32 + 1 + x2.toNatClampNeg) x1.toNatClampNeg) FU 0 q3) (fun o5 => Sum.elim (fun x => some x) (fun o5 =>
  some ((-6), o5.2)) o5)))
  else none)
  else none
set_option maxRecDepth 20000 in
set_option maxHeartbeats 4000000 in
theorem w_X6_fewestToSell {X : Ctx} (K : Cok X cX6_fewestToSell 5 RX6) (hR : 5 ≤ X.R.frames ∧ 123 ≤ X.R.locals) {x1 : Int32} {x2 : Int32} {σ : Sg}  {r : Int32 × Sg} (h : f_X6_fewestToSell x1 x2 σ = some r) (hr : RI X cX6_fewestToSell 5 r) : G X 5 0 [(0, .ref (X.ad 0)), (1, .int x1), (2, .int x2)] [] σ := by
  unfold f_X6_fewestToSell at h
  refine g_aload_n K 0 dX6_fewestToSell_0 rfl rfl ?_
  refine g_get (v := .ref (X.ad 25)) K (e_ControlRegister kd_0) ltN_0 rfl 4 (by decide) rfl fw_X6_25 u_X6 dX6_fewestToSell_1 ?_
  refine g_get (v := .ref (X.ad 32)) K (e_Holdings kd_25) ltN_25 rfl 1 (by decide) rfl fw_X6_153 u_X2 dX6_fewestToSell_4 ?_
  refine g_iload_n K 2 dX6_fewestToSell_7 rfl rfl ?_
  obtain ⟨g1, h⟩ := og h
  refine g_aaldI K kd_32 ltN_32 g1 dX6_fewestToSell_8 ?_
  refine g_iload_n K 1 dX6_fewestToSell_9 rfl rfl ?_
  obtain ⟨g2, h⟩ := og h
  refine g_iald K (hd_r7 is_25 g1) (hd_s7 is_25 g1) g2 dX6_fewestToSell_10 ?_
  refine g_istore_n (lv' := [(3, .int (σ.1 (32 + 1 + x2.toNatClampNeg) x1.toNatClampNeg)), (0, .ref (X.ad 0)), (1, .int x1), (2, .int x2)]) K dX6_fewestToSell_11 rfl (by decide) rfl ?_
  refine g_aload_n K 1 dX6_fewestToSell_12 rfl rfl ?_
  refine g_get (v := .ref (X.ad 39)) K (e_ControlRegister kd_0) ltN_0 rfl 11 (by decide) rfl fw_X6_57 u_X6 dX6_fewestToSell_13 ?_
  refine g_aload_n K 1 dX6_fewestToSell_16 rfl rfl ?_
  refine g_get (v := .ref (X.ad 25)) K (e_ControlRegister kd_0) ltN_0 rfl 4 (by decide) rfl fw_X6_25 u_X6 dX6_fewestToSell_17 ?_
  obtain ⟨q3, e4, h⟩ := ob h
  refine g_cvv (As := [.ref (X.ad 25)]) (rest := []) K (m_X2_copyFrom is_39 is_25 e4) yv_X2_copyFrom ml_X6_299 rfl rfl rfl (e_Holdings kd_39) ltN_39 rfl rfl ⟨Nat.le_trans (Nat.le_of_ble_eq_true rfl) hR.1, Nat.le_trans (Nat.le_of_ble_eq_true rfl) hR.2⟩ (Nat.le_of_ble_eq_true rfl) dX6_fewestToSell_20 ?_
  refine g_iconst (v := 0) K dX6_fewestToSell_23 ic_0 ?_
  refine g_istore (lv' := [(4, .int 0), (3, .int (σ.1 (32 + 1 + x2.toNatClampNeg) x1.toNatClampNeg)), (0, .ref (X.ad 0)), (1, .int x1), (2, .int x2)]) K dX6_fewestToSell_24 (by decide) rfl ?_
  obtain ⟨o5, e6, h⟩ := ob h
  refine g_sub [2, 3, 4, 1, 0] rfl ?_
  refine l_X6_fewestToSell_26 K hR hr _ _ _ _ e6 (fun x hx => ?_) (fun o5 hx => ?_)
  · subst hx
    exact rt2 h
  · subst hx
    dsimp only [Sum.elim_inr] at h
    refine g_bipush (v := (-6)) K dX6_fewestToSell_67 bp_m6 ?_
    exact hr _ _ _ _ dX6_fewestToSell_69 (rt2 h)
theorem m_X6_fewestToSell {x1 : Int32} {x2 : Int32} {σ : Sg}  {r : Int32 × Sg} (h : f_X6_fewestToSell x1 x2 σ = some r) : CI yX6_fewestToSell cX6_fewestToSell 5 (some .int) 5 123 (fun ad => [.ref (ad 0), .int x1, .int x2]) σ r.1 r.2 :=
  CI.of (by decide) (fun _ => Nat.le_of_ble_eq_true rfl) (fun X K hR hr => w_X6_fewestToSell K hR h hr)
def L_X6_fewestToBuy_39 (x1 : Int32) (x2 : Int32) (x3 : Int32) : Nat → Int32 → Sg → Option ((Int32 × Sg) ⊕ (Int32 × Sg))
  | 0, _, _ => none
  | n + 1, x4, σ =>
    if x3 < x4 then
    (some (.inr (x4, σ)))
    else
    (Option.bind (f_X6_wouldControl x1 x2 σ) (fun q2 =>
    if q2.1 = 0 then
    (if inb x2 5 then
    (Option.bind (f_X2_move (46 + 1 + x2.toNatClampNeg) 9 x1 1 q2.2) (fun q6 =>
    L_X6_fewestToBuy_39 x1 x2 x3 n (x4 + 1) q6.2))
    else none)
    else
    (some (.inl (x4, q2.2)))))
set_option maxRecDepth 20000 in
set_option maxHeartbeats 4000000 in
theorem l_X6_fewestToBuy_39 {X : Ctx} (K : Cok X cX6_fewestToBuy 5 RX6) (hR : 5 ≤ X.R.frames ∧ 123 ≤ X.R.locals) {res : Int32 × Sg} (hr : RI X cX6_fewestToBuy 5 res) {x1 : Int32} {x2 : Int32} {x3 : Int32}  :
    ∀ (n : Nat) (x4 : Int32) (σ : Sg) (o : ((Int32 × Sg) ⊕ (Int32 × Sg))), L_X6_fewestToBuy_39 x1 x2 x3 n x4 σ = some o → (∀ q, o = .inl q → q = res) → (∀ q, o = .inr q → G X 5 80 [(0, .ref (X.ad 0)), (1, .int x1), (2, .int x2), (3, .int x3), (4, .int q.1)] [] q.2) → G X 5 39 [(0, .ref (X.ad 0)), (1, .int x1), (2, .int x2), (3, .int x3), (4, .int x4)] [] σ := by
  intro n
  induction n with
  | zero => intro x4 σ o h; exact absurd h (by unfold L_X6_fewestToBuy_39; intro h; cases h)
  | succ n ih =>
    intro x4 σ o h hret hexit
    unfold L_X6_fewestToBuy_39 at h
    refine g_iload K 4 dX6_fewestToBuy_39 rfl ?_
    refine g_iload_n K 3 dX6_fewestToBuy_41 rfl rfl ?_
    refine g_icmp_gt (tgt := 80) K dX6_fewestToBuy_42 (by decide) (fun c1 => ?_) (fun c1 => ?_)
    · replace h := bp c1 h
      refine g_sub [0, 1, 2, 3, 4] rfl ?_
      exact hexit _ (Option.some.inj h).symm
    · replace h := bn c1 h
      refine g_aload_n K 0 dX6_fewestToBuy_45 rfl rfl ?_
      refine g_iload_n K 1 dX6_fewestToBuy_46 rfl rfl ?_
      refine g_iload_n K 2 dX6_fewestToBuy_47 rfl rfl ?_
      obtain ⟨q2, e3, h⟩ := ob h
      refine g_cvi (As := [.int x1, .int x2]) (rest := []) K (m_X6_wouldControl e3) yv_X6_wouldControl ml_X6_301 rfl rfl rfl (e_ControlRegister kd_0) ltN_0 rfl rfl ⟨Nat.le_trans (Nat.le_of_ble_eq_true rfl) hR.1, Nat.le_trans (Nat.le_of_ble_eq_true rfl) hR.2⟩ (Nat.le_of_ble_eq_true rfl) dX6_fewestToBuy_48 ?_
      refine g_if_eq (tgt := 57) K dX6_fewestToBuy_51 (by decide) (fun c4 => ?_) (fun c4 => ?_)
      · replace h := bp c4 h
        refine g_aload_n K 0 dX6_fewestToBuy_57 rfl rfl ?_
        refine g_get (v := .ref (X.ad 39)) K (e_ControlRegister kd_0) ltN_0 rfl 11 (by decide) rfl fw_X6_57 u_X6 dX6_fewestToBuy_58 ?_
        refine g_get (v := .ref (X.ad 46)) K (e_Holdings kd_39) ltN_39 rfl 1 (by decide) rfl fw_X6_153 u_X2 dX6_fewestToBuy_61 ?_
        refine g_iload_n K 2 dX6_fewestToBuy_64 rfl rfl ?_
        obtain ⟨g5, h⟩ := og h
        refine g_aaldI K kd_46 ltN_46 g5 dX6_fewestToBuy_65 ?_
        refine g_bipush (v := 9) K dX6_fewestToBuy_66 bp_9 ?_
        refine g_iload_n K 1 dX6_fewestToBuy_68 rfl rfl ?_
        refine g_iconst (v := 1) K dX6_fewestToBuy_69 ic_1 ?_
        obtain ⟨q6, e7, h⟩ := ob h
        refine g_csi (As := [.ref (X.ad (46 + 1 + x2.toNatClampNeg)), .int 9, .int x1, .int 1]) (rest := []) K (m_X2_move (hd_r7 is_39 g5) (hd_s7 is_39 g5) e7) yv_X2_move ml_X6_304 rfl rfl rfl ⟨Nat.le_trans (Nat.le_of_ble_eq_true rfl) hR.1, Nat.le_trans (Nat.le_of_ble_eq_true rfl) hR.2⟩ (Nat.le_of_ble_eq_true rfl) dX6_fewestToBuy_70 ?_
        refine g_pop K dX6_fewestToBuy_73 rfl ?_
        refine g_iinc (lv' := [(4, .int (x4 + 1)), (0, .ref (X.ad 0)), (1, .int x1), (2, .int x2), (3, .int x3)]) K 4 dX6_fewestToBuy_74 rfl (by rw [ic_1]) (by decide) rfl ?_
        refine g_goto (tgt := 39) K dX6_fewestToBuy_77 (by decide) ?_
        refine g_sub [1, 2, 3, 4, 0] rfl ?_
        exact ih _ _ _ h hret hexit
      · replace h := bn c4 h
        refine g_iload K 4 dX6_fewestToBuy_54 rfl ?_
        exact hr _ _ _ _ dX6_fewestToBuy_56 (hret _ (Option.some.inj h).symm)
def f_X6_fewestToBuy (x1 : Int32) (x2 : Int32) (σ : Sg) : Option (Int32 × Sg) :=
  Option.bind (if x1 = (f_X6_holderOf x2) then (some 0) else (if inb x2 5 then (if inb 9 10 then (some (σ.1 (32 + 1 + x2.toNatClampNeg) (9 : Int32).toNatClampNeg)) else none) else none) : Option Int32) (fun v5 =>
  Option.bind (f_X2_copyFrom 39 25 σ) (fun q9 =>
  Option.bind (L_X6_fewestToBuy_39 x1 x2 v5 FU 0 q9) (fun o11 => Sum.elim (fun x => some x) (fun o11 =>
  some ((-6), o11.2)) o11)))
set_option maxRecDepth 20000 in
set_option maxHeartbeats 4000000 in
theorem w_X6_fewestToBuy {X : Ctx} (K : Cok X cX6_fewestToBuy 5 RX6) (hR : 5 ≤ X.R.frames ∧ 123 ≤ X.R.locals) {x1 : Int32} {x2 : Int32} {σ : Sg}  {r : Int32 × Sg} (h : f_X6_fewestToBuy x1 x2 σ = some r) (hr : RI X cX6_fewestToBuy 5 r) : G X 5 0 [(0, .ref (X.ad 0)), (1, .int x1), (2, .int x2)] [] σ := by
  unfold f_X6_fewestToBuy at h
  refine g_iload_n K 1 dX6_fewestToBuy_0 rfl rfl ?_
  refine g_iload_n K 2 dX6_fewestToBuy_1 rfl rfl ?_
  refine g_csi (As := [.int x2]) (rest := [.int x1]) K (m_X6_holderOf x2 σ) yv_X6_holderOf ml_X6_187 rfl rfl rfl ⟨Nat.le_trans (Nat.le_of_ble_eq_true rfl) hR.1, Nat.le_trans (Nat.le_of_ble_eq_true rfl) hR.2⟩ (Nat.le_of_ble_eq_true rfl) dX6_fewestToBuy_2 ?_
  refine bd_cut h (P := (fun v5 => G X 5 24 [(0, .ref (X.ad 0)), (1, .int x1), (2, .int x2)] [.int v5] σ)) (fun v5 h => ?_) (fun tail_4 => ?_)
  · refine g_istore_n (lv' := [(3, .int v5), (0, .ref (X.ad 0)), (1, .int x1), (2, .int x2)]) K dX6_fewestToBuy_24 rfl (by decide) rfl ?_
    refine g_aload_n K 1 dX6_fewestToBuy_25 rfl rfl ?_
    refine g_get (v := .ref (X.ad 39)) K (e_ControlRegister kd_0) ltN_0 rfl 11 (by decide) rfl fw_X6_57 u_X6 dX6_fewestToBuy_26 ?_
    refine g_aload_n K 1 dX6_fewestToBuy_29 rfl rfl ?_
    refine g_get (v := .ref (X.ad 25)) K (e_ControlRegister kd_0) ltN_0 rfl 4 (by decide) rfl fw_X6_25 u_X6 dX6_fewestToBuy_30 ?_
    obtain ⟨q9, e10, h⟩ := ob h
    refine g_cvv (As := [.ref (X.ad 25)]) (rest := []) K (m_X2_copyFrom is_39 is_25 e10) yv_X2_copyFrom ml_X6_299 rfl rfl rfl (e_Holdings kd_39) ltN_39 rfl rfl ⟨Nat.le_trans (Nat.le_of_ble_eq_true rfl) hR.1, Nat.le_trans (Nat.le_of_ble_eq_true rfl) hR.2⟩ (Nat.le_of_ble_eq_true rfl) dX6_fewestToBuy_33 ?_
    refine g_iconst (v := 0) K dX6_fewestToBuy_36 ic_0 ?_
    refine g_istore (lv' := [(4, .int 0), (3, .int v5), (0, .ref (X.ad 0)), (1, .int x1), (2, .int x2)]) K dX6_fewestToBuy_37 (by decide) rfl ?_
    obtain ⟨o11, e12, h⟩ := ob h
    refine g_sub [2, 3, 4, 1, 0] rfl ?_
    refine l_X6_fewestToBuy_39 K hR hr _ _ _ _ e12 (fun x hx => ?_) (fun o11 hx => ?_)
    · subst hx
      exact rt2 h
    · subst hx
      dsimp only [Sum.elim_inr] at h
      refine g_bipush (v := (-6)) K dX6_fewestToBuy_80 bp_m6 ?_
      exact hr _ _ _ _ dX6_fewestToBuy_82 (rt2 h)
  · refine g_icmp_ne (tgt := 12) K dX6_fewestToBuy_5 (by decide) (fun c6 => ?_) (fun c6 => ?_)
    · replace h := jbn c6 h
      refine g_aload_n K 0 dX6_fewestToBuy_12 rfl rfl ?_
      refine g_get (v := .ref (X.ad 25)) K (e_ControlRegister kd_0) ltN_0 rfl 4 (by decide) rfl fw_X6_25 u_X6 dX6_fewestToBuy_13 ?_
      refine g_get (v := .ref (X.ad 32)) K (e_Holdings kd_25) ltN_25 rfl 1 (by decide) rfl fw_X6_153 u_X2 dX6_fewestToBuy_16 ?_
      refine g_iload_n K 2 dX6_fewestToBuy_19 rfl rfl ?_
      obtain ⟨g7, h⟩ := ogb h
      refine g_aaldI K kd_32 ltN_32 g7 dX6_fewestToBuy_20 ?_
      refine g_bipush (v := 9) K dX6_fewestToBuy_21 bp_9 ?_
      obtain ⟨g8, h⟩ := ogb h
      refine g_iald K (hd_r7 is_25 g7) (hd_s7 is_25 g7) g8 dX6_fewestToBuy_23 ?_
      exact tail_4 _ h
    · replace h := jbp c6 h
      refine g_iconst (v := 0) K dX6_fewestToBuy_8 ic_0 ?_
      refine g_goto (tgt := 24) K dX6_fewestToBuy_9 (by decide) ?_
      exact tail_4 _ h
theorem m_X6_fewestToBuy {x1 : Int32} {x2 : Int32} {σ : Sg}  {r : Int32 × Sg} (h : f_X6_fewestToBuy x1 x2 σ = some r) : CI yX6_fewestToBuy cX6_fewestToBuy 5 (some .int) 5 123 (fun ad => [.ref (ad 0), .int x1, .int x2]) σ r.1 r.2 :=
  CI.of (by decide) (fun _ => Nat.le_of_ble_eq_true rfl) (fun X K hR hr => w_X6_fewestToBuy K hR h hr)
def f_X6_fewest (x1 : Int32) (x2 : Int32) (x3 : Int32) (σ : Sg) : Option (Int32 × Sg) :=
  if (f_X6_isController x1) = 0 then
  (some ((-1), σ))
  else
  (if (f_X6_isFirm x2) = 0 then
  (some ((-1), σ))
  else
  (if (f_X6_isYesOrNo x3) = 0 then
  (some ((-2), σ))
  else
  (Option.bind (f_X6_bringUpToDate σ) (fun q4 =>
  if x3 = 0 then
  (Option.bind (f_X6_fewestToSell x1 x2 q4) (fun q9 =>
  some (q9.1, q9.2)))
  else
  (Option.bind (f_X6_fewestToBuy x1 x2 q4) (fun q7 =>
  some (q7.1, q7.2)))))))
set_option maxRecDepth 20000 in
set_option maxHeartbeats 4000000 in
theorem w_X6_fewest {X : Ctx} (K : Cok X cX6_fewest 4 RX6) (hR : 6 ≤ X.R.frames ∧ 147 ≤ X.R.locals) {x1 : Int32} {x2 : Int32} {x3 : Int32} {σ : Sg}  {r : Int32 × Sg} (h : f_X6_fewest x1 x2 x3 σ = some r) (hr : RI X cX6_fewest 4 r) : G X 4 0 [(0, .ref (X.ad 0)), (1, .int x1), (2, .int x2), (3, .int x3)] [] σ := by
  unfold f_X6_fewest at h
  refine g_iload_n K 1 dX6_fewest_0 rfl rfl ?_
  refine g_csi (As := [.int x1]) (rest := []) K (m_X6_isController x1 σ) yv_X6_isController ml_X6_67 rfl rfl rfl ⟨Nat.le_trans (Nat.le_of_ble_eq_true rfl) hR.1, Nat.le_trans (Nat.le_of_ble_eq_true rfl) hR.2⟩ (Nat.le_of_ble_eq_true rfl) dX6_fewest_1 ?_
  refine g_if_eq (tgt := 14) K dX6_fewest_4 (by decide) (fun c1 => ?_) (fun c1 => ?_)
  · replace h := bp c1 h
    refine g_iconst (v := (-1)) K dX6_fewest_14 ic_m1 ?_
    exact hr _ _ _ _ dX6_fewest_15 (rt2 h)
  · replace h := bn c1 h
    refine g_iload_n K 2 dX6_fewest_7 rfl rfl ?_
    refine g_csi (As := [.int x2]) (rest := []) K (m_X6_isFirm x2 σ) yv_X6_isFirm ml_X6_71 rfl rfl rfl ⟨Nat.le_trans (Nat.le_of_ble_eq_true rfl) hR.1, Nat.le_trans (Nat.le_of_ble_eq_true rfl) hR.2⟩ (Nat.le_of_ble_eq_true rfl) dX6_fewest_8 ?_
    refine g_if_ne (tgt := 16) K dX6_fewest_11 (by decide) (fun c2 => ?_) (fun c2 => ?_)
    · replace h := bn c2 h
      refine g_iload_n K 3 dX6_fewest_16 rfl rfl ?_
      refine g_csi (As := [.int x3]) (rest := []) K (m_X6_isYesOrNo x3 σ) yv_X6_isYesOrNo ml_X6_77 rfl rfl rfl ⟨Nat.le_trans (Nat.le_of_ble_eq_true rfl) hR.1, Nat.le_trans (Nat.le_of_ble_eq_true rfl) hR.2⟩ (Nat.le_of_ble_eq_true rfl) dX6_fewest_17 ?_
      refine g_if_ne (tgt := 26) K dX6_fewest_20 (by decide) (fun c3 => ?_) (fun c3 => ?_)
      · replace h := bn c3 h
        refine g_aload_n K 0 dX6_fewest_26 rfl rfl ?_
        obtain ⟨q4, e5, h⟩ := ob h
        refine g_cvv (As := []) (rest := []) K (m_X6_bringUpToDate e5) yv_X6_bringUpToDate ml_X6_146 rfl rfl rfl (e_ControlRegister kd_0) ltN_0 rfl rfl ⟨Nat.le_trans (Nat.le_of_ble_eq_true rfl) hR.1, Nat.le_trans (Nat.le_of_ble_eq_true rfl) hR.2⟩ (Nat.le_of_ble_eq_true rfl) dX6_fewest_27 ?_
        refine g_iload_n K 3 dX6_fewest_30 rfl rfl ?_
        refine g_if_ne (tgt := 43) K dX6_fewest_31 (by decide) (fun c6 => ?_) (fun c6 => ?_)
        · replace h := bn c6 h
          refine g_aload_n K 0 dX6_fewest_43 rfl rfl ?_
          refine g_iload_n K 1 dX6_fewest_44 rfl rfl ?_
          refine g_iload_n K 2 dX6_fewest_45 rfl rfl ?_
          obtain ⟨q7, e8, h⟩ := ob h
          refine g_cvi (As := [.int x1, .int x2]) (rest := []) K (m_X6_fewestToBuy e8) yv_X6_fewestToBuy ml_X6_200 rfl rfl rfl (e_ControlRegister kd_0) ltN_0 rfl rfl ⟨Nat.le_trans (Nat.le_of_ble_eq_true rfl) hR.1, Nat.le_trans (Nat.le_of_ble_eq_true rfl) hR.2⟩ (Nat.le_of_ble_eq_true rfl) dX6_fewest_46 ?_
          exact hr _ _ _ _ dX6_fewest_49 (rt2 h)
        · replace h := bp c6 h
          refine g_aload_n K 0 dX6_fewest_34 rfl rfl ?_
          refine g_iload_n K 1 dX6_fewest_35 rfl rfl ?_
          refine g_iload_n K 2 dX6_fewest_36 rfl rfl ?_
          obtain ⟨q9, e10, h⟩ := ob h
          refine g_cvi (As := [.int x1, .int x2]) (rest := []) K (m_X6_fewestToSell e10) yv_X6_fewestToSell ml_X6_197 rfl rfl rfl (e_ControlRegister kd_0) ltN_0 rfl rfl ⟨Nat.le_trans (Nat.le_of_ble_eq_true rfl) hR.1, Nat.le_trans (Nat.le_of_ble_eq_true rfl) hR.2⟩ (Nat.le_of_ble_eq_true rfl) dX6_fewest_37 ?_
          refine g_goto (tgt := 49) K dX6_fewest_40 (by decide) ?_
          exact hr _ _ _ _ dX6_fewest_49 (rt2 h)
      · replace h := bp c3 h
        refine g_bipush (v := (-2)) K dX6_fewest_23 bp_m2 ?_
        exact hr _ _ _ _ dX6_fewest_25 (rt2 h)
    · replace h := bp c2 h
      refine g_iconst (v := (-1)) K dX6_fewest_14 ic_m1 ?_
      exact hr _ _ _ _ dX6_fewest_15 (rt2 h)
theorem m_X6_fewest {x1 : Int32} {x2 : Int32} {x3 : Int32} {σ : Sg}  {r : Int32 × Sg} (h : f_X6_fewest x1 x2 x3 σ = some r) : CI yX6_fewest cX6_fewest 4 (some .int) 6 147 (fun ad => [.ref (ad 0), .int x1, .int x2, .int x3]) σ r.1 r.2 :=
  CI.of (by decide) (fun _ => Nat.le_of_ble_eq_true rfl) (fun X K hR hr => w_X6_fewest K hR h hr)
def f_X6_event (x1 : Int32) (x2 : Int32) (σ : Sg) : Option (Int32 × Sg) :=
  if x2 < 0 then
  (some ((-2), σ))
  else
  (if x2 ≤ 3 then
  (Option.bind (f_X6_trace σ) (fun q3 =>
  Option.bind (f_X5_ofEvent x1 x2 q3) (fun r5 =>
  some (r5, q3))))
  else
  (some ((-2), σ)))
set_option maxRecDepth 20000 in
set_option maxHeartbeats 4000000 in
theorem w_X6_event {X : Ctx} (K : Cok X cX6_event 3 RX6) (hR : 6 ≤ X.R.frames ∧ 147 ≤ X.R.locals) {x1 : Int32} {x2 : Int32} {σ : Sg}  {r : Int32 × Sg} (h : f_X6_event x1 x2 σ = some r) (hr : RI X cX6_event 3 r) : G X 3 0 [(0, .ref (X.ad 0)), (1, .int x1), (2, .int x2)] [] σ := by
  unfold f_X6_event at h
  refine g_iload_n K 2 dX6_event_0 rfl rfl ?_
  refine g_if_lt (tgt := 9) K dX6_event_1 (by decide) (fun c1 => ?_) (fun c1 => ?_)
  · replace h := bp c1 h
    refine g_bipush (v := (-2)) K dX6_event_9 bp_m2 ?_
    exact hr _ _ _ _ dX6_event_11 (rt2 h)
  · replace h := bn c1 h
    refine g_iload_n K 2 dX6_event_4 rfl rfl ?_
    refine g_iconst (v := 3) K dX6_event_5 ic_3 ?_
    refine g_icmp_le (tgt := 12) K dX6_event_6 (by decide) (fun c2 => ?_) (fun c2 => ?_)
    · replace h := bp c2 h
      refine g_aload_n K 0 dX6_event_12 rfl rfl ?_
      obtain ⟨q3, e4, h⟩ := ob h
      refine g_cvv (As := []) (rest := []) K (m_X6_trace e4) yv_X6_trace ml_X6_190 rfl rfl rfl (e_ControlRegister kd_0) ltN_0 rfl rfl ⟨Nat.le_trans (Nat.le_of_ble_eq_true rfl) hR.1, Nat.le_trans (Nat.le_of_ble_eq_true rfl) hR.2⟩ (Nat.le_of_ble_eq_true rfl) dX6_event_13 ?_
      refine g_aload_n K 0 dX6_event_16 rfl rfl ?_
      refine g_get (v := .ref (X.ad 88)) K (e_ControlRegister kd_0) ltN_0 rfl 9 (by decide) rfl fw_X6_53 u_X6 dX6_event_17 ?_
      refine g_iload_n K 1 dX6_event_20 rfl rfl ?_
      refine g_iload_n K 2 dX6_event_21 rfl rfl ?_
      obtain ⟨r5, e6, h⟩ := ob h
      refine g_cvi (As := [.int x1, .int x2]) (rest := []) K (m_X5_ofEvent e6) yv_X5_ofEvent ml_X6_203 rfl rfl rfl (e_Timeline kd_88) ltN_88 rfl rfl ⟨Nat.le_trans (Nat.le_of_ble_eq_true rfl) hR.1, Nat.le_trans (Nat.le_of_ble_eq_true rfl) hR.2⟩ (Nat.le_of_ble_eq_true rfl) dX6_event_22 ?_
      exact hr _ _ _ _ dX6_event_25 (rt2 h)
    · replace h := bn c2 h
      refine g_bipush (v := (-2)) K dX6_event_9 bp_m2 ?_
      exact hr _ _ _ _ dX6_event_11 (rt2 h)
theorem m_X6_event {x1 : Int32} {x2 : Int32} {σ : Sg}  {r : Int32 × Sg} (h : f_X6_event x1 x2 σ = some r) : CI yX6_event cX6_event 3 (some .int) 6 147 (fun ad => [.ref (ad 0), .int x1, .int x2]) σ r.1 r.2 :=
  CI.of (by decide) (fun _ => Nat.le_of_ble_eq_true rfl) (fun X K hR hr => w_X6_event K hR h hr)
def L_X6_commonDivisor_9  : Nat → Int64 → Int64 → Int32 → Option (Int64 × Int64 × Int32)
  | 0, _, _, _ => none
  | n + 1, x4, x6, x8 =>
    if 100 ≤ x8 then
    (some (x4, x6, x8))
    else
    (if (lg_cmp x6 0) = 0 then
    (some (x4, x6, x8))
    else
    (if ¬ x6 = 0 then
    (L_X6_commonDivisor_9 n x6 (x4 - x4 / x6 * x6) (x8 + 1))
    else none))
set_option maxRecDepth 20000 in
set_option maxHeartbeats 4000000 in
theorem l_X6_commonDivisor_9 {X : Ctx} (K : Cok X cX6_commonDivisor 11 RX6) (hR : 0 ≤ X.R.frames ∧ 0 ≤ X.R.locals)  {σ : Sg}  :
    ∀ (n : Nat) (x4 : Int64) (x6 : Int64) (x8 : Int32) (o : (Int64 × Int64 × Int32)), L_X6_commonDivisor_9  n x4 x6 x8 = some o → G X 11 44 [(4, .long o.1), (6, .long o.2.1), (8, .int o.2.2)] [] σ → G X 11 9 [(4, .long x4), (6, .long x6), (8, .int x8)] [] σ := by
  intro n
  induction n with
  | zero => intro x4 x6 x8 o h; exact absurd h (by unfold L_X6_commonDivisor_9; intro h; cases h)
  | succ n ih =>
    intro x4 x6 x8 o h hexit
    unfold L_X6_commonDivisor_9 at h
    refine g_iload K 2 dX6_commonDivisor_9 rfl ?_
    refine g_bipush (v := 100) K dX6_commonDivisor_11 bp_100 ?_
    refine g_icmp_ge (tgt := 44) K dX6_commonDivisor_13 (by decide) (fun c1 => ?_) (fun c1 => ?_)
    · replace h := bp c1 h
      refine g_sub [0, 1, 2] rfl ?_
      obtain rfl := Option.some.inj h
      exact hexit
    · replace h := bn c1 h
      refine g_lload K 1 dX6_commonDivisor_16 rfl ?_
      refine g_lconst (v := 0) K dX6_commonDivisor_18 lc_0 ?_
      refine g_lcmp K dX6_commonDivisor_19 ?_
      refine g_if_eq (tgt := 44) K dX6_commonDivisor_20 (by decide) (fun c2 => ?_) (fun c2 => ?_)
      · replace h := bp c2 h
        refine g_sub [0, 1, 2] rfl ?_
        obtain rfl := Option.some.inj h
        exact hexit
      · replace h := bn c2 h
        refine g_lload K 0 dX6_commonDivisor_23 rfl ?_
        refine g_lload K 1 dX6_commonDivisor_25 rfl ?_
        obtain ⟨z3, h⟩ := og h
        refine g_lrem K dX6_commonDivisor_27 z3 ?_
        refine g_lstore (lv' := [(9, .long (x4 - x4 / x6 * x6)), (4, .long x4), (6, .long x6), (8, .int x8)]) K dX6_commonDivisor_28 (by decide) rfl ?_
        refine g_lload K 2 dX6_commonDivisor_30 rfl ?_
        refine g_lstore (lv' := [(4, .long x6), (9, .long (x4 - x4 / x6 * x6)), (6, .long x6), (8, .int x8)]) K dX6_commonDivisor_32 (by decide) rfl ?_
        refine g_lload K 1 dX6_commonDivisor_34 rfl ?_
        refine g_lstore (lv' := [(6, .long (x4 - x4 / x6 * x6)), (4, .long x6), (9, .long (x4 - x4 / x6 * x6)), (8, .int x8)]) K dX6_commonDivisor_36 (by decide) rfl ?_
        refine g_iinc (lv' := [(8, .int (x8 + 1)), (6, .long (x4 - x4 / x6 * x6)), (4, .long x6), (9, .long (x4 - x4 / x6 * x6))]) K 3 dX6_commonDivisor_38 rfl (by rw [ic_1]) (by decide) rfl ?_
        refine g_goto (tgt := 9) K dX6_commonDivisor_41 (by decide) ?_
        refine g_sub [2, 1, 0] rfl ?_
        exact ih _ _ _ _ h hexit
def f_X6_commonDivisor (x0 : Int64) (x2 : Int64) (σ : Sg) : Option Int64 :=
  Option.bind (L_X6_commonDivisor_9 FU x0 x2 0) (fun o1 =>
  some o1.1)
set_option maxRecDepth 20000 in
set_option maxHeartbeats 4000000 in
theorem w_X6_commonDivisor {X : Ctx} (K : Cok X cX6_commonDivisor 11 RX6) (hR : 0 ≤ X.R.frames ∧ 0 ≤ X.R.locals) {x0 : Int64} {x2 : Int64} {σ : Sg}  {r : Int64} (h : f_X6_commonDivisor x0 x2 σ = some r) (hr : RLg X cX6_commonDivisor 11 (r, σ)) : G X 11 0 [(0, .long x0), (2, .long x2)] [] σ := by
  unfold f_X6_commonDivisor at h
  refine g_lload_n K 0 dX6_commonDivisor_0 rfl rfl ?_
  refine g_lstore (lv' := [(4, .long x0), (0, .long x0), (2, .long x2)]) K dX6_commonDivisor_1 (by decide) rfl ?_
  refine g_lload_n K 2 dX6_commonDivisor_3 rfl rfl ?_
  refine g_lstore (lv' := [(6, .long x2), (4, .long x0), (0, .long x0), (2, .long x2)]) K dX6_commonDivisor_4 (by decide) rfl ?_
  refine g_iconst (v := 0) K dX6_commonDivisor_6 ic_0 ?_
  refine g_istore (lv' := [(8, .int 0), (6, .long x2), (4, .long x0), (0, .long x0), (2, .long x2)]) K dX6_commonDivisor_7 (by decide) rfl ?_
  obtain ⟨o1, e2, h⟩ := ob h
  refine g_sub [2, 1, 0] rfl ?_
  refine l_X6_commonDivisor_9 K hR _ _ _ _ _ e2 ?_
  refine g_lload K 0 dX6_commonDivisor_44 rfl ?_
  exact hr _ _ _ _ dX6_commonDivisor_46 (rt1 h)
theorem m_X6_commonDivisor {x0 : Int64} {x2 : Int64} {σ : Sg}  {r : Int64} (h : f_X6_commonDivisor x0 x2 σ = some r) : CL yX6_commonDivisor cX6_commonDivisor 11 (some .long) 0 0 (fun ad => [.long x0, .long x2]) σ r σ :=
  CL.of (by decide) (fun _ => Nat.le_of_ble_eq_true rfl) (fun X K hR hr => w_X6_commonDivisor K hR h hr)
def f_X6_inLowestTerms (x0 : Int64) (x2 : Int64) (x4 : Int32) (σ : Sg) : Option Int64 :=
  Option.bind (f_X6_commonDivisor x0 x2 σ) (fun r1 =>
  if (lg_cmp r1 0) = 0 then
  (some (Int32.toInt64 x4))
  else
  (jn (if x4 = 0 then (x0) else (x2) : Int64) (fun v6 =>
  if ¬ r1 = 0 then
  (some (v6 / r1))
  else none)))
set_option maxRecDepth 20000 in
set_option maxHeartbeats 4000000 in
theorem w_X6_inLowestTerms {X : Ctx} (K : Cok X cX6_inLowestTerms 7 RX6) (hR : 1 ≤ X.R.frames ∧ 30 ≤ X.R.locals) {x0 : Int64} {x2 : Int64} {x4 : Int32} {σ : Sg}  {r : Int64} (h : f_X6_inLowestTerms x0 x2 x4 σ = some r) (hr : RLg X cX6_inLowestTerms 7 (r, σ)) : G X 7 0 [(0, .long x0), (2, .long x2), (4, .int x4)] [] σ := by
  unfold f_X6_inLowestTerms at h
  refine g_lload_n K 0 dX6_inLowestTerms_0 rfl rfl ?_
  refine g_lload_n K 1 dX6_inLowestTerms_1 rfl rfl ?_
  obtain ⟨r1, e2, h⟩ := ob h
  refine g_csl (As := [.long x0, .long x2]) (rest := []) K (m_X6_commonDivisor e2) yv_X6_commonDivisor ml_X6_311 rfl rfl rfl ⟨Nat.le_trans (Nat.le_of_ble_eq_true rfl) hR.1, Nat.le_trans (Nat.le_of_ble_eq_true rfl) hR.2⟩ (Nat.le_of_ble_eq_true rfl) dX6_inLowestTerms_2 ?_
  refine g_lstore (lv' := [(5, .long r1), (0, .long x0), (2, .long x2), (4, .int x4)]) K dX6_inLowestTerms_5 (by decide) rfl ?_
  refine g_lload K 0 dX6_inLowestTerms_7 rfl ?_
  refine g_lconst (v := 0) K dX6_inLowestTerms_9 lc_0 ?_
  refine g_lcmp K dX6_inLowestTerms_10 ?_
  refine g_if_ne (tgt := 18) K dX6_inLowestTerms_11 (by decide) (fun c3 => ?_) (fun c3 => ?_)
  · replace h := bn c3 h
    refine g_iload K 3 dX6_inLowestTerms_18 rfl ?_
    refine jn_cut h (P := (fun v6 => G X 7 28 [(5, .long r1), (0, .long x0), (2, .long x2), (4, .int x4)] [.long v6] σ)) (fun v6 h => ?_) (fun tail_5 => ?_)
    · refine g_lload K 0 dX6_inLowestTerms_28 rfl ?_
      obtain ⟨z8, h⟩ := og h
      refine g_ldiv K dX6_inLowestTerms_30 z8 ?_
      exact hr _ _ _ _ dX6_inLowestTerms_31 (rt1 h)
    · refine g_if_ne (tgt := 27) K dX6_inLowestTerms_20 (by decide) (fun c7 => ?_) (fun c7 => ?_)
      · replace h := jpn c7 h
        refine g_lload_n K 2 dX6_inLowestTerms_27 rfl rfl ?_
        exact tail_5 _ h
      · replace h := jpp c7 h
        refine g_lload_n K 1 dX6_inLowestTerms_23 rfl rfl ?_
        refine g_goto (tgt := 28) K dX6_inLowestTerms_24 (by decide) ?_
        exact tail_5 _ h
  · replace h := bp c3 h
    refine g_iload K 3 dX6_inLowestTerms_14 rfl ?_
    refine g_i2l K dX6_inLowestTerms_16 ?_
    exact hr _ _ _ _ dX6_inLowestTerms_17 (rt1 h)
theorem m_X6_inLowestTerms {x0 : Int64} {x2 : Int64} {x4 : Int32} {σ : Sg}  {r : Int64} (h : f_X6_inLowestTerms x0 x2 x4 σ = some r) : CL yX6_inLowestTerms cX6_inLowestTerms 7 (some .long) 1 30 (fun ad => [.long x0, .long x2, .int x4]) σ r σ :=
  CL.of (by decide) (fun _ => Nat.le_of_ble_eq_true rfl) (fun X K hR hr => w_X6_inLowestTerms K hR h hr)
def f_X6_stake (x1 : Int32) (x2 : Int32) (x3 : Int32) (σ : Sg) : Option (Int64 × Sg) :=
  if (f_X6_isPerson x1) = 0 then
  (if x1 = 9 then
  (if (f_X6_isFirm x2) = 0 then
  (some ((-1), σ))
  else
  (if (f_X6_isYesOrNo x3) = 0 then
  (some ((-2), σ))
  else
  (Option.bind (f_X6_bringUpToDate σ) (fun q19 =>
  jn (if x1 = 9 then (4) else (x1) : Int32) (fun v23 =>
  Option.bind (f_X4_upper x2 v23 q19) (fun r25 =>
  Option.bind (f_X4_lower x2 q19) (fun r27 =>
  Option.bind (f_X6_inLowestTerms r25 r27 x3 q19) (fun r29 =>
  some (r29, q19)))))))))
  else
  (some ((-1), σ)))
  else
  (if (f_X6_isFirm x2) = 0 then
  (some ((-1), σ))
  else
  (if (f_X6_isYesOrNo x3) = 0 then
  (some ((-2), σ))
  else
  (Option.bind (f_X6_bringUpToDate σ) (fun q4 =>
  jn (if x1 = 9 then (4) else (x1) : Int32) (fun v8 =>
  Option.bind (f_X4_upper x2 v8 q4) (fun r10 =>
  Option.bind (f_X4_lower x2 q4) (fun r12 =>
  Option.bind (f_X6_inLowestTerms r10 r12 x3 q4) (fun r14 =>
  some (r14, q4)))))))))
set_option maxRecDepth 20000 in
set_option maxHeartbeats 4000000 in
theorem w_X6_stake {X : Ctx} (K : Cok X cX6_stake 5 RX6) (hR : 6 ≤ X.R.frames ∧ 146 ≤ X.R.locals) {x1 : Int32} {x2 : Int32} {x3 : Int32} {σ : Sg}  {r : Int64 × Sg} (h : f_X6_stake x1 x2 x3 σ = some r) (hr : RLg X cX6_stake 5 r) : G X 5 0 [(0, .ref (X.ad 0)), (1, .int x1), (2, .int x2), (3, .int x3)] [] σ := by
  unfold f_X6_stake at h
  refine g_iload_n K 1 dX6_stake_0 rfl rfl ?_
  refine g_csi (As := [.int x1]) (rest := []) K (m_X6_isPerson x1 σ) yv_X6_isPerson ml_X6_206 rfl rfl rfl ⟨Nat.le_trans (Nat.le_of_ble_eq_true rfl) hR.1, Nat.le_trans (Nat.le_of_ble_eq_true rfl) hR.2⟩ (Nat.le_of_ble_eq_true rfl) dX6_stake_1 ?_
  refine g_if_ne (tgt := 13) K dX6_stake_4 (by decide) (fun c1 => ?_) (fun c1 => ?_)
  · replace h := bn c1 h
    refine g_iload_n K 2 dX6_stake_13 rfl rfl ?_
    refine g_csi (As := [.int x2]) (rest := []) K (m_X6_isFirm x2 σ) yv_X6_isFirm ml_X6_71 rfl rfl rfl ⟨Nat.le_trans (Nat.le_of_ble_eq_true rfl) hR.1, Nat.le_trans (Nat.le_of_ble_eq_true rfl) hR.2⟩ (Nat.le_of_ble_eq_true rfl) dX6_stake_14 ?_
    refine g_if_ne (tgt := 24) K dX6_stake_17 (by decide) (fun c2 => ?_) (fun c2 => ?_)
    · replace h := bn c2 h
      refine g_iload_n K 3 dX6_stake_24 rfl rfl ?_
      refine g_csi (As := [.int x3]) (rest := []) K (m_X6_isYesOrNo x3 σ) yv_X6_isYesOrNo ml_X6_77 rfl rfl rfl ⟨Nat.le_trans (Nat.le_of_ble_eq_true rfl) hR.1, Nat.le_trans (Nat.le_of_ble_eq_true rfl) hR.2⟩ (Nat.le_of_ble_eq_true rfl) dX6_stake_25 ?_
      refine g_if_ne (tgt := 35) K dX6_stake_28 (by decide) (fun c3 => ?_) (fun c3 => ?_)
      · replace h := bn c3 h
        refine g_aload_n K 0 dX6_stake_35 rfl rfl ?_
        obtain ⟨q4, e5, h⟩ := ob h
        refine g_cvv (As := []) (rest := []) K (m_X6_bringUpToDate e5) yv_X6_bringUpToDate ml_X6_146 rfl rfl rfl (e_ControlRegister kd_0) ltN_0 rfl rfl ⟨Nat.le_trans (Nat.le_of_ble_eq_true rfl) hR.1, Nat.le_trans (Nat.le_of_ble_eq_true rfl) hR.2⟩ (Nat.le_of_ble_eq_true rfl) dX6_stake_36 ?_
        refine g_iload_n K 1 dX6_stake_39 rfl rfl ?_
        refine g_bipush (v := 9) K dX6_stake_40 bp_9 ?_
        refine jn_cut h (P := (fun v8 => G X 5 50 [(0, .ref (X.ad 0)), (1, .int x1), (2, .int x2), (3, .int x3)] [.int v8] q4)) (fun v8 h => ?_) (fun tail_7 => ?_)
        · refine g_istore (lv' := [(4, .int v8), (0, .ref (X.ad 0)), (1, .int x1), (2, .int x2), (3, .int x3)]) K dX6_stake_50 (by decide) rfl ?_
          refine g_aload_n K 1 dX6_stake_52 rfl rfl ?_
          refine g_get (v := .ref (X.ad 79)) K (e_ControlRegister kd_0) ltN_0 rfl 6 (by decide) rfl fw_X6_39 u_X6 dX6_stake_53 ?_
          refine g_iload_n K 3 dX6_stake_56 rfl rfl ?_
          refine g_iload K 0 dX6_stake_57 rfl ?_
          obtain ⟨r10, e11, h⟩ := ob h
          refine g_cvl (As := [.int x2, .int v8]) (rest := []) K (m_X4_upper e11) yv_X4_upper ml_X6_213 rfl rfl rfl (e_Stakes kd_79) ltN_79 rfl rfl ⟨Nat.le_trans (Nat.le_of_ble_eq_true rfl) hR.1, Nat.le_trans (Nat.le_of_ble_eq_true rfl) hR.2⟩ (Nat.le_of_ble_eq_true rfl) dX6_stake_59 ?_
          refine g_aload_n K 1 dX6_stake_62 rfl rfl ?_
          refine g_get (v := .ref (X.ad 79)) K (e_ControlRegister kd_0) ltN_0 rfl 6 (by decide) rfl fw_X6_39 u_X6 dX6_stake_63 ?_
          refine g_iload_n K 3 dX6_stake_66 rfl rfl ?_
          obtain ⟨r12, e13, h⟩ := ob h
          refine g_cvl (As := [.int x2]) (rest := [.long r10]) K (m_X4_lower e13) yv_X4_lower ml_X6_217 rfl rfl rfl (e_Stakes kd_79) ltN_79 rfl rfl ⟨Nat.le_trans (Nat.le_of_ble_eq_true rfl) hR.1, Nat.le_trans (Nat.le_of_ble_eq_true rfl) hR.2⟩ (Nat.le_of_ble_eq_true rfl) dX6_stake_67 ?_
          refine g_iload_n K 4 dX6_stake_70 rfl rfl ?_
          obtain ⟨r14, e15, h⟩ := ob h
          refine g_csl (As := [.long r10, .long r12, .int x3]) (rest := []) K (m_X6_inLowestTerms e15) yv_X6_inLowestTerms ml_X6_221 rfl rfl rfl ⟨Nat.le_trans (Nat.le_of_ble_eq_true rfl) hR.1, Nat.le_trans (Nat.le_of_ble_eq_true rfl) hR.2⟩ (Nat.le_of_ble_eq_true rfl) dX6_stake_71 ?_
          exact hr _ _ _ _ dX6_stake_74 (rt2 h)
        · refine g_icmp_ne (tgt := 49) K dX6_stake_42 (by decide) (fun c9 => ?_) (fun c9 => ?_)
          · replace h := jpn c9 h
            refine g_iload_n K 1 dX6_stake_49 rfl rfl ?_
            exact tail_7 _ h
          · replace h := jpp c9 h
            refine g_iconst (v := 4) K dX6_stake_45 ic_4 ?_
            refine g_goto (tgt := 50) K dX6_stake_46 (by decide) ?_
            exact tail_7 _ h
      · replace h := bp c3 h
        refine g_ldc2 (v := (-2)) K cl_X6_211 dX6_stake_31 ?_
        exact hr _ _ _ _ dX6_stake_34 (rt2 h)
    · replace h := bp c2 h
      refine g_ldc2 (v := (-1)) K cl_X6_209 dX6_stake_20 ?_
      exact hr _ _ _ _ dX6_stake_23 (rt2 h)
  · replace h := bp c1 h
    refine g_iload_n K 1 dX6_stake_7 rfl rfl ?_
    refine g_bipush (v := 9) K dX6_stake_8 bp_9 ?_
    refine g_icmp_ne (tgt := 20) K dX6_stake_10 (by decide) (fun c16 => ?_) (fun c16 => ?_)
    · replace h := bn c16 h
      refine g_ldc2 (v := (-1)) K cl_X6_209 dX6_stake_20 ?_
      exact hr _ _ _ _ dX6_stake_23 (rt2 h)
    · replace h := bp c16 h
      refine g_iload_n K 2 dX6_stake_13 rfl rfl ?_
      refine g_csi (As := [.int x2]) (rest := []) K (m_X6_isFirm x2 σ) yv_X6_isFirm ml_X6_71 rfl rfl rfl ⟨Nat.le_trans (Nat.le_of_ble_eq_true rfl) hR.1, Nat.le_trans (Nat.le_of_ble_eq_true rfl) hR.2⟩ (Nat.le_of_ble_eq_true rfl) dX6_stake_14 ?_
      refine g_if_ne (tgt := 24) K dX6_stake_17 (by decide) (fun c17 => ?_) (fun c17 => ?_)
      · replace h := bn c17 h
        refine g_iload_n K 3 dX6_stake_24 rfl rfl ?_
        refine g_csi (As := [.int x3]) (rest := []) K (m_X6_isYesOrNo x3 σ) yv_X6_isYesOrNo ml_X6_77 rfl rfl rfl ⟨Nat.le_trans (Nat.le_of_ble_eq_true rfl) hR.1, Nat.le_trans (Nat.le_of_ble_eq_true rfl) hR.2⟩ (Nat.le_of_ble_eq_true rfl) dX6_stake_25 ?_
        refine g_if_ne (tgt := 35) K dX6_stake_28 (by decide) (fun c18 => ?_) (fun c18 => ?_)
        · replace h := bn c18 h
          refine g_aload_n K 0 dX6_stake_35 rfl rfl ?_
          obtain ⟨q19, e20, h⟩ := ob h
          refine g_cvv (As := []) (rest := []) K (m_X6_bringUpToDate e20) yv_X6_bringUpToDate ml_X6_146 rfl rfl rfl (e_ControlRegister kd_0) ltN_0 rfl rfl ⟨Nat.le_trans (Nat.le_of_ble_eq_true rfl) hR.1, Nat.le_trans (Nat.le_of_ble_eq_true rfl) hR.2⟩ (Nat.le_of_ble_eq_true rfl) dX6_stake_36 ?_
          refine g_iload_n K 1 dX6_stake_39 rfl rfl ?_
          refine g_bipush (v := 9) K dX6_stake_40 bp_9 ?_
          refine jn_cut h (P := (fun v23 => G X 5 50 [(0, .ref (X.ad 0)), (1, .int x1), (2, .int x2), (3, .int x3)] [.int v23] q19)) (fun v23 h => ?_) (fun tail_22 => ?_)
          · refine g_istore (lv' := [(4, .int v23), (0, .ref (X.ad 0)), (1, .int x1), (2, .int x2), (3, .int x3)]) K dX6_stake_50 (by decide) rfl ?_
            refine g_aload_n K 1 dX6_stake_52 rfl rfl ?_
            refine g_get (v := .ref (X.ad 79)) K (e_ControlRegister kd_0) ltN_0 rfl 6 (by decide) rfl fw_X6_39 u_X6 dX6_stake_53 ?_
            refine g_iload_n K 3 dX6_stake_56 rfl rfl ?_
            refine g_iload K 0 dX6_stake_57 rfl ?_
            obtain ⟨r25, e26, h⟩ := ob h
            refine g_cvl (As := [.int x2, .int v23]) (rest := []) K (m_X4_upper e26) yv_X4_upper ml_X6_213 rfl rfl rfl (e_Stakes kd_79) ltN_79 rfl rfl ⟨Nat.le_trans (Nat.le_of_ble_eq_true rfl) hR.1, Nat.le_trans (Nat.le_of_ble_eq_true rfl) hR.2⟩ (Nat.le_of_ble_eq_true rfl) dX6_stake_59 ?_
            refine g_aload_n K 1 dX6_stake_62 rfl rfl ?_
            refine g_get (v := .ref (X.ad 79)) K (e_ControlRegister kd_0) ltN_0 rfl 6 (by decide) rfl fw_X6_39 u_X6 dX6_stake_63 ?_
            refine g_iload_n K 3 dX6_stake_66 rfl rfl ?_
            obtain ⟨r27, e28, h⟩ := ob h
            refine g_cvl (As := [.int x2]) (rest := [.long r25]) K (m_X4_lower e28) yv_X4_lower ml_X6_217 rfl rfl rfl (e_Stakes kd_79) ltN_79 rfl rfl ⟨Nat.le_trans (Nat.le_of_ble_eq_true rfl) hR.1, Nat.le_trans (Nat.le_of_ble_eq_true rfl) hR.2⟩ (Nat.le_of_ble_eq_true rfl) dX6_stake_67 ?_
            refine g_iload_n K 4 dX6_stake_70 rfl rfl ?_
            obtain ⟨r29, e30, h⟩ := ob h
            refine g_csl (As := [.long r25, .long r27, .int x3]) (rest := []) K (m_X6_inLowestTerms e30) yv_X6_inLowestTerms ml_X6_221 rfl rfl rfl ⟨Nat.le_trans (Nat.le_of_ble_eq_true rfl) hR.1, Nat.le_trans (Nat.le_of_ble_eq_true rfl) hR.2⟩ (Nat.le_of_ble_eq_true rfl) dX6_stake_71 ?_
            exact hr _ _ _ _ dX6_stake_74 (rt2 h)
          · refine g_icmp_ne (tgt := 49) K dX6_stake_42 (by decide) (fun c24 => ?_) (fun c24 => ?_)
            · replace h := jpn c24 h
              refine g_iload_n K 1 dX6_stake_49 rfl rfl ?_
              exact tail_22 _ h
            · replace h := jpp c24 h
              refine g_iconst (v := 4) K dX6_stake_45 ic_4 ?_
              refine g_goto (tgt := 50) K dX6_stake_46 (by decide) ?_
              exact tail_22 _ h
        · replace h := bp c18 h
          refine g_ldc2 (v := (-2)) K cl_X6_211 dX6_stake_31 ?_
          exact hr _ _ _ _ dX6_stake_34 (rt2 h)
      · replace h := bp c17 h
        refine g_ldc2 (v := (-1)) K cl_X6_209 dX6_stake_20 ?_
        exact hr _ _ _ _ dX6_stake_23 (rt2 h)
theorem m_X6_stake {x1 : Int32} {x2 : Int32} {x3 : Int32} {σ : Sg}  {r : Int64 × Sg} (h : f_X6_stake x1 x2 x3 σ = some r) : CL yX6_stake cX6_stake 5 (some .long) 6 146 (fun ad => [.ref (ad 0), .int x1, .int x2, .int x3]) σ r.1 r.2 :=
  CL.of (by decide) (fun _ => Nat.le_of_ble_eq_true rfl) (fun X K hR hr => w_X6_stake K hR h hr)
def f_X6_nobody (x1 : Int32) (x2 : Int32) (σ : Sg) : Option (Int64 × Sg) :=
  if (f_X6_isFirm x1) = 0 then
  (some ((-1), σ))
  else
  (if (f_X6_isYesOrNo x2) = 0 then
  (some ((-2), σ))
  else
  (Option.bind (f_X6_bringUpToDate σ) (fun q3 =>
  Option.bind (f_X4_upperOfNobody x1 q3) (fun r5 =>
  Option.bind (f_X4_lower x1 q3) (fun r7 =>
  Option.bind (f_X6_inLowestTerms r5 r7 x2 q3) (fun r9 =>
  some (r9, q3)))))))
set_option maxRecDepth 20000 in
set_option maxHeartbeats 4000000 in
theorem w_X6_nobody {X : Ctx} (K : Cok X cX6_nobody 3 RX6) (hR : 6 ≤ X.R.frames ∧ 146 ≤ X.R.locals) {x1 : Int32} {x2 : Int32} {σ : Sg}  {r : Int64 × Sg} (h : f_X6_nobody x1 x2 σ = some r) (hr : RLg X cX6_nobody 3 r) : G X 3 0 [(0, .ref (X.ad 0)), (1, .int x1), (2, .int x2)] [] σ := by
  unfold f_X6_nobody at h
  refine g_iload_n K 1 dX6_nobody_0 rfl rfl ?_
  refine g_csi (As := [.int x1]) (rest := []) K (m_X6_isFirm x1 σ) yv_X6_isFirm ml_X6_71 rfl rfl rfl ⟨Nat.le_trans (Nat.le_of_ble_eq_true rfl) hR.1, Nat.le_trans (Nat.le_of_ble_eq_true rfl) hR.2⟩ (Nat.le_of_ble_eq_true rfl) dX6_nobody_1 ?_
  refine g_if_ne (tgt := 11) K dX6_nobody_4 (by decide) (fun c1 => ?_) (fun c1 => ?_)
  · replace h := bn c1 h
    refine g_iload_n K 2 dX6_nobody_11 rfl rfl ?_
    refine g_csi (As := [.int x2]) (rest := []) K (m_X6_isYesOrNo x2 σ) yv_X6_isYesOrNo ml_X6_77 rfl rfl rfl ⟨Nat.le_trans (Nat.le_of_ble_eq_true rfl) hR.1, Nat.le_trans (Nat.le_of_ble_eq_true rfl) hR.2⟩ (Nat.le_of_ble_eq_true rfl) dX6_nobody_12 ?_
    refine g_if_ne (tgt := 22) K dX6_nobody_15 (by decide) (fun c2 => ?_) (fun c2 => ?_)
    · replace h := bn c2 h
      refine g_aload_n K 0 dX6_nobody_22 rfl rfl ?_
      obtain ⟨q3, e4, h⟩ := ob h
      refine g_cvv (As := []) (rest := []) K (m_X6_bringUpToDate e4) yv_X6_bringUpToDate ml_X6_146 rfl rfl rfl (e_ControlRegister kd_0) ltN_0 rfl rfl ⟨Nat.le_trans (Nat.le_of_ble_eq_true rfl) hR.1, Nat.le_trans (Nat.le_of_ble_eq_true rfl) hR.2⟩ (Nat.le_of_ble_eq_true rfl) dX6_nobody_23 ?_
      refine g_aload_n K 0 dX6_nobody_26 rfl rfl ?_
      refine g_get (v := .ref (X.ad 79)) K (e_ControlRegister kd_0) ltN_0 rfl 6 (by decide) rfl fw_X6_39 u_X6 dX6_nobody_27 ?_
      refine g_iload_n K 1 dX6_nobody_30 rfl rfl ?_
      obtain ⟨r5, e6, h⟩ := ob h
      refine g_cvl (As := [.int x1]) (rest := []) K (m_X4_upperOfNobody e6) yv_X4_upperOfNobody ml_X6_225 rfl rfl rfl (e_Stakes kd_79) ltN_79 rfl rfl ⟨Nat.le_trans (Nat.le_of_ble_eq_true rfl) hR.1, Nat.le_trans (Nat.le_of_ble_eq_true rfl) hR.2⟩ (Nat.le_of_ble_eq_true rfl) dX6_nobody_31 ?_
      refine g_aload_n K 0 dX6_nobody_34 rfl rfl ?_
      refine g_get (v := .ref (X.ad 79)) K (e_ControlRegister kd_0) ltN_0 rfl 6 (by decide) rfl fw_X6_39 u_X6 dX6_nobody_35 ?_
      refine g_iload_n K 1 dX6_nobody_38 rfl rfl ?_
      obtain ⟨r7, e8, h⟩ := ob h
      refine g_cvl (As := [.int x1]) (rest := [.long r5]) K (m_X4_lower e8) yv_X4_lower ml_X6_217 rfl rfl rfl (e_Stakes kd_79) ltN_79 rfl rfl ⟨Nat.le_trans (Nat.le_of_ble_eq_true rfl) hR.1, Nat.le_trans (Nat.le_of_ble_eq_true rfl) hR.2⟩ (Nat.le_of_ble_eq_true rfl) dX6_nobody_39 ?_
      refine g_iload_n K 2 dX6_nobody_42 rfl rfl ?_
      obtain ⟨r9, e10, h⟩ := ob h
      refine g_csl (As := [.long r5, .long r7, .int x2]) (rest := []) K (m_X6_inLowestTerms e10) yv_X6_inLowestTerms ml_X6_221 rfl rfl rfl ⟨Nat.le_trans (Nat.le_of_ble_eq_true rfl) hR.1, Nat.le_trans (Nat.le_of_ble_eq_true rfl) hR.2⟩ (Nat.le_of_ble_eq_true rfl) dX6_nobody_43 ?_
      exact hr _ _ _ _ dX6_nobody_46 (rt2 h)
    · replace h := bp c2 h
      refine g_ldc2 (v := (-2)) K cl_X6_211 dX6_nobody_18 ?_
      exact hr _ _ _ _ dX6_nobody_21 (rt2 h)
  · replace h := bp c1 h
    refine g_ldc2 (v := (-1)) K cl_X6_209 dX6_nobody_7 ?_
    exact hr _ _ _ _ dX6_nobody_10 (rt2 h)
theorem m_X6_nobody {x1 : Int32} {x2 : Int32} {σ : Sg}  {r : Int64 × Sg} (h : f_X6_nobody x1 x2 σ = some r) : CL yX6_nobody cX6_nobody 3 (some .long) 6 146 (fun ad => [.ref (ad 0), .int x1, .int x2]) σ r.1 r.2 :=
  CL.of (by decide) (fun _ => Nat.le_of_ble_eq_true rfl) (fun X K hR hr => w_X6_nobody K hR h hr)
def L_X6_ranked_15 (x1 : Int32) (x2 : Int32) (σ : Sg) : Nat → Int32 → Option ((Int32 × Sg) ⊕ (Int32))
  | 0, _ => none
  | n + 1, x3 =>
    if 4 ≤ x3 then
    (some (.inr x3))
    else
    (Option.bind (f_X4_upper x1 x3 σ) (fun r2 =>
    if (lg_cmp r2 0) ≤ 0 then
    (L_X6_ranked_15 x1 x2 σ n (x3 + 1))
    else
    (Option.bind (f_X4_rankOf x1 x3 σ) (fun r5 =>
    if r5 = x2 then
    (some (.inl (x3, σ)))
    else
    (L_X6_ranked_15 x1 x2 σ n (x3 + 1))))))
set_option maxRecDepth 20000 in
set_option maxHeartbeats 4000000 in
theorem l_X6_ranked_15 {X : Ctx} (K : Cok X cX6_ranked 4 RX6) (hR : 6 ≤ X.R.frames ∧ 146 ≤ X.R.locals) {res : Int32 × Sg} (hr : RI X cX6_ranked 4 res) {x1 : Int32} {x2 : Int32} {σ : Sg}  :
    ∀ (n : Nat) (x3 : Int32) (o : ((Int32 × Sg) ⊕ (Int32))), L_X6_ranked_15 x1 x2 σ n x3 = some o → (∀ q, o = .inl q → q = res) → (∀ q, o = .inr q → G X 4 55 [(0, .ref (X.ad 0)), (1, .int x1), (2, .int x2), (3, .int q)] [] σ) → G X 4 15 [(0, .ref (X.ad 0)), (1, .int x1), (2, .int x2), (3, .int x3)] [] σ := by
  intro n
  induction n with
  | zero => intro x3 o h; exact absurd h (by unfold L_X6_ranked_15; intro h; cases h)
  | succ n ih =>
    intro x3 o h hret hexit
    unfold L_X6_ranked_15 at h
    refine g_iload_n K 3 dX6_ranked_15 rfl rfl ?_
    refine g_iconst (v := 4) K dX6_ranked_16 ic_4 ?_
    refine g_icmp_ge (tgt := 55) K dX6_ranked_17 (by decide) (fun c1 => ?_) (fun c1 => ?_)
    · replace h := bp c1 h
      refine g_sub [0, 1, 2, 3] rfl ?_
      exact hexit _ (Option.some.inj h).symm
    · replace h := bn c1 h
      refine g_aload_n K 0 dX6_ranked_20 rfl rfl ?_
      refine g_get (v := .ref (X.ad 79)) K (e_ControlRegister kd_0) ltN_0 rfl 6 (by decide) rfl fw_X6_39 u_X6 dX6_ranked_21 ?_
      refine g_iload_n K 1 dX6_ranked_24 rfl rfl ?_
      refine g_iload_n K 3 dX6_ranked_25 rfl rfl ?_
      obtain ⟨r2, e3, h⟩ := ob h
      refine g_cvl (As := [.int x1, .int x3]) (rest := []) K (m_X4_upper e3) yv_X4_upper ml_X6_213 rfl rfl rfl (e_Stakes kd_79) ltN_79 rfl rfl ⟨Nat.le_trans (Nat.le_of_ble_eq_true rfl) hR.1, Nat.le_trans (Nat.le_of_ble_eq_true rfl) hR.2⟩ (Nat.le_of_ble_eq_true rfl) dX6_ranked_26 ?_
      refine g_lconst (v := 0) K dX6_ranked_29 lc_0 ?_
      refine g_lcmp K dX6_ranked_30 ?_
      refine g_if_le (tgt := 49) K dX6_ranked_31 (by decide) (fun c4 => ?_) (fun c4 => ?_)
      · replace h := bp c4 h
        refine g_iinc (lv' := [(3, .int (x3 + 1)), (0, .ref (X.ad 0)), (1, .int x1), (2, .int x2)]) K 3 dX6_ranked_49 rfl (by rw [ic_1]) (by decide) rfl ?_
        refine g_goto (tgt := 15) K dX6_ranked_52 (by decide) ?_
        refine g_sub [1, 2, 3, 0] rfl ?_
        exact ih _ _ h hret hexit
      · replace h := bn c4 h
        refine g_aload_n K 0 dX6_ranked_34 rfl rfl ?_
        refine g_get (v := .ref (X.ad 79)) K (e_ControlRegister kd_0) ltN_0 rfl 6 (by decide) rfl fw_X6_39 u_X6 dX6_ranked_35 ?_
        refine g_iload_n K 1 dX6_ranked_38 rfl rfl ?_
        refine g_iload_n K 3 dX6_ranked_39 rfl rfl ?_
        obtain ⟨r5, e6, h⟩ := ob h
        refine g_cvi (As := [.int x1, .int x3]) (rest := []) K (m_X4_rankOf e6) yv_X4_rankOf ml_X6_228 rfl rfl rfl (e_Stakes kd_79) ltN_79 rfl rfl ⟨Nat.le_trans (Nat.le_of_ble_eq_true rfl) hR.1, Nat.le_trans (Nat.le_of_ble_eq_true rfl) hR.2⟩ (Nat.le_of_ble_eq_true rfl) dX6_ranked_40 ?_
        refine g_iload_n K 2 dX6_ranked_43 rfl rfl ?_
        refine g_icmp_ne (tgt := 49) K dX6_ranked_44 (by decide) (fun c7 => ?_) (fun c7 => ?_)
        · replace h := bn c7 h
          refine g_iinc (lv' := [(3, .int (x3 + 1)), (0, .ref (X.ad 0)), (1, .int x1), (2, .int x2)]) K 3 dX6_ranked_49 rfl (by rw [ic_1]) (by decide) rfl ?_
          refine g_goto (tgt := 15) K dX6_ranked_52 (by decide) ?_
          refine g_sub [1, 2, 3, 0] rfl ?_
          exact ih _ _ h hret hexit
        · replace h := bp c7 h
          refine g_iload_n K 3 dX6_ranked_47 rfl rfl ?_
          exact hr _ _ _ _ dX6_ranked_48 (hret _ (Option.some.inj h).symm)
def f_X6_ranked (x1 : Int32) (x2 : Int32) (σ : Sg) : Option (Int32 × Sg) :=
  if (f_X6_isFirm x1) = 0 then
  (some ((-1), σ))
  else
  (Option.bind (f_X6_bringUpToDate σ) (fun q2 =>
  Option.bind (L_X6_ranked_15 x1 x2 q2 FU 0) (fun o4 => Sum.elim (fun x => some x) (fun o4 =>
  some ((-6), q2)) o4)))
set_option maxRecDepth 20000 in
set_option maxHeartbeats 4000000 in
theorem w_X6_ranked {X : Ctx} (K : Cok X cX6_ranked 4 RX6) (hR : 6 ≤ X.R.frames ∧ 146 ≤ X.R.locals) {x1 : Int32} {x2 : Int32} {σ : Sg}  {r : Int32 × Sg} (h : f_X6_ranked x1 x2 σ = some r) (hr : RI X cX6_ranked 4 r) : G X 4 0 [(0, .ref (X.ad 0)), (1, .int x1), (2, .int x2)] [] σ := by
  unfold f_X6_ranked at h
  refine g_iload_n K 1 dX6_ranked_0 rfl rfl ?_
  refine g_csi (As := [.int x1]) (rest := []) K (m_X6_isFirm x1 σ) yv_X6_isFirm ml_X6_71 rfl rfl rfl ⟨Nat.le_trans (Nat.le_of_ble_eq_true rfl) hR.1, Nat.le_trans (Nat.le_of_ble_eq_true rfl) hR.2⟩ (Nat.le_of_ble_eq_true rfl) dX6_ranked_1 ?_
  refine g_if_ne (tgt := 9) K dX6_ranked_4 (by decide) (fun c1 => ?_) (fun c1 => ?_)
  · replace h := bn c1 h
    refine g_aload_n K 0 dX6_ranked_9 rfl rfl ?_
    obtain ⟨q2, e3, h⟩ := ob h
    refine g_cvv (As := []) (rest := []) K (m_X6_bringUpToDate e3) yv_X6_bringUpToDate ml_X6_146 rfl rfl rfl (e_ControlRegister kd_0) ltN_0 rfl rfl ⟨Nat.le_trans (Nat.le_of_ble_eq_true rfl) hR.1, Nat.le_trans (Nat.le_of_ble_eq_true rfl) hR.2⟩ (Nat.le_of_ble_eq_true rfl) dX6_ranked_10 ?_
    refine g_iconst (v := 0) K dX6_ranked_13 ic_0 ?_
    refine g_istore_n (lv' := [(3, .int 0), (0, .ref (X.ad 0)), (1, .int x1), (2, .int x2)]) K dX6_ranked_14 rfl (by decide) rfl ?_
    obtain ⟨o4, e5, h⟩ := ob h
    refine g_sub [1, 2, 3, 0] rfl ?_
    refine l_X6_ranked_15 K hR hr _ _ _ e5 (fun x hx => ?_) (fun o4 hx => ?_)
    · subst hx
      exact rt2 h
    · subst hx
      dsimp only [Sum.elim_inr] at h
      refine g_bipush (v := (-6)) K dX6_ranked_55 bp_m6 ?_
      exact hr _ _ _ _ dX6_ranked_57 (rt2 h)
  · replace h := bp c1 h
    refine g_iconst (v := (-1)) K dX6_ranked_7 ic_m1 ?_
    exact hr _ _ _ _ dX6_ranked_8 (rt2 h)
theorem m_X6_ranked {x1 : Int32} {x2 : Int32} {σ : Sg}  {r : Int32 × Sg} (h : f_X6_ranked x1 x2 σ = some r) : CI yX6_ranked cX6_ranked 4 (some .int) 6 146 (fun ad => [.ref (ad 0), .int x1, .int x2]) σ r.1 r.2 :=
  CI.of (by decide) (fun _ => Nat.le_of_ble_eq_true rfl) (fun X K hR hr => w_X6_ranked K hR h hr)
def f_X6_owners (x1 : Int32) (σ : Sg) : Option (Int32 × Sg) :=
  if (f_X6_isFirm x1) = 0 then
  (some ((-1), σ))
  else
  (Option.bind (f_X6_bringUpToDate σ) (fun q2 =>
  Option.bind (f_X1_thoseOver 53 x1 0 4 q2) (fun r4 =>
  Option.bind (f_X4_personsAbove x1 (q2.1 1 11) q2) (fun r6 =>
  some ((r4 ||| r6), q2)))))
set_option maxRecDepth 20000 in
set_option maxHeartbeats 4000000 in
theorem w_X6_owners {X : Ctx} (K : Cok X cX6_owners 2 RX6) (hR : 6 ≤ X.R.frames ∧ 146 ≤ X.R.locals) {x1 : Int32} {σ : Sg}  {r : Int32 × Sg} (h : f_X6_owners x1 σ = some r) (hr : RI X cX6_owners 2 r) : G X 2 0 [(0, .ref (X.ad 0)), (1, .int x1)] [] σ := by
  unfold f_X6_owners at h
  refine g_iload_n K 1 dX6_owners_0 rfl rfl ?_
  refine g_csi (As := [.int x1]) (rest := []) K (m_X6_isFirm x1 σ) yv_X6_isFirm ml_X6_71 rfl rfl rfl ⟨Nat.le_trans (Nat.le_of_ble_eq_true rfl) hR.1, Nat.le_trans (Nat.le_of_ble_eq_true rfl) hR.2⟩ (Nat.le_of_ble_eq_true rfl) dX6_owners_1 ?_
  refine g_if_ne (tgt := 9) K dX6_owners_4 (by decide) (fun c1 => ?_) (fun c1 => ?_)
  · replace h := bn c1 h
    refine g_aload_n K 0 dX6_owners_9 rfl rfl ?_
    obtain ⟨q2, e3, h⟩ := ob h
    refine g_cvv (As := []) (rest := []) K (m_X6_bringUpToDate e3) yv_X6_bringUpToDate ml_X6_146 rfl rfl rfl (e_ControlRegister kd_0) ltN_0 rfl rfl ⟨Nat.le_trans (Nat.le_of_ble_eq_true rfl) hR.1, Nat.le_trans (Nat.le_of_ble_eq_true rfl) hR.2⟩ (Nat.le_of_ble_eq_true rfl) dX6_owners_10 ?_
    refine g_aload_n K 0 dX6_owners_13 rfl rfl ?_
    refine g_get (v := .ref (X.ad 53)) K (e_ControlRegister kd_0) ltN_0 rfl 5 (by decide) rfl fw_X6_32 u_X6 dX6_owners_14 ?_
    refine g_iload_n K 1 dX6_owners_17 rfl rfl ?_
    refine g_iconst (v := 0) K dX6_owners_18 ic_0 ?_
    refine g_iconst (v := 4) K dX6_owners_19 ic_4 ?_
    obtain ⟨r4, e5, h⟩ := ob h
    refine g_cvi (As := [.int x1, .int 0, .int 4]) (rest := []) K (m_X1_thoseOver is_53 e5) yv_X1_thoseOver ml_X6_183 rfl rfl rfl (e_Control kd_53) ltN_53 rfl rfl ⟨Nat.le_trans (Nat.le_of_ble_eq_true rfl) hR.1, Nat.le_trans (Nat.le_of_ble_eq_true rfl) hR.2⟩ (Nat.le_of_ble_eq_true rfl) dX6_owners_20 ?_
    refine g_aload_n K 0 dX6_owners_23 rfl rfl ?_
    refine g_get (v := .ref (X.ad 79)) K (e_ControlRegister kd_0) ltN_0 rfl 6 (by decide) rfl fw_X6_39 u_X6 dX6_owners_24 ?_
    refine g_iload_n K 1 dX6_owners_27 rfl rfl ?_
    refine g_aload_n K 0 dX6_owners_28 rfl rfl ?_
    refine g_get (v := .ref (X.ad 1)) K (e_ControlRegister kd_0) ltN_0 rfl 0 (by decide) rfl fw_X6_12 u_X6 dX6_owners_29 ?_
    refine g_get (v := .int (q2.1 1 11)) K (e_Book kd_1) ltN_1 rfl 11 (by decide) rfl fw_X6_140 u_X0 dX6_owners_32 ?_
    obtain ⟨r6, e7, h⟩ := ob h
    refine g_cvi (As := [.int x1, .int (q2.1 1 11)]) (rest := [.int r4]) K (m_X4_personsAbove e7) yv_X4_personsAbove ml_X6_231 rfl rfl rfl (e_Stakes kd_79) ltN_79 rfl rfl ⟨Nat.le_trans (Nat.le_of_ble_eq_true rfl) hR.1, Nat.le_trans (Nat.le_of_ble_eq_true rfl) hR.2⟩ (Nat.le_of_ble_eq_true rfl) dX6_owners_35 ?_
    refine g_ior K dX6_owners_38 ?_
    exact hr _ _ _ _ dX6_owners_39 (rt2 h)
  · replace h := bp c1 h
    refine g_iconst (v := (-1)) K dX6_owners_7 ic_m1 ?_
    exact hr _ _ _ _ dX6_owners_8 (rt2 h)
theorem m_X6_owners {x1 : Int32} {σ : Sg}  {r : Int32 × Sg} (h : f_X6_owners x1 σ = some r) : CI yX6_owners cX6_owners 2 (some .int) 6 146 (fun ad => [.ref (ad 0), .int x1]) σ r.1 r.2 :=
  CI.of (by decide) (fun _ => Nat.le_of_ble_eq_true rfl) (fun X K hR hr => w_X6_owners K hR h hr)
def f_X6_circle (x1 : Int32) (σ : Sg) : Option (Int32 × Sg) :=
  if (f_X6_isFirm x1) = 0 then
  (some ((-1), σ))
  else
  (Option.bind (f_X6_bringUpToDate σ) (fun q2 =>
  Option.bind (f_X3_circleOf x1 q2) (fun r4 =>
  some (r4, q2))))
set_option maxRecDepth 20000 in
set_option maxHeartbeats 4000000 in
theorem w_X6_circle {X : Ctx} (K : Cok X cX6_circle 2 RX6) (hR : 6 ≤ X.R.frames ∧ 146 ≤ X.R.locals) {x1 : Int32} {σ : Sg}  {r : Int32 × Sg} (h : f_X6_circle x1 σ = some r) (hr : RI X cX6_circle 2 r) : G X 2 0 [(0, .ref (X.ad 0)), (1, .int x1)] [] σ := by
  unfold f_X6_circle at h
  refine g_iload_n K 1 dX6_circle_0 rfl rfl ?_
  refine g_csi (As := [.int x1]) (rest := []) K (m_X6_isFirm x1 σ) yv_X6_isFirm ml_X6_71 rfl rfl rfl ⟨Nat.le_trans (Nat.le_of_ble_eq_true rfl) hR.1, Nat.le_trans (Nat.le_of_ble_eq_true rfl) hR.2⟩ (Nat.le_of_ble_eq_true rfl) dX6_circle_1 ?_
  refine g_if_ne (tgt := 9) K dX6_circle_4 (by decide) (fun c1 => ?_) (fun c1 => ?_)
  · replace h := bn c1 h
    refine g_aload_n K 0 dX6_circle_9 rfl rfl ?_
    obtain ⟨q2, e3, h⟩ := ob h
    refine g_cvv (As := []) (rest := []) K (m_X6_bringUpToDate e3) yv_X6_bringUpToDate ml_X6_146 rfl rfl rfl (e_ControlRegister kd_0) ltN_0 rfl rfl ⟨Nat.le_trans (Nat.le_of_ble_eq_true rfl) hR.1, Nat.le_trans (Nat.le_of_ble_eq_true rfl) hR.2⟩ (Nat.le_of_ble_eq_true rfl) dX6_circle_10 ?_
    refine g_aload_n K 0 dX6_circle_13 rfl rfl ?_
    refine g_get (v := .ref (X.ad 86)) K (e_ControlRegister kd_0) ltN_0 rfl 7 (by decide) rfl fw_X6_46 u_X6 dX6_circle_14 ?_
    refine g_iload_n K 1 dX6_circle_17 rfl rfl ?_
    obtain ⟨r4, e5, h⟩ := ob h
    refine g_cvi (As := [.int x1]) (rest := []) K (m_X3_circleOf e5) yv_X3_circleOf ml_X6_234 rfl rfl rfl (e_Reach kd_86) ltN_86 rfl rfl ⟨Nat.le_trans (Nat.le_of_ble_eq_true rfl) hR.1, Nat.le_trans (Nat.le_of_ble_eq_true rfl) hR.2⟩ (Nat.le_of_ble_eq_true rfl) dX6_circle_18 ?_
    exact hr _ _ _ _ dX6_circle_21 (rt2 h)
  · replace h := bp c1 h
    refine g_iconst (v := (-1)) K dX6_circle_7 ic_m1 ?_
    exact hr _ _ _ _ dX6_circle_8 (rt2 h)
theorem m_X6_circle {x1 : Int32} {σ : Sg}  {r : Int32 × Sg} (h : f_X6_circle x1 σ = some r) : CI yX6_circle cX6_circle 2 (some .int) 6 146 (fun ad => [.ref (ad 0), .int x1]) σ r.1 r.2 :=
  CI.of (by decide) (fun _ => Nat.le_of_ble_eq_true rfl) (fun X K hR hr => w_X6_circle K hR h hr)
def f_X6_imageAt (x1 : Int32) : Nat :=
  if x1 = 0 then
  (9)
  else
  (17)
set_option maxRecDepth 20000 in
set_option maxHeartbeats 4000000 in
theorem w_X6_imageAt {X : Ctx} (K : Cok X cX6_imageAt 2 RX6) (hR : 0 ≤ X.R.frames ∧ 0 ≤ X.R.locals) {x1 : Int32} {σ : Sg}  {r : Nat} (h : f_X6_imageAt x1 = r) (hr : RA X cX6_imageAt 2 (r, σ)) : G X 2 0 [(0, .ref (X.ad 0)), (1, .int x1)] [] σ := by
  unfold f_X6_imageAt at h
  refine g_iload_n K 1 dX6_imageAt_0 rfl rfl ?_
  refine g_if_ne (tgt := 11) K dX6_imageAt_1 (by decide) (fun c1 => ?_) (fun c1 => ?_)
  · replace h := bn c1 h
    refine g_aload_n K 0 dX6_imageAt_11 rfl rfl ?_
    refine g_get (v := .ref (X.ad 17)) K (e_ControlRegister kd_0) ltN_0 rfl 2 (by decide) rfl fw_X6_19 u_X6 dX6_imageAt_12 ?_
    exact hr _ _ _ _ dX6_imageAt_15 (rt0 h)
  · replace h := bp c1 h
    refine g_aload_n K 0 dX6_imageAt_4 rfl rfl ?_
    refine g_get (v := .ref (X.ad 9)) K (e_ControlRegister kd_0) ltN_0 rfl 1 (by decide) rfl fw_X6_16 u_X6 dX6_imageAt_5 ?_
    refine g_goto (tgt := 15) K dX6_imageAt_8 (by decide) ?_
    exact hr _ _ _ _ dX6_imageAt_15 (rt0 h)
theorem m_X6_imageAt (x1 : Int32) (σ : Sg)  : CA yX6_imageAt cX6_imageAt 2 (some (.object "ControlRegister$Book")) 0 0 (fun ad => [.ref (ad 0), .int x1]) σ (f_X6_imageAt x1) σ :=
  CA.of (by decide) (fun _ => Nat.le_of_ble_eq_true rfl) (fun X K hR hr => w_X6_imageAt K hR rfl hr)
theorem b_X6_imageAt (x1 : Int32) : isBook (f_X6_imageAt x1) := by
  unfold f_X6_imageAt
  split
  · exact is_9
  · exact is_17
def f_X6_image (x1 : Int32) (σ : Sg) : Option (Int32 × Sg) :=
  if (f_X6_isYesOrNo x1) = 0 then
  (some ((-2), σ))
  else
  (Option.bind (f_X0_copyFrom (f_X6_imageAt x1) 1 σ) (fun q2 =>
  jn (setR q2 0 (upd (q2.1 0) 3 ((q2.1 0 3) ||| (1 <<< (x1 &&& 31))))) (fun σ4 =>
  some (1, σ4))))
set_option maxRecDepth 20000 in
set_option maxHeartbeats 4000000 in
theorem w_X6_image {X : Ctx} (K : Cok X cX6_image 2 RX6) (hR : 2 ≤ X.R.frames ∧ 47 ≤ X.R.locals) {x1 : Int32} {σ : Sg}  {r : Int32 × Sg} (h : f_X6_image x1 σ = some r) (hr : RI X cX6_image 2 r) : G X 2 0 [(0, .ref (X.ad 0)), (1, .int x1)] [] σ := by
  unfold f_X6_image at h
  refine g_iload_n K 1 dX6_image_0 rfl rfl ?_
  refine g_csi (As := [.int x1]) (rest := []) K (m_X6_isYesOrNo x1 σ) yv_X6_isYesOrNo ml_X6_77 rfl rfl rfl ⟨Nat.le_trans (Nat.le_of_ble_eq_true rfl) hR.1, Nat.le_trans (Nat.le_of_ble_eq_true rfl) hR.2⟩ (Nat.le_of_ble_eq_true rfl) dX6_image_1 ?_
  refine g_if_ne (tgt := 10) K dX6_image_4 (by decide) (fun c1 => ?_) (fun c1 => ?_)
  · replace h := bn c1 h
    refine g_aload_n K 0 dX6_image_10 rfl rfl ?_
    refine g_iload_n K 1 dX6_image_11 rfl rfl ?_
    refine g_cva (As := [.int x1]) (rest := []) K (m_X6_imageAt x1 σ) yv_X6_imageAt ml_X6_237 rfl rfl rfl (e_ControlRegister kd_0) ltN_0 rfl rfl ⟨Nat.le_trans (Nat.le_of_ble_eq_true rfl) hR.1, Nat.le_trans (Nat.le_of_ble_eq_true rfl) hR.2⟩ (Nat.le_of_ble_eq_true rfl) dX6_image_12 ?_
    refine g_aload_n K 0 dX6_image_15 rfl rfl ?_
    refine g_get (v := .ref (X.ad 1)) K (e_ControlRegister kd_0) ltN_0 rfl 0 (by decide) rfl fw_X6_12 u_X6 dX6_image_16 ?_
    obtain ⟨q2, e3, h⟩ := ob h
    refine g_cvv (As := [.ref (X.ad 1)]) (rest := []) K (m_X0_copyFrom (b_X6_imageAt x1) is_1 e3) yv_X0_copyFrom ml_X6_241 rfl rfl rfl (e_Book (bk_k0 (b_X6_imageAt x1))) (bk_l0 (b_X6_imageAt x1)) rfl rfl ⟨Nat.le_trans (Nat.le_of_ble_eq_true rfl) hR.1, Nat.le_trans (Nat.le_of_ble_eq_true rfl) hR.2⟩ (Nat.le_of_ble_eq_true rfl) dX6_image_19 ?_
    refine g_aload_n K 0 dX6_image_22 rfl rfl ?_
    refine g_dup K dX6_image_23 rfl ?_
    refine g_get (v := .int (q2.1 0 3)) K (e_ControlRegister kd_0) ltN_0 rfl 3 (by decide) rfl fw_X6_245 u_X6 dX6_image_24 ?_
    refine g_iconst (v := 1) K dX6_image_27 ic_1 ?_
    refine g_iload_n K 1 dX6_image_28 rfl rfl ?_
    refine g_ishl K dX6_image_29 ?_
    refine g_ior K dX6_image_30 ?_
    refine g_put (f' := (upd (q2.1 0) 3 ((q2.1 0 3) ||| (1 <<< (x1 &&& 31))))) K (e_ControlRegister kd_0) ltN_0 rfl 3 (by decide) (e_ControlRegister kd_0) tyX6 tyX6_ok nmX6 rfl (ty := .int) (by decide +kernel) rfl rfl (Nat.le_of_ble_eq_true rfl) fw_X6_245 u_X6 dX6_image_31 (fun σ4 s5 => ?_)
    replace h := jn_at s5 h
    refine g_iconst (v := 1) K dX6_image_34 ic_1 ?_
    exact hr _ _ _ _ dX6_image_35 (rt2 h)
  · replace h := bp c1 h
    refine g_bipush (v := (-2)) K dX6_image_7 bp_m2 ?_
    exact hr _ _ _ _ dX6_image_9 (rt2 h)
theorem m_X6_image {x1 : Int32} {σ : Sg}  {r : Int32 × Sg} (h : f_X6_image x1 σ = some r) : CI yX6_image cX6_image 2 (some .int) 2 47 (fun ad => [.ref (ad 0), .int x1]) σ r.1 r.2 :=
  CI.of (by decide) (fun _ => Nat.le_of_ble_eq_true rfl) (fun X K hR hr => w_X6_image K hR h hr)
def f_X6_restore (x1 : Int32) (σ : Sg) : Option (Int32 × Sg) :=
  if (f_X6_isYesOrNo x1) = 0 then
  (some ((-2), σ))
  else
  (if (f_X6_has (σ.1 0 3) x1) = 0 then
  (some ((-3), σ))
  else
  (Option.bind (f_X0_copyFrom 1 (f_X6_imageAt x1) σ) (fun q3 =>
  Option.bind (f_X6_allIsChanged q3) (fun q5 =>
  some (1, q5)))))
set_option maxRecDepth 20000 in
set_option maxHeartbeats 4000000 in
theorem w_X6_restore {X : Ctx} (K : Cok X cX6_restore 2 RX6) (hR : 2 ≤ X.R.frames ∧ 47 ≤ X.R.locals) {x1 : Int32} {σ : Sg}  {r : Int32 × Sg} (h : f_X6_restore x1 σ = some r) (hr : RI X cX6_restore 2 r) : G X 2 0 [(0, .ref (X.ad 0)), (1, .int x1)] [] σ := by
  unfold f_X6_restore at h
  refine g_iload_n K 1 dX6_restore_0 rfl rfl ?_
  refine g_csi (As := [.int x1]) (rest := []) K (m_X6_isYesOrNo x1 σ) yv_X6_isYesOrNo ml_X6_77 rfl rfl rfl ⟨Nat.le_trans (Nat.le_of_ble_eq_true rfl) hR.1, Nat.le_trans (Nat.le_of_ble_eq_true rfl) hR.2⟩ (Nat.le_of_ble_eq_true rfl) dX6_restore_1 ?_
  refine g_if_ne (tgt := 10) K dX6_restore_4 (by decide) (fun c1 => ?_) (fun c1 => ?_)
  · replace h := bn c1 h
    refine g_aload_n K 0 dX6_restore_10 rfl rfl ?_
    refine g_get (v := .int (σ.1 0 3)) K (e_ControlRegister kd_0) ltN_0 rfl 3 (by decide) rfl fw_X6_245 u_X6 dX6_restore_11 ?_
    refine g_iload_n K 1 dX6_restore_14 rfl rfl ?_
    refine g_csi (As := [.int (σ.1 0 3), .int x1]) (rest := []) K (m_X6_has (σ.1 0 3) x1 σ) yv_X6_has ml_X6_159 rfl rfl rfl ⟨Nat.le_trans (Nat.le_of_ble_eq_true rfl) hR.1, Nat.le_trans (Nat.le_of_ble_eq_true rfl) hR.2⟩ (Nat.le_of_ble_eq_true rfl) dX6_restore_15 ?_
    refine g_if_ne (tgt := 24) K dX6_restore_18 (by decide) (fun c2 => ?_) (fun c2 => ?_)
    · replace h := bn c2 h
      refine g_aload_n K 0 dX6_restore_24 rfl rfl ?_
      refine g_get (v := .ref (X.ad 1)) K (e_ControlRegister kd_0) ltN_0 rfl 0 (by decide) rfl fw_X6_12 u_X6 dX6_restore_25 ?_
      refine g_aload_n K 0 dX6_restore_28 rfl rfl ?_
      refine g_iload_n K 1 dX6_restore_29 rfl rfl ?_
      refine g_cva (As := [.int x1]) (rest := [.ref (X.ad 1)]) K (m_X6_imageAt x1 σ) yv_X6_imageAt ml_X6_237 rfl rfl rfl (e_ControlRegister kd_0) ltN_0 rfl rfl ⟨Nat.le_trans (Nat.le_of_ble_eq_true rfl) hR.1, Nat.le_trans (Nat.le_of_ble_eq_true rfl) hR.2⟩ (Nat.le_of_ble_eq_true rfl) dX6_restore_30 ?_
      obtain ⟨q3, e4, h⟩ := ob h
      refine g_cvv (As := [.ref (X.ad (f_X6_imageAt x1))]) (rest := []) K (m_X0_copyFrom is_1 (b_X6_imageAt x1) e4) yv_X0_copyFrom ml_X6_241 rfl rfl rfl (e_Book kd_1) ltN_1 rfl rfl ⟨Nat.le_trans (Nat.le_of_ble_eq_true rfl) hR.1, Nat.le_trans (Nat.le_of_ble_eq_true rfl) hR.2⟩ (Nat.le_of_ble_eq_true rfl) dX6_restore_33 ?_
      refine g_aload_n K 0 dX6_restore_36 rfl rfl ?_
      obtain ⟨q5, e6, h⟩ := ob h
      refine g_cvv (As := []) (rest := []) K (m_X6_allIsChanged e6) yv_X6_allIsChanged ml_X6_93 rfl rfl rfl (e_ControlRegister kd_0) ltN_0 rfl rfl ⟨Nat.le_trans (Nat.le_of_ble_eq_true rfl) hR.1, Nat.le_trans (Nat.le_of_ble_eq_true rfl) hR.2⟩ (Nat.le_of_ble_eq_true rfl) dX6_restore_37 ?_
      refine g_iconst (v := 1) K dX6_restore_40 ic_1 ?_
      exact hr _ _ _ _ dX6_restore_41 (rt2 h)
    · replace h := bp c2 h
      refine g_bipush (v := (-3)) K dX6_restore_21 bp_m3 ?_
      exact hr _ _ _ _ dX6_restore_23 (rt2 h)
  · replace h := bp c1 h
    refine g_bipush (v := (-2)) K dX6_restore_7 bp_m2 ?_
    exact hr _ _ _ _ dX6_restore_9 (rt2 h)
theorem m_X6_restore {x1 : Int32} {σ : Sg}  {r : Int32 × Sg} (h : f_X6_restore x1 σ = some r) : CI yX6_restore cX6_restore 2 (some .int) 2 47 (fun ad => [.ref (ad 0), .int x1]) σ r.1 r.2 :=
  CI.of (by decide) (fun _ => Nat.le_of_ble_eq_true rfl) (fun X K hR hr => w_X6_restore K hR h hr)
def f_X6_count (x1 : Int32) (σ : Sg) : Option (Int32 × Sg) :=
  if x1 < 10 then
  (if x1 = 0 then
  (some ((σ.1 1 7), σ))
  else
  (if x1 = 1 then
  (some ((σ.1 1 8), σ))
  else
  (if x1 = 2 then
  (some ((σ.1 1 9), σ))
  else
  (if x1 = 3 then
  (some ((σ.1 1 10), σ))
  else
  (if x1 = 4 then
  (some ((σ.1 1 11), σ))
  else
  (if x1 = 5 then
  (Option.bind (f_X0_doneBy 1 (σ.1 1 8) σ) (fun r8 =>
  some (r8, σ)))
  else
  (if x1 = 6 then
  (Option.bind (f_X6_bringUpToDate σ) (fun q11 =>
  Option.bind (f_X1_mostRounds 53 q11) (fun r13 =>
  some (r13, q11))))
  else
  (if x1 = 7 then
  (Option.bind (f_X6_trace σ) (fun q16 =>
  some ((q16.1 88 4), q16)))
  else
  (if x1 = 8 then
  (Option.bind (f_X6_bringUpToDate σ) (fun q19 =>
  some ((q19.1 79 0), q19)))
  else
  (if x1 = 9 then
  (some ((σ.1 0 3), σ))
  else
  (some ((-2), σ))))))))))))
  else
  (if 50 ≤ x1 then
  (if x1 = 0 then
  (some ((σ.1 1 7), σ))
  else
  (if x1 = 1 then
  (some ((σ.1 1 8), σ))
  else
  (if x1 = 2 then
  (some ((σ.1 1 9), σ))
  else
  (if x1 = 3 then
  (some ((σ.1 1 10), σ))
  else
  (if x1 = 4 then
  (some ((σ.1 1 11), σ))
  else
  (if x1 = 5 then
  (Option.bind (f_X0_doneBy 1 (σ.1 1 8) σ) (fun r29 =>
  some (r29, σ)))
  else
  (if x1 = 6 then
  (Option.bind (f_X6_bringUpToDate σ) (fun q32 =>
  Option.bind (f_X1_mostRounds 53 q32) (fun r34 =>
  some (r34, q32))))
  else
  (if x1 = 7 then
  (Option.bind (f_X6_trace σ) (fun q37 =>
  some ((q37.1 88 4), q37)))
  else
  (if x1 = 8 then
  (Option.bind (f_X6_bringUpToDate σ) (fun q40 =>
  some ((q40.1 79 0), q40)))
  else
  (if x1 = 9 then
  (some ((σ.1 0 3), σ))
  else
  (some ((-2), σ))))))))))))
  else
  (Option.bind (f_X0_unlikeDay 1 (x1 - 10) σ) (fun r43 =>
  some (r43, σ))))
set_option maxRecDepth 20000 in
set_option maxHeartbeats 4000000 in
theorem w_X6_count {X : Ctx} (K : Cok X cX6_count 2 RX6) (hR : 6 ≤ X.R.frames ∧ 147 ≤ X.R.locals) {x1 : Int32} {σ : Sg}  {r : Int32 × Sg} (h : f_X6_count x1 σ = some r) (hr : RI X cX6_count 2 r) : G X 2 0 [(0, .ref (X.ad 0)), (1, .int x1)] [] σ := by
  unfold f_X6_count at h
  refine g_iload_n K 1 dX6_count_0 rfl rfl ?_
  refine g_bipush (v := 10) K dX6_count_1 bp_10 ?_
  refine g_icmp_lt (tgt := 24) K dX6_count_3 (by decide) (fun c1 => ?_) (fun c1 => ?_)
  · replace h := bp c1 h
    refine g_iload_n K 1 dX6_count_24 rfl rfl ?_
    rcases Classical.em (x1 = 0) with c2 | c2
    · replace h := bp c2 h
      refine g_tableIn (y := 0) (off := 55) (tgt := 80) K dX6_count_25 c2 (by decide) (by decide) (by decide) (by decide) ?_
      refine g_aload_n K 0 dX6_count_80 rfl rfl ?_
      refine g_get (v := .ref (X.ad 1)) K (e_ControlRegister kd_0) ltN_0 rfl 0 (by decide) rfl fw_X6_12 u_X6 dX6_count_81 ?_
      refine g_get (v := .int (σ.1 1 7)) K (e_Book kd_1) ltN_1 rfl 7 (by decide) rfl fw_X6_96 u_X0 dX6_count_84 ?_
      exact hr _ _ _ _ dX6_count_87 (rt2 h)
    · replace h := bn c2 h
      rcases Classical.em (x1 = 1) with c3 | c3
      · replace h := bp c3 h
        refine g_tableIn (y := 1) (off := 63) (tgt := 88) K dX6_count_25 c3 (by decide) (by decide) (by decide) (by decide) ?_
        refine g_aload_n K 0 dX6_count_88 rfl rfl ?_
        refine g_get (v := .ref (X.ad 1)) K (e_ControlRegister kd_0) ltN_0 rfl 0 (by decide) rfl fw_X6_12 u_X6 dX6_count_89 ?_
        refine g_get (v := .int (σ.1 1 8)) K (e_Book kd_1) ltN_1 rfl 8 (by decide) rfl fw_X6_123 u_X0 dX6_count_92 ?_
        exact hr _ _ _ _ dX6_count_95 (rt2 h)
      · replace h := bn c3 h
        rcases Classical.em (x1 = 2) with c4 | c4
        · replace h := bp c4 h
          refine g_tableIn (y := 2) (off := 71) (tgt := 96) K dX6_count_25 c4 (by decide) (by decide) (by decide) (by decide) ?_
          refine g_aload_n K 0 dX6_count_96 rfl rfl ?_
          refine g_get (v := .ref (X.ad 1)) K (e_ControlRegister kd_0) ltN_0 rfl 0 (by decide) rfl fw_X6_12 u_X6 dX6_count_97 ?_
          refine g_get (v := .int (σ.1 1 9)) K (e_Book kd_1) ltN_1 rfl 9 (by decide) rfl fw_X6_134 u_X0 dX6_count_100 ?_
          exact hr _ _ _ _ dX6_count_103 (rt2 h)
        · replace h := bn c4 h
          rcases Classical.em (x1 = 3) with c5 | c5
          · replace h := bp c5 h
            refine g_tableIn (y := 3) (off := 79) (tgt := 104) K dX6_count_25 c5 (by decide) (by decide) (by decide) (by decide) ?_
            refine g_aload_n K 0 dX6_count_104 rfl rfl ?_
            refine g_get (v := .ref (X.ad 1)) K (e_ControlRegister kd_0) ltN_0 rfl 0 (by decide) rfl fw_X6_12 u_X6 dX6_count_105 ?_
            refine g_get (v := .int (σ.1 1 10)) K (e_Book kd_1) ltN_1 rfl 10 (by decide) rfl fw_X6_137 u_X0 dX6_count_108 ?_
            exact hr _ _ _ _ dX6_count_111 (rt2 h)
          · replace h := bn c5 h
            rcases Classical.em (x1 = 4) with c6 | c6
            · replace h := bp c6 h
              refine g_tableIn (y := 4) (off := 87) (tgt := 112) K dX6_count_25 c6 (by decide) (by decide) (by decide) (by decide) ?_
              refine g_aload_n K 0 dX6_count_112 rfl rfl ?_
              refine g_get (v := .ref (X.ad 1)) K (e_ControlRegister kd_0) ltN_0 rfl 0 (by decide) rfl fw_X6_12 u_X6 dX6_count_113 ?_
              refine g_get (v := .int (σ.1 1 11)) K (e_Book kd_1) ltN_1 rfl 11 (by decide) rfl fw_X6_140 u_X0 dX6_count_116 ?_
              exact hr _ _ _ _ dX6_count_119 (rt2 h)
            · replace h := bn c6 h
              rcases Classical.em (x1 = 5) with c7 | c7
              · replace h := bp c7 h
                refine g_tableIn (y := 5) (off := 95) (tgt := 120) K dX6_count_25 c7 (by decide) (by decide) (by decide) (by decide) ?_
                refine g_aload_n K 0 dX6_count_120 rfl rfl ?_
                refine g_get (v := .ref (X.ad 1)) K (e_ControlRegister kd_0) ltN_0 rfl 0 (by decide) rfl fw_X6_12 u_X6 dX6_count_121 ?_
                refine g_aload_n K 0 dX6_count_124 rfl rfl ?_
                refine g_get (v := .ref (X.ad 1)) K (e_ControlRegister kd_0) ltN_0 rfl 0 (by decide) rfl fw_X6_12 u_X6 dX6_count_125 ?_
                refine g_get (v := .int (σ.1 1 8)) K (e_Book kd_1) ltN_1 rfl 8 (by decide) rfl fw_X6_123 u_X0 dX6_count_128 ?_
                obtain ⟨r8, e9, h⟩ := ob h
                refine g_cvi (As := [.int (σ.1 1 8)]) (rest := []) K (m_X0_doneBy is_1 e9) yv_X0_doneBy ml_X6_251 rfl rfl rfl (e_Book kd_1) ltN_1 rfl rfl ⟨Nat.le_trans (Nat.le_of_ble_eq_true rfl) hR.1, Nat.le_trans (Nat.le_of_ble_eq_true rfl) hR.2⟩ (Nat.le_of_ble_eq_true rfl) dX6_count_131 ?_
                exact hr _ _ _ _ dX6_count_134 (rt2 h)
              · replace h := bn c7 h
                rcases Classical.em (x1 = 6) with c10 | c10
                · replace h := bp c10 h
                  refine g_tableIn (y := 6) (off := 110) (tgt := 135) K dX6_count_25 c10 (by decide) (by decide) (by decide) (by decide) ?_
                  refine g_aload_n K 0 dX6_count_135 rfl rfl ?_
                  obtain ⟨q11, e12, h⟩ := ob h
                  refine g_cvv (As := []) (rest := []) K (m_X6_bringUpToDate e12) yv_X6_bringUpToDate ml_X6_146 rfl rfl rfl (e_ControlRegister kd_0) ltN_0 rfl rfl ⟨Nat.le_trans (Nat.le_of_ble_eq_true rfl) hR.1, Nat.le_trans (Nat.le_of_ble_eq_true rfl) hR.2⟩ (Nat.le_of_ble_eq_true rfl) dX6_count_136 ?_
                  refine g_aload_n K 0 dX6_count_139 rfl rfl ?_
                  refine g_get (v := .ref (X.ad 53)) K (e_ControlRegister kd_0) ltN_0 rfl 5 (by decide) rfl fw_X6_32 u_X6 dX6_count_140 ?_
                  obtain ⟨r13, e14, h⟩ := ob h
                  refine g_cvi (As := []) (rest := []) K (m_X1_mostRounds is_53 e14) yv_X1_mostRounds ml_X6_254 rfl rfl rfl (e_Control kd_53) ltN_53 rfl rfl ⟨Nat.le_trans (Nat.le_of_ble_eq_true rfl) hR.1, Nat.le_trans (Nat.le_of_ble_eq_true rfl) hR.2⟩ (Nat.le_of_ble_eq_true rfl) dX6_count_143 ?_
                  exact hr _ _ _ _ dX6_count_146 (rt2 h)
                · replace h := bn c10 h
                  rcases Classical.em (x1 = 7) with c15 | c15
                  · replace h := bp c15 h
                    refine g_tableIn (y := 7) (off := 122) (tgt := 147) K dX6_count_25 c15 (by decide) (by decide) (by decide) (by decide) ?_
                    refine g_aload_n K 0 dX6_count_147 rfl rfl ?_
                    obtain ⟨q16, e17, h⟩ := ob h
                    refine g_cvv (As := []) (rest := []) K (m_X6_trace e17) yv_X6_trace ml_X6_190 rfl rfl rfl (e_ControlRegister kd_0) ltN_0 rfl rfl ⟨Nat.le_trans (Nat.le_of_ble_eq_true rfl) hR.1, Nat.le_trans (Nat.le_of_ble_eq_true rfl) hR.2⟩ (Nat.le_of_ble_eq_true rfl) dX6_count_148 ?_
                    refine g_aload_n K 0 dX6_count_151 rfl rfl ?_
                    refine g_get (v := .ref (X.ad 88)) K (e_ControlRegister kd_0) ltN_0 rfl 9 (by decide) rfl fw_X6_53 u_X6 dX6_count_152 ?_
                    refine g_get (v := .int (q16.1 88 4)) K (e_Timeline kd_88) ltN_88 rfl 4 (by decide) rfl fw_X6_258 u_X5 dX6_count_155 ?_
                    exact hr _ _ _ _ dX6_count_158 (rt2 h)
                  · replace h := bn c15 h
                    rcases Classical.em (x1 = 8) with c18 | c18
                    · replace h := bp c18 h
                      refine g_tableIn (y := 8) (off := 134) (tgt := 159) K dX6_count_25 c18 (by decide) (by decide) (by decide) (by decide) ?_
                      refine g_aload_n K 0 dX6_count_159 rfl rfl ?_
                      obtain ⟨q19, e20, h⟩ := ob h
                      refine g_cvv (As := []) (rest := []) K (m_X6_bringUpToDate e20) yv_X6_bringUpToDate ml_X6_146 rfl rfl rfl (e_ControlRegister kd_0) ltN_0 rfl rfl ⟨Nat.le_trans (Nat.le_of_ble_eq_true rfl) hR.1, Nat.le_trans (Nat.le_of_ble_eq_true rfl) hR.2⟩ (Nat.le_of_ble_eq_true rfl) dX6_count_160 ?_
                      refine g_aload_n K 0 dX6_count_163 rfl rfl ?_
                      refine g_get (v := .ref (X.ad 79)) K (e_ControlRegister kd_0) ltN_0 rfl 6 (by decide) rfl fw_X6_39 u_X6 dX6_count_164 ?_
                      refine g_get (v := .int (q19.1 79 0)) K (e_Stakes kd_79) ltN_79 rfl 0 (by decide) rfl fw_X6_261 u_X4 dX6_count_167 ?_
                      exact hr _ _ _ _ dX6_count_170 (rt2 h)
                    · replace h := bn c18 h
                      rcases Classical.em (x1 = 9) with c21 | c21
                      · replace h := bp c21 h
                        refine g_tableIn (y := 9) (off := 146) (tgt := 171) K dX6_count_25 c21 (by decide) (by decide) (by decide) (by decide) ?_
                        refine g_aload_n K 0 dX6_count_171 rfl rfl ?_
                        refine g_get (v := .int (σ.1 0 3)) K (e_ControlRegister kd_0) ltN_0 rfl 3 (by decide) rfl fw_X6_245 u_X6 dX6_count_172 ?_
                        exact hr _ _ _ _ dX6_count_175 (rt2 h)
                      · replace h := bn c21 h
                        refine g_tableOut (tgt := 176) K dX6_count_25 (by have w0 := lv_neT (a := 0) c2 (by decide); have w1 := lv_neT (a := 1) c3 (by decide); have w2 := lv_neT (a := 2) c4 (by decide); have w3 := lv_neT (a := 3) c5 (by decide); have w4 := lv_neT (a := 4) c6 (by decide); have w5 := lv_neT (a := 5) c7 (by decide); have w6 := lv_neT (a := 6) c10 (by decide); have w7 := lv_neT (a := 7) c15 (by decide); have w8 := lv_neT (a := 8) c18 (by decide); have w9 := lv_neT (a := 9) c21 (by decide); omega) (by decide) ?_
                        refine g_bipush (v := (-2)) K dX6_count_176 bp_m2 ?_
                        exact hr _ _ _ _ dX6_count_178 (rt2 h)
  · replace h := bn c1 h
    refine g_iload_n K 1 dX6_count_6 rfl rfl ?_
    refine g_bipush (v := 50) K dX6_count_7 bp_50 ?_
    refine g_icmp_ge (tgt := 24) K dX6_count_9 (by decide) (fun c22 => ?_) (fun c22 => ?_)
    · replace h := bp c22 h
      refine g_iload_n K 1 dX6_count_24 rfl rfl ?_
      rcases Classical.em (x1 = 0) with c23 | c23
      · replace h := bp c23 h
        refine g_tableIn (y := 0) (off := 55) (tgt := 80) K dX6_count_25 c23 (by decide) (by decide) (by decide) (by decide) ?_
        refine g_aload_n K 0 dX6_count_80 rfl rfl ?_
        refine g_get (v := .ref (X.ad 1)) K (e_ControlRegister kd_0) ltN_0 rfl 0 (by decide) rfl fw_X6_12 u_X6 dX6_count_81 ?_
        refine g_get (v := .int (σ.1 1 7)) K (e_Book kd_1) ltN_1 rfl 7 (by decide) rfl fw_X6_96 u_X0 dX6_count_84 ?_
        exact hr _ _ _ _ dX6_count_87 (rt2 h)
      · replace h := bn c23 h
        rcases Classical.em (x1 = 1) with c24 | c24
        · replace h := bp c24 h
          refine g_tableIn (y := 1) (off := 63) (tgt := 88) K dX6_count_25 c24 (by decide) (by decide) (by decide) (by decide) ?_
          refine g_aload_n K 0 dX6_count_88 rfl rfl ?_
          refine g_get (v := .ref (X.ad 1)) K (e_ControlRegister kd_0) ltN_0 rfl 0 (by decide) rfl fw_X6_12 u_X6 dX6_count_89 ?_
          refine g_get (v := .int (σ.1 1 8)) K (e_Book kd_1) ltN_1 rfl 8 (by decide) rfl fw_X6_123 u_X0 dX6_count_92 ?_
          exact hr _ _ _ _ dX6_count_95 (rt2 h)
        · replace h := bn c24 h
          rcases Classical.em (x1 = 2) with c25 | c25
          · replace h := bp c25 h
            refine g_tableIn (y := 2) (off := 71) (tgt := 96) K dX6_count_25 c25 (by decide) (by decide) (by decide) (by decide) ?_
            refine g_aload_n K 0 dX6_count_96 rfl rfl ?_
            refine g_get (v := .ref (X.ad 1)) K (e_ControlRegister kd_0) ltN_0 rfl 0 (by decide) rfl fw_X6_12 u_X6 dX6_count_97 ?_
            refine g_get (v := .int (σ.1 1 9)) K (e_Book kd_1) ltN_1 rfl 9 (by decide) rfl fw_X6_134 u_X0 dX6_count_100 ?_
            exact hr _ _ _ _ dX6_count_103 (rt2 h)
          · replace h := bn c25 h
            rcases Classical.em (x1 = 3) with c26 | c26
            · replace h := bp c26 h
              refine g_tableIn (y := 3) (off := 79) (tgt := 104) K dX6_count_25 c26 (by decide) (by decide) (by decide) (by decide) ?_
              refine g_aload_n K 0 dX6_count_104 rfl rfl ?_
              refine g_get (v := .ref (X.ad 1)) K (e_ControlRegister kd_0) ltN_0 rfl 0 (by decide) rfl fw_X6_12 u_X6 dX6_count_105 ?_
              refine g_get (v := .int (σ.1 1 10)) K (e_Book kd_1) ltN_1 rfl 10 (by decide) rfl fw_X6_137 u_X0 dX6_count_108 ?_
              exact hr _ _ _ _ dX6_count_111 (rt2 h)
            · replace h := bn c26 h
              rcases Classical.em (x1 = 4) with c27 | c27
              · replace h := bp c27 h
                refine g_tableIn (y := 4) (off := 87) (tgt := 112) K dX6_count_25 c27 (by decide) (by decide) (by decide) (by decide) ?_
                refine g_aload_n K 0 dX6_count_112 rfl rfl ?_
                refine g_get (v := .ref (X.ad 1)) K (e_ControlRegister kd_0) ltN_0 rfl 0 (by decide) rfl fw_X6_12 u_X6 dX6_count_113 ?_
                refine g_get (v := .int (σ.1 1 11)) K (e_Book kd_1) ltN_1 rfl 11 (by decide) rfl fw_X6_140 u_X0 dX6_count_116 ?_
                exact hr _ _ _ _ dX6_count_119 (rt2 h)
              · replace h := bn c27 h
                rcases Classical.em (x1 = 5) with c28 | c28
                · replace h := bp c28 h
                  refine g_tableIn (y := 5) (off := 95) (tgt := 120) K dX6_count_25 c28 (by decide) (by decide) (by decide) (by decide) ?_
                  refine g_aload_n K 0 dX6_count_120 rfl rfl ?_
                  refine g_get (v := .ref (X.ad 1)) K (e_ControlRegister kd_0) ltN_0 rfl 0 (by decide) rfl fw_X6_12 u_X6 dX6_count_121 ?_
                  refine g_aload_n K 0 dX6_count_124 rfl rfl ?_
                  refine g_get (v := .ref (X.ad 1)) K (e_ControlRegister kd_0) ltN_0 rfl 0 (by decide) rfl fw_X6_12 u_X6 dX6_count_125 ?_
                  refine g_get (v := .int (σ.1 1 8)) K (e_Book kd_1) ltN_1 rfl 8 (by decide) rfl fw_X6_123 u_X0 dX6_count_128 ?_
                  obtain ⟨r29, e30, h⟩ := ob h
                  refine g_cvi (As := [.int (σ.1 1 8)]) (rest := []) K (m_X0_doneBy is_1 e30) yv_X0_doneBy ml_X6_251 rfl rfl rfl (e_Book kd_1) ltN_1 rfl rfl ⟨Nat.le_trans (Nat.le_of_ble_eq_true rfl) hR.1, Nat.le_trans (Nat.le_of_ble_eq_true rfl) hR.2⟩ (Nat.le_of_ble_eq_true rfl) dX6_count_131 ?_
                  exact hr _ _ _ _ dX6_count_134 (rt2 h)
                · replace h := bn c28 h
                  rcases Classical.em (x1 = 6) with c31 | c31
                  · replace h := bp c31 h
                    refine g_tableIn (y := 6) (off := 110) (tgt := 135) K dX6_count_25 c31 (by decide) (by decide) (by decide) (by decide) ?_
                    refine g_aload_n K 0 dX6_count_135 rfl rfl ?_
                    obtain ⟨q32, e33, h⟩ := ob h
                    refine g_cvv (As := []) (rest := []) K (m_X6_bringUpToDate e33) yv_X6_bringUpToDate ml_X6_146 rfl rfl rfl (e_ControlRegister kd_0) ltN_0 rfl rfl ⟨Nat.le_trans (Nat.le_of_ble_eq_true rfl) hR.1, Nat.le_trans (Nat.le_of_ble_eq_true rfl) hR.2⟩ (Nat.le_of_ble_eq_true rfl) dX6_count_136 ?_
                    refine g_aload_n K 0 dX6_count_139 rfl rfl ?_
                    refine g_get (v := .ref (X.ad 53)) K (e_ControlRegister kd_0) ltN_0 rfl 5 (by decide) rfl fw_X6_32 u_X6 dX6_count_140 ?_
                    obtain ⟨r34, e35, h⟩ := ob h
                    refine g_cvi (As := []) (rest := []) K (m_X1_mostRounds is_53 e35) yv_X1_mostRounds ml_X6_254 rfl rfl rfl (e_Control kd_53) ltN_53 rfl rfl ⟨Nat.le_trans (Nat.le_of_ble_eq_true rfl) hR.1, Nat.le_trans (Nat.le_of_ble_eq_true rfl) hR.2⟩ (Nat.le_of_ble_eq_true rfl) dX6_count_143 ?_
                    exact hr _ _ _ _ dX6_count_146 (rt2 h)
                  · replace h := bn c31 h
                    rcases Classical.em (x1 = 7) with c36 | c36
                    · replace h := bp c36 h
                      refine g_tableIn (y := 7) (off := 122) (tgt := 147) K dX6_count_25 c36 (by decide) (by decide) (by decide) (by decide) ?_
                      refine g_aload_n K 0 dX6_count_147 rfl rfl ?_
                      obtain ⟨q37, e38, h⟩ := ob h
                      refine g_cvv (As := []) (rest := []) K (m_X6_trace e38) yv_X6_trace ml_X6_190 rfl rfl rfl (e_ControlRegister kd_0) ltN_0 rfl rfl ⟨Nat.le_trans (Nat.le_of_ble_eq_true rfl) hR.1, Nat.le_trans (Nat.le_of_ble_eq_true rfl) hR.2⟩ (Nat.le_of_ble_eq_true rfl) dX6_count_148 ?_
                      refine g_aload_n K 0 dX6_count_151 rfl rfl ?_
                      refine g_get (v := .ref (X.ad 88)) K (e_ControlRegister kd_0) ltN_0 rfl 9 (by decide) rfl fw_X6_53 u_X6 dX6_count_152 ?_
                      refine g_get (v := .int (q37.1 88 4)) K (e_Timeline kd_88) ltN_88 rfl 4 (by decide) rfl fw_X6_258 u_X5 dX6_count_155 ?_
                      exact hr _ _ _ _ dX6_count_158 (rt2 h)
                    · replace h := bn c36 h
                      rcases Classical.em (x1 = 8) with c39 | c39
                      · replace h := bp c39 h
                        refine g_tableIn (y := 8) (off := 134) (tgt := 159) K dX6_count_25 c39 (by decide) (by decide) (by decide) (by decide) ?_
                        refine g_aload_n K 0 dX6_count_159 rfl rfl ?_
                        obtain ⟨q40, e41, h⟩ := ob h
                        refine g_cvv (As := []) (rest := []) K (m_X6_bringUpToDate e41) yv_X6_bringUpToDate ml_X6_146 rfl rfl rfl (e_ControlRegister kd_0) ltN_0 rfl rfl ⟨Nat.le_trans (Nat.le_of_ble_eq_true rfl) hR.1, Nat.le_trans (Nat.le_of_ble_eq_true rfl) hR.2⟩ (Nat.le_of_ble_eq_true rfl) dX6_count_160 ?_
                        refine g_aload_n K 0 dX6_count_163 rfl rfl ?_
                        refine g_get (v := .ref (X.ad 79)) K (e_ControlRegister kd_0) ltN_0 rfl 6 (by decide) rfl fw_X6_39 u_X6 dX6_count_164 ?_
                        refine g_get (v := .int (q40.1 79 0)) K (e_Stakes kd_79) ltN_79 rfl 0 (by decide) rfl fw_X6_261 u_X4 dX6_count_167 ?_
                        exact hr _ _ _ _ dX6_count_170 (rt2 h)
                      · replace h := bn c39 h
                        rcases Classical.em (x1 = 9) with c42 | c42
                        · replace h := bp c42 h
                          refine g_tableIn (y := 9) (off := 146) (tgt := 171) K dX6_count_25 c42 (by decide) (by decide) (by decide) (by decide) ?_
                          refine g_aload_n K 0 dX6_count_171 rfl rfl ?_
                          refine g_get (v := .int (σ.1 0 3)) K (e_ControlRegister kd_0) ltN_0 rfl 3 (by decide) rfl fw_X6_245 u_X6 dX6_count_172 ?_
                          exact hr _ _ _ _ dX6_count_175 (rt2 h)
                        · replace h := bn c42 h
                          refine g_tableOut (tgt := 176) K dX6_count_25 (by have w0 := lv_neT (a := 0) c23 (by decide); have w1 := lv_neT (a := 1) c24 (by decide); have w2 := lv_neT (a := 2) c25 (by decide); have w3 := lv_neT (a := 3) c26 (by decide); have w4 := lv_neT (a := 4) c27 (by decide); have w5 := lv_neT (a := 5) c28 (by decide); have w6 := lv_neT (a := 6) c31 (by decide); have w7 := lv_neT (a := 7) c36 (by decide); have w8 := lv_neT (a := 8) c39 (by decide); have w9 := lv_neT (a := 9) c42 (by decide); omega) (by decide) ?_
                          refine g_bipush (v := (-2)) K dX6_count_176 bp_m2 ?_
                          exact hr _ _ _ _ dX6_count_178 (rt2 h)
    · replace h := bn c22 h
      refine g_aload_n K 0 dX6_count_12 rfl rfl ?_
      refine g_get (v := .ref (X.ad 1)) K (e_ControlRegister kd_0) ltN_0 rfl 0 (by decide) rfl fw_X6_12 u_X6 dX6_count_13 ?_
      refine g_iload_n K 1 dX6_count_16 rfl rfl ?_
      refine g_bipush (v := 10) K dX6_count_17 bp_10 ?_
      refine g_isub K dX6_count_19 ?_
      obtain ⟨r43, e44, h⟩ := ob h
      refine g_cvi (As := [.int (x1 - 10)]) (rest := []) K (m_X0_unlikeDay is_1 e44) yv_X0_unlikeDay ml_X6_248 rfl rfl rfl (e_Book kd_1) ltN_1 rfl rfl ⟨Nat.le_trans (Nat.le_of_ble_eq_true rfl) hR.1, Nat.le_trans (Nat.le_of_ble_eq_true rfl) hR.2⟩ (Nat.le_of_ble_eq_true rfl) dX6_count_20 ?_
      exact hr _ _ _ _ dX6_count_23 (rt2 h)
theorem m_X6_count {x1 : Int32} {σ : Sg}  {r : Int32 × Sg} (h : f_X6_count x1 σ = some r) : CI yX6_count cX6_count 2 (some .int) 6 147 (fun ad => [.ref (ad 0), .int x1]) σ r.1 r.2 :=
  CI.of (by decide) (fun _ => Nat.le_of_ble_eq_true rfl) (fun X K hR hr => w_X6_count K hR h hr)
