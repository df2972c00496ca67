def f_X6_isHolder (x0 : Int32) : Int32 :=
  if x0 < 0 then
  (0)
  else
  (if 10 ≤ x0 then
  (0)
  else
  (1))
set_option maxRecDepth 20000 in
set_option maxHeartbeats 4000000 in
theorem w_X6_isHolder {X : Ctx} (K : Cok X cX6_isHolder 1 RX6) (hR : 0 ≤ X.R.frames ∧ 0 ≤ X.R.locals) {x0 : Int32} {σ : Sg}  {r : Int32} (h : f_X6_isHolder x0 = r) (hr : RZ X cX6_isHolder 1 (r, σ)) : G X 1 0 [(0, .int x0)] [] σ := by
  unfold f_X6_isHolder at h
  refine g_iload_n K 0 dX6_isHolder_0 rfl rfl ?_
  refine g_if_lt (tgt := 14) K dX6_isHolder_1 (by decide) (fun c1 => ?_) (fun c1 => ?_)
  · replace h := bp c1 h
    refine g_iconst (v := 0) K dX6_isHolder_14 ic_0 ?_
    exact hr _ _ _ _ dX6_isHolder_15 (rt0 h) nb_0
  · replace h := bn c1 h
    refine g_iload_n K 0 dX6_isHolder_4 rfl rfl ?_
    refine g_bipush (v := 10) K dX6_isHolder_5 bp_10 ?_
    refine g_icmp_ge (tgt := 14) K dX6_isHolder_7 (by decide) (fun c2 => ?_) (fun c2 => ?_)
    · replace h := bp c2 h
      refine g_iconst (v := 0) K dX6_isHolder_14 ic_0 ?_
      exact hr _ _ _ _ dX6_isHolder_15 (rt0 h) nb_0
    · replace h := bn c2 h
      refine g_iconst (v := 1) K dX6_isHolder_10 ic_1 ?_
      refine g_goto (tgt := 15) K dX6_isHolder_11 (by decide) ?_
      exact hr _ _ _ _ dX6_isHolder_15 (rt0 h) nb_1
theorem m_X6_isHolder (x0 : Int32) (σ : Sg)  : CI yX6_isHolder cX6_isHolder 1 (some .boolean) 0 0 (fun ad => [.int x0]) σ (f_X6_isHolder x0) σ :=
  CZ.of (by decide) (fun _ => Nat.le_of_ble_eq_true rfl) (fun X K hR hr => w_X6_isHolder K hR rfl hr)
theorem nz_X6_isHolder (x0 : Int32) : narrow .boolean (.int (f_X6_isHolder x0)) = .int (f_X6_isHolder x0) := by
  unfold f_X6_isHolder
  (repeat' split) <;> rfl
def f_X6_isFirm (x0 : Int32) : Int32 :=
  if x0 < 0 then
  (0)
  else
  (if 5 ≤ x0 then
  (0)
  else
  (1))
set_option maxRecDepth 20000 in
set_option maxHeartbeats 4000000 in
theorem w_X6_isFirm {X : Ctx} (K : Cok X cX6_isFirm 1 RX6) (hR : 0 ≤ X.R.frames ∧ 0 ≤ X.R.locals) {x0 : Int32} {σ : Sg}  {r : Int32} (h : f_X6_isFirm x0 = r) (hr : RZ X cX6_isFirm 1 (r, σ)) : G X 1 0 [(0, .int x0)] [] σ := by
  unfold f_X6_isFirm at h
  refine g_iload_n K 0 dX6_isFirm_0 rfl rfl ?_
  refine g_if_lt (tgt := 13) K dX6_isFirm_1 (by decide) (fun c1 => ?_) (fun c1 => ?_)
  · replace h := bp c1 h
    refine g_iconst (v := 0) K dX6_isFirm_13 ic_0 ?_
    exact hr _ _ _ _ dX6_isFirm_14 (rt0 h) nb_0
  · replace h := bn c1 h
    refine g_iload_n K 0 dX6_isFirm_4 rfl rfl ?_
    refine g_iconst (v := 5) K dX6_isFirm_5 ic_5 ?_
    refine g_icmp_ge (tgt := 13) K dX6_isFirm_6 (by decide) (fun c2 => ?_) (fun c2 => ?_)
    · replace h := bp c2 h
      refine g_iconst (v := 0) K dX6_isFirm_13 ic_0 ?_
      exact hr _ _ _ _ dX6_isFirm_14 (rt0 h) nb_0
    · replace h := bn c2 h
      refine g_iconst (v := 1) K dX6_isFirm_9 ic_1 ?_
      refine g_goto (tgt := 14) K dX6_isFirm_10 (by decide) ?_
      exact hr _ _ _ _ dX6_isFirm_14 (rt0 h) nb_1
theorem m_X6_isFirm (x0 : Int32) (σ : Sg)  : CI yX6_isFirm cX6_isFirm 1 (some .boolean) 0 0 (fun ad => [.int x0]) σ (f_X6_isFirm x0) σ :=
  CZ.of (by decide) (fun _ => Nat.le_of_ble_eq_true rfl) (fun X K hR hr => w_X6_isFirm K hR rfl hr)
theorem nz_X6_isFirm (x0 : Int32) : narrow .boolean (.int (f_X6_isFirm x0)) = .int (f_X6_isFirm x0) := by
  unfold f_X6_isFirm
  (repeat' split) <;> rfl
def f_X6_isDay (x0 : Int32) : Int32 :=
  if x0 < 0 then
  (0)
  else
  (if 999 < x0 then
  (0)
  else
  (1))
set_option maxRecDepth 20000 in
set_option maxHeartbeats 4000000 in
theorem w_X6_isDay {X : Ctx} (K : Cok X cX6_isDay 1 RX6) (hR : 0 ≤ X.R.frames ∧ 0 ≤ X.R.locals) {x0 : Int32} {σ : Sg}  {r : Int32} (h : f_X6_isDay x0 = r) (hr : RZ X cX6_isDay 1 (r, σ)) : G X 1 0 [(0, .int x0)] [] σ := by
  unfold f_X6_isDay at h
  refine g_iload_n K 0 dX6_isDay_0 rfl rfl ?_
  refine g_if_lt (tgt := 15) K dX6_isDay_1 (by decide) (fun c1 => ?_) (fun c1 => ?_)
  · replace h := bp c1 h
    refine g_iconst (v := 0) K dX6_isDay_15 ic_0 ?_
    exact hr _ _ _ _ dX6_isDay_16 (rt0 h) nb_0
  · replace h := bn c1 h
    refine g_iload_n K 0 dX6_isDay_4 rfl rfl ?_
    refine g_sipush (v := 999) K dX6_isDay_5 sp_999 ?_
    refine g_icmp_gt (tgt := 15) K dX6_isDay_8 (by decide) (fun c2 => ?_) (fun c2 => ?_)
    · replace h := bp c2 h
      refine g_iconst (v := 0) K dX6_isDay_15 ic_0 ?_
      exact hr _ _ _ _ dX6_isDay_16 (rt0 h) nb_0
    · replace h := bn c2 h
      refine g_iconst (v := 1) K dX6_isDay_11 ic_1 ?_
      refine g_goto (tgt := 16) K dX6_isDay_12 (by decide) ?_
      exact hr _ _ _ _ dX6_isDay_16 (rt0 h) nb_1
theorem m_X6_isDay (x0 : Int32) (σ : Sg)  : CI yX6_isDay cX6_isDay 1 (some .boolean) 0 0 (fun ad => [.int x0]) σ (f_X6_isDay x0) σ :=
  CZ.of (by decide) (fun _ => Nat.le_of_ble_eq_true rfl) (fun X K hR hr => w_X6_isDay K hR rfl hr)
theorem nz_X6_isDay (x0 : Int32) : narrow .boolean (.int (f_X6_isDay x0)) = .int (f_X6_isDay x0) := by
  unfold f_X6_isDay
  (repeat' split) <;> rfl
def f_X6_holderOf (x0 : Int32) : Int32 :=
  (4 + x0)
set_option maxRecDepth 20000 in
set_option maxHeartbeats 4000000 in
theorem w_X6_holderOf {X : Ctx} (K : Cok X cX6_holderOf 1 RX6) (hR : 0 ≤ X.R.frames ∧ 0 ≤ X.R.locals) {x0 : Int32} {σ : Sg}  {r : Int32} (h : f_X6_holderOf x0 = r) (hr : RI X cX6_holderOf 1 (r, σ)) : G X 1 0 [(0, .int x0)] [] σ := by
  unfold f_X6_holderOf at h
  refine g_iconst (v := 4) K dX6_holderOf_0 ic_4 ?_
  refine g_iload_n K 0 dX6_holderOf_1 rfl rfl ?_
  refine g_iadd K dX6_holderOf_2 ?_
  exact hr _ _ _ _ dX6_holderOf_3 (rt0 h)
theorem m_X6_holderOf (x0 : Int32) (σ : Sg)  : CI yX6_holderOf cX6_holderOf 1 (some .int) 0 0 (fun ad => [.int x0]) σ (f_X6_holderOf x0) σ :=
  CI.of (by decide) (fun _ => Nat.le_of_ble_eq_true rfl) (fun X K hR hr => w_X6_holderOf K hR rfl hr)
def f_X6_isController (x0 : Int32) : Int32 :=
  if x0 < 0 then
  (0)
  else
  (if 9 ≤ x0 then
  (0)
  else
  (1))
set_option maxRecDepth 20000 in
set_option maxHeartbeats 4000000 in
theorem w_X6_isController {X : Ctx} (K : Cok X cX6_isController 1 RX6) (hR : 0 ≤ X.R.frames ∧ 0 ≤ X.R.locals) {x0 : Int32} {σ : Sg}  {r : Int32} (h : f_X6_isController x0 = r) (hr : RZ X cX6_isController 1 (r, σ)) : G X 1 0 [(0, .int x0)] [] σ := by
  unfold f_X6_isController at h
  refine g_iload_n K 0 dX6_isController_0 rfl rfl ?_
  refine g_if_lt (tgt := 14) K dX6_isController_1 (by decide) (fun c1 => ?_) (fun c1 => ?_)
  · replace h := bp c1 h
    refine g_iconst (v := 0) K dX6_isController_14 ic_0 ?_
    exact hr _ _ _ _ dX6_isController_15 (rt0 h) nb_0
  · replace h := bn c1 h
    refine g_iload_n K 0 dX6_isController_4 rfl rfl ?_
    refine g_bipush (v := 9) K dX6_isController_5 bp_9 ?_
    refine g_icmp_ge (tgt := 14) K dX6_isController_7 (by decide) (fun c2 => ?_) (fun c2 => ?_)
    · replace h := bp c2 h
      refine g_iconst (v := 0) K dX6_isController_14 ic_0 ?_
      exact hr _ _ _ _ dX6_isController_15 (rt0 h) nb_0
    · replace h := bn c2 h
      refine g_iconst (v := 1) K dX6_isController_10 ic_1 ?_
      refine g_goto (tgt := 15) K dX6_isController_11 (by decide) ?_
      exact hr _ _ _ _ dX6_isController_15 (rt0 h) nb_1
theorem m_X6_isController (x0 : Int32) (σ : Sg)  : CI yX6_isController cX6_isController 1 (some .boolean) 0 0 (fun ad => [.int x0]) σ (f_X6_isController x0) σ :=
  CZ.of (by decide) (fun _ => Nat.le_of_ble_eq_true rfl) (fun X K hR hr => w_X6_isController K hR rfl hr)
theorem nz_X6_isController (x0 : Int32) : narrow .boolean (.int (f_X6_isController x0)) = .int (f_X6_isController x0) := by
  unfold f_X6_isController
  (repeat' split) <;> rfl
def f_X6_isYesOrNo (x0 : Int32) : Int32 :=
  if x0 = 0 then
  (1)
  else
  (if x0 = 1 then
  (1)
  else
  (0))
set_option maxRecDepth 20000 in
set_option maxHeartbeats 4000000 in
theorem w_X6_isYesOrNo {X : Ctx} (K : Cok X cX6_isYesOrNo 1 RX6) (hR : 0 ≤ X.R.frames ∧ 0 ≤ X.R.locals) {x0 : Int32} {σ : Sg}  {r : Int32} (h : f_X6_isYesOrNo x0 = r) (hr : RZ X cX6_isYesOrNo 1 (r, σ)) : G X 1 0 [(0, .int x0)] [] σ := by
  unfold f_X6_isYesOrNo at h
  refine g_iload_n K 0 dX6_isYesOrNo_0 rfl rfl ?_
  refine g_if_eq (tgt := 9) K dX6_isYesOrNo_1 (by decide) (fun c1 => ?_) (fun c1 => ?_)
  · replace h := bp c1 h
    refine g_iconst (v := 1) K dX6_isYesOrNo_9 ic_1 ?_
    refine g_goto (tgt := 14) K dX6_isYesOrNo_10 (by decide) ?_
    exact hr _ _ _ _ dX6_isYesOrNo_14 (rt0 h) nb_1
  · replace h := bn c1 h
    refine g_iload_n K 0 dX6_isYesOrNo_4 rfl rfl ?_
    refine g_iconst (v := 1) K dX6_isYesOrNo_5 ic_1 ?_
    refine g_icmp_ne (tgt := 13) K dX6_isYesOrNo_6 (by decide) (fun c2 => ?_) (fun c2 => ?_)
    · replace h := bn c2 h
      refine g_iconst (v := 0) K dX6_isYesOrNo_13 ic_0 ?_
      exact hr _ _ _ _ dX6_isYesOrNo_14 (rt0 h) nb_0
    · replace h := bp c2 h
      refine g_iconst (v := 1) K dX6_isYesOrNo_9 ic_1 ?_
      refine g_goto (tgt := 14) K dX6_isYesOrNo_10 (by decide) ?_
      exact hr _ _ _ _ dX6_isYesOrNo_14 (rt0 h) nb_1
theorem m_X6_isYesOrNo (x0 : Int32) (σ : Sg)  : CI yX6_isYesOrNo cX6_isYesOrNo 1 (some .boolean) 0 0 (fun ad => [.int x0]) σ (f_X6_isYesOrNo x0) σ :=
  CZ.of (by decide) (fun _ => Nat.le_of_ble_eq_true rfl) (fun X K hR hr => w_X6_isYesOrNo K hR rfl hr)
theorem nz_X6_isYesOrNo (x0 : Int32) : narrow .boolean (.int (f_X6_isYesOrNo x0)) = .int (f_X6_isYesOrNo x0) := by
  unfold f_X6_isYesOrNo
  (repeat' split) <;> rfl
def f_X6_asNumber (x0 : Int32) : Int32 :=
  if x0 = 0 then
  (0)
  else
  (1)
set_option maxRecDepth 20000 in
set_option maxHeartbeats 4000000 in
theorem w_X6_asNumber {X : Ctx} (K : Cok X cX6_asNumber 1 RX6) (hR : 0 ≤ X.R.frames ∧ 0 ≤ X.R.locals) {x0 : Int32} {σ : Sg}  {r : Int32} (h : f_X6_asNumber x0 = r) (hr : RI X cX6_asNumber 1 (r, σ)) : G X 1 0 [(0, .int x0)] [] σ := by
  unfold f_X6_asNumber at h
  refine g_iload_n K 0 dX6_asNumber_0 rfl rfl ?_
  refine g_if_eq (tgt := 8) K dX6_asNumber_1 (by decide) (fun c1 => ?_) (fun c1 => ?_)
  · replace h := bp c1 h
    refine g_iconst (v := 0) K dX6_asNumber_8 ic_0 ?_
    exact hr _ _ _ _ dX6_asNumber_9 (rt0 h)
  · replace h := bn c1 h
    refine g_iconst (v := 1) K dX6_asNumber_4 ic_1 ?_
    refine g_goto (tgt := 9) K dX6_asNumber_5 (by decide) ?_
    exact hr _ _ _ _ dX6_asNumber_9 (rt0 h)
theorem m_X6_asNumber (x0 : Int32) (σ : Sg)  : CI yX6_asNumber cX6_asNumber 1 (some .int) 0 0 (fun ad => [.int x0]) σ (f_X6_asNumber x0) σ :=
  CI.of (by decide) (fun _ => Nat.le_of_ble_eq_true rfl) (fun X K hR hr => w_X6_asNumber K hR rfl hr)
def f_X6_has (x0 : Int32) (x1 : Int32) : Int32 :=
  if ((x0 >>> (x1 &&& 31)) &&& 1) = 1 then
  (1)
  else
  (0)
set_option maxRecDepth 20000 in
set_option maxHeartbeats 4000000 in
theorem w_X6_has {X : Ctx} (K : Cok X cX6_has 2 RX6) (hR : 0 ≤ X.R.frames ∧ 0 ≤ X.R.locals) {x0 : Int32} {x1 : Int32} {σ : Sg}  {r : Int32} (h : f_X6_has x0 x1 = r) (hr : RZ X cX6_has 2 (r, σ)) : G X 2 0 [(0, .int x0), (1, .int x1)] [] σ := by
  unfold f_X6_has at h
  refine g_iload_n K 0 dX6_has_0 rfl rfl ?_
  refine g_iload_n K 1 dX6_has_1 rfl rfl ?_
  refine g_ishr K dX6_has_2 ?_
  refine g_iconst (v := 1) K dX6_has_3 ic_1 ?_
  refine g_iand K dX6_has_4 ?_
  refine g_iconst (v := 1) K dX6_has_5 ic_1 ?_
  refine g_icmp_ne (tgt := 13) K dX6_has_6 (by decide) (fun c1 => ?_) (fun c1 => ?_)
  · replace h := bn c1 h
    refine g_iconst (v := 0) K dX6_has_13 ic_0 ?_
    exact hr _ _ _ _ dX6_has_14 (rt0 h) nb_0
  · replace h := bp c1 h
    refine g_iconst (v := 1) K dX6_has_9 ic_1 ?_
    refine g_goto (tgt := 14) K dX6_has_10 (by decide) ?_
    exact hr _ _ _ _ dX6_has_14 (rt0 h) nb_1
theorem m_X6_has (x0 : Int32) (x1 : Int32) (σ : Sg)  : CI yX6_has cX6_has 2 (some .boolean) 0 0 (fun ad => [.int x0, .int x1]) σ (f_X6_has x0 x1) σ :=
  CZ.of (by decide) (fun _ => Nat.le_of_ble_eq_true rfl) (fun X K hR hr => w_X6_has K hR rfl hr)
theorem nz_X6_has (x0 : Int32) (x1 : Int32) : narrow .boolean (.int (f_X6_has x0 x1)) = .int (f_X6_has x0 x1) := by
  unfold f_X6_has
  (repeat' split) <;> rfl
def f_X6_isPerson (x0 : Int32) : Int32 :=
  if x0 < 0 then
  (0)
  else
  (if 4 ≤ x0 then
  (0)
  else
  (1))
set_option maxRecDepth 20000 in
set_option maxHeartbeats 4000000 in
theorem w_X6_isPerson {X : Ctx} (K : Cok X cX6_isPerson 1 RX6) (hR : 0 ≤ X.R.frames ∧ 0 ≤ X.R.locals) {x0 : Int32} {σ : Sg}  {r : Int32} (h : f_X6_isPerson x0 = r) (hr : RZ X cX6_isPerson 1 (r, σ)) : G X 1 0 [(0, .int x0)] [] σ := by
  unfold f_X6_isPerson at h
  refine g_iload_n K 0 dX6_isPerson_0 rfl rfl ?_
  refine g_if_lt (tgt := 13) K dX6_isPerson_1 (by decide) (fun c1 => ?_) (fun c1 => ?_)
  · replace h := bp c1 h
    refine g_iconst (v := 0) K dX6_isPerson_13 ic_0 ?_
    exact hr _ _ _ _ dX6_isPerson_14 (rt0 h) nb_0
  · replace h := bn c1 h
    refine g_iload_n K 0 dX6_isPerson_4 rfl rfl ?_
    refine g_iconst (v := 4) K dX6_isPerson_5 ic_4 ?_
    refine g_icmp_ge (tgt := 13) K dX6_isPerson_6 (by decide) (fun c2 => ?_) (fun c2 => ?_)
    · replace h := bp c2 h
      refine g_iconst (v := 0) K dX6_isPerson_13 ic_0 ?_
      exact hr _ _ _ _ dX6_isPerson_14 (rt0 h) nb_0
    · replace h := bn c2 h
      refine g_iconst (v := 1) K dX6_isPerson_9 ic_1 ?_
      refine g_goto (tgt := 14) K dX6_isPerson_10 (by decide) ?_
      exact hr _ _ _ _ dX6_isPerson_14 (rt0 h) nb_1
theorem m_X6_isPerson (x0 : Int32) (σ : Sg)  : CI yX6_isPerson cX6_isPerson 1 (some .boolean) 0 0 (fun ad => [.int x0]) σ (f_X6_isPerson x0) σ :=
  CZ.of (by decide) (fun _ => Nat.le_of_ble_eq_true rfl) (fun X K hR hr => w_X6_isPerson K hR rfl hr)
theorem nz_X6_isPerson (x0 : Int32) : narrow .boolean (.int (f_X6_isPerson x0)) = .int (f_X6_isPerson x0) := by
  unfold f_X6_isPerson
  (repeat' split) <;> rfl
def f_J6_bitCount_0f7a4 (x0 : Int32) : Int32 :=
  ((((((((x0 - ((((Int32.toUInt32 x0) >>> ((Int32.toUInt32 1) &&& Int32.toUInt32 31)).toInt32) &&& 1431655765)) &&& 858993459) + ((((Int32.toUInt32 (x0 - ((((Int32.toUInt32 x0) >>> ((Int32.toUInt32 1) &&& Int32.toUInt32 31)).toInt32) &&& 1431655765))) >>> ((Int32.toUInt32 2) &&& Int32.toUInt32 31)).toInt32) &&& 858993459)) + (((Int32.toUInt32 (((x0 - ((((Int32.toUInt32 x0) >>> ((Int32.toUInt32 1) &&& Int32.toUInt32 31)).toInt32) &&& 1431655765)) &&& 858993459) + ((((Int32.toUInt32 (x0 - ((((Int32.toUInt32 x0) >>> ((Int32.toUInt32 1) &&& Int32.toUInt32 31)).toInt32) &&& 1431655765))) >>> ((Int32.toUInt32 2) &&& Int32.toUInt32 31)).toInt32) &&& 858993459))) >>> ((Int32.toUInt32 4) &&& Int32.toUInt32 31)).toInt32)) &&& 252645135) + (((Int32.toUInt32 (((((x0 - ((((Int32.toUInt32 x0) >>> ((Int32.toUInt32 1) &&& Int32.toUInt32 31)).toInt32) &&& 1431655765)) &&& 858993459) + ((((Int32.toUInt32 (x0 - ((((Int32.toUInt32 x0) >>> ((Int32.toUInt32 1) &&& Int32.toUInt32 31)).toInt32) &&& 1431655765))) >>> ((Int32.toUInt32 2) &&& Int32.toUInt32 31)).toInt32) &&& 858993459)) + (((Int32.toUInt32 (((x0 - ((((Int32.toUInt32 x0) >>> ((Int32.toUInt32 1) &&& Int32.toUInt32 31)).toInt32) &&& 1431655765)) &&& 858993459) + ((((Int32.toUInt32 (x0 - ((((Int32.toUInt32 x0) >>> ((Int32.toUInt32 1) &&& Int32.toUInt32 31)).toInt32) &&& 1431655765))) >>> ((Int32.toUInt32 2) &&& Int32.toUInt32 31)).toInt32) &&& 858993459))) >>> ((Int32.toUInt32 4) &&& Int32.toUInt32 31)).toInt32)) &&& 252645135)) >>> ((Int32.toUInt32 8) &&& Int32.toUInt32 31)).toInt32)) + (((Int32.toUInt32 ((((((x0 - ((((Int32.toUInt32 x0) >>> ((Int32.toUInt32 1) &&& Int32.toUInt32 31)).toInt32) &&& 1431655765)) &&& 858993459) + ((((Int32.toUInt32 (x0 - ((((Int32.toUInt32 x0) >>> ((Int32.toUInt32 1) &&& Int32.toUInt32 31)).toInt32) &&& 1431655765))) >>> ((Int32.toUInt32 2) &&& Int32.toUInt32 31)).toInt32) &&& 858993459)) + (((Int32.toUInt32 (((x0 - ((((Int32.toUInt32 x0) >>> ((Int32.toUInt32 1) &&& Int32.toUInt32 31)).toInt32) &&& 1431655765)) &&& 858993459) + ((((Int32.toUInt32 (x0 - ((((Int32.toUInt32 x0) >>> ((Int32.toUInt32 1) &&& Int32.toUInt32 31)).toInt32) &&& 1431655765))) >>> ((Int32.toUInt32 2) &&& Int32.toUInt32 31)).toInt32) &&& 858993459))) >>> ((Int32.toUInt32 4) &&& Int32.toUInt32 31)).toInt32)) &&& 252645135) + (((Int32.toUInt32 (((((x0 - ((((Int32.toUInt32 x0) >>> ((Int32.toUInt32 1) &&& Int32.toUInt32 31)).toInt32) &&& 1431655765)) &&& 858993459) + ((((Int32.toUInt32 (x0 - ((((Int32.toUInt32 x0) >>> ((Int32.toUInt32 1) &&& Int32.toUInt32 31)).toInt32) &&& 1431655765))) >>> ((Int32.toUInt32 2) &&& Int32.toUInt32 31)).toInt32) &&& 858993459)) + (((Int32.toUInt32 (((x0 - ((((Int32.toUInt32 x0) >>> ((Int32.toUInt32 1) &&& Int32.toUInt32 31)).toInt32) &&& 1431655765)) &&& 858993459) + ((((Int32.toUInt32 (x0 - ((((Int32.toUInt32 x0) >>> ((Int32.toUInt32 1) &&& Int32.toUInt32 31)).toInt32) &&& 1431655765))) >>> ((Int32.toUInt32 2) &&& Int32.toUInt32 31)).toInt32) &&& 858993459))) >>> ((Int32.toUInt32 4) &&& Int32.toUInt32 31)).toInt32)) &&& 252645135)) >>> ((Int32.toUInt32 8) &&& Int32.toUInt32 31)).toInt32))) >>> ((Int32.toUInt32 16) &&& Int32.toUInt32 31)).toInt32)) &&& 63)
set_option maxRecDepth 20000 in
set_option maxHeartbeats 4000000 in
theorem w_J6_bitCount_0f7a4 {X : Ctx} (K : Cok X cJ6_bitCount_0f7a4 1 RJ6) (hR : 0 ≤ X.R.frames ∧ 0 ≤ X.R.locals) {x0 : Int32} {σ : Sg}  {r : Int32} (h : f_J6_bitCount_0f7a4 x0 = r) (hr : RI X cJ6_bitCount_0f7a4 1 (r, σ)) : G X 1 0 [(0, .int x0)] [] σ := by
  unfold f_J6_bitCount_0f7a4 at h
  refine g_iload_n K 0 dJ6_bitCount_0f7a4_0 rfl rfl ?_
  refine g_iload_n K 0 dJ6_bitCount_0f7a4_1 rfl rfl ?_
  refine g_iconst (v := 1) K dJ6_bitCount_0f7a4_2 ic_1 ?_
  refine g_iushr (v := ((Int32.toUInt32 x0) >>> ((Int32.toUInt32 1) &&& Int32.toUInt32 31)).toInt32) K dJ6_bitCount_0f7a4_3 rfl ?_
  refine g_ldcw (v := 1431655765) K ci_J6_265 dJ6_bitCount_0f7a4_4 ?_
  refine g_iand K dJ6_bitCount_0f7a4_7 ?_
  refine g_isub K dJ6_bitCount_0f7a4_8 ?_
  refine g_istore_n (lv' := [(0, .int (x0 - ((((Int32.toUInt32 x0) >>> ((Int32.toUInt32 1) &&& Int32.toUInt32 31)).toInt32) &&& 1431655765)))]) K dJ6_bitCount_0f7a4_9 rfl (by decide) rfl ?_
  refine g_iload_n K 0 dJ6_bitCount_0f7a4_10 rfl rfl ?_
  refine g_ldcw (v := 858993459) K ci_J6_266 dJ6_bitCount_0f7a4_11 ?_
  refine g_iand K dJ6_bitCount_0f7a4_14 ?_
  refine g_iload_n K 0 dJ6_bitCount_0f7a4_15 rfl rfl ?_
  refine g_iconst (v := 2) K dJ6_bitCount_0f7a4_16 ic_2 ?_
  refine g_iushr (v := ((Int32.toUInt32 (x0 - ((((Int32.toUInt32 x0) >>> ((Int32.toUInt32 1) &&& Int32.toUInt32 31)).toInt32) &&& 1431655765))) >>> ((Int32.toUInt32 2) &&& Int32.toUInt32 31)).toInt32) K dJ6_bitCount_0f7a4_17 rfl ?_
  refine g_ldcw (v := 858993459) K ci_J6_266 dJ6_bitCount_0f7a4_18 ?_
  refine g_iand K dJ6_bitCount_0f7a4_21 ?_
  refine g_iadd K dJ6_bitCount_0f7a4_22 ?_
  refine g_istore_n (lv' := [(0, .int (((x0 - ((((Int32.toUInt32 x0) >>> ((Int32.toUInt32 1) &&& Int32.toUInt32 31)).toInt32) &&& 1431655765)) &&& 858993459) + ((((Int32.toUInt32 (x0 - ((((Int32.toUInt32 x0) >>> ((Int32.toUInt32 1) &&& Int32.toUInt32 31)).toInt32) &&& 1431655765))) >>> ((Int32.toUInt32 2) &&& Int32.toUInt32 31)).toInt32) &&& 858993459)))]) K dJ6_bitCount_0f7a4_23 rfl (by decide) rfl ?_
  refine g_iload_n K 0 dJ6_bitCount_0f7a4_24 rfl rfl ?_
  refine g_iload_n K 0 dJ6_bitCount_0f7a4_25 rfl rfl ?_
  refine g_iconst (v := 4) K dJ6_bitCount_0f7a4_26 ic_4 ?_
  refine g_iushr (v := ((Int32.toUInt32 (((x0 - ((((Int32.toUInt32 x0) >>> ((Int32.toUInt32 1) &&& Int32.toUInt32 31)).toInt32) &&& 1431655765)) &&& 858993459) + ((((Int32.toUInt32 (x0 - ((((Int32.toUInt32 x0) >>> ((Int32.toUInt32 1) &&& Int32.toUInt32 31)).toInt32) &&& 1431655765))) >>> ((Int32.toUInt32 2) &&& Int32.toUInt32 31)).toInt32) &&& 858993459))) >>> ((Int32.toUInt32 4) &&& Int32.toUInt32 31)).toInt32) K dJ6_bitCount_0f7a4_27 rfl ?_
  refine g_iadd K dJ6_bitCount_0f7a4_28 ?_
  refine g_ldcw (v := 252645135) K ci_J6_267 dJ6_bitCount_0f7a4_29 ?_
  refine g_iand K dJ6_bitCount_0f7a4_32 ?_
  refine g_istore_n (lv' := [(0, .int (((((x0 - ((((Int32.toUInt32 x0) >>> ((Int32.toUInt32 1) &&& Int32.toUInt32 31)).toInt32) &&& 1431655765)) &&& 858993459) + ((((Int32.toUInt32 (x0 - ((((Int32.toUInt32 x0) >>> ((Int32.toUInt32 1) &&& Int32.toUInt32 31)).toInt32) &&& 1431655765))) >>> ((Int32.toUInt32 2) &&& Int32.toUInt32 31)).toInt32) &&& 858993459)) + (((Int32.toUInt32 (((x0 - ((((Int32.toUInt32 x0) >>> ((Int32.toUInt32 1) &&& Int32.toUInt32 31)).toInt32) &&& 1431655765)) &&& 858993459) + ((((Int32.toUInt32 (x0 - ((((Int32.toUInt32 x0) >>> ((Int32.toUInt32 1) &&& Int32.toUInt32 31)).toInt32) &&& 1431655765))) >>> ((Int32.toUInt32 2) &&& Int32.toUInt32 31)).toInt32) &&& 858993459))) >>> ((Int32.toUInt32 4) &&& Int32.toUInt32 31)).toInt32)) &&& 252645135))]) K dJ6_bitCount_0f7a4_33 rfl (by decide) rfl ?_
  refine g_iload_n K 0 dJ6_bitCount_0f7a4_34 rfl rfl ?_
  refine g_iload_n K 0 dJ6_bitCount_0f7a4_35 rfl rfl ?_
  refine g_bipush (v := 8) K dJ6_bitCount_0f7a4_36 bp_8 ?_
  refine g_iushr (v := ((Int32.toUInt32 (((((x0 - ((((Int32.toUInt32 x0) >>> ((Int32.toUInt32 1) &&& Int32.toUInt32 31)).toInt32) &&& 1431655765)) &&& 858993459) + ((((Int32.toUInt32 (x0 - ((((Int32.toUInt32 x0) >>> ((Int32.toUInt32 1) &&& Int32.toUInt32 31)).toInt32) &&& 1431655765))) >>> ((Int32.toUInt32 2) &&& Int32.toUInt32 31)).toInt32) &&& 858993459)) + (((Int32.toUInt32 (((x0 - ((((Int32.toUInt32 x0) >>> ((Int32.toUInt32 1) &&& Int32.toUInt32 31)).toInt32) &&& 1431655765)) &&& 858993459) + ((((Int32.toUInt32 (x0 - ((((Int32.toUInt32 x0) >>> ((Int32.toUInt32 1) &&& Int32.toUInt32 31)).toInt32) &&& 1431655765))) >>> ((Int32.toUInt32 2) &&& Int32.toUInt32 31)).toInt32) &&& 858993459))) >>> ((Int32.toUInt32 4) &&& Int32.toUInt32 31)).toInt32)) &&& 252645135)) >>> ((Int32.toUInt32 8) &&& Int32.toUInt32 31)).toInt32) K dJ6_bitCount_0f7a4_38 rfl ?_
  refine g_iadd K dJ6_bitCount_0f7a4_39 ?_
  refine g_istore_n (lv' := [(0, .int ((((((x0 - ((((Int32.toUInt32 x0) >>> ((Int32.toUInt32 1) &&& Int32.toUInt32 31)).toInt32) &&& 1431655765)) &&& 858993459) + ((((Int32.toUInt32 (x0 - ((((Int32.toUInt32 x0) >>> ((Int32.toUInt32 1) &&& Int32.toUInt32 31)).toInt32) &&& 1431655765))) >>> ((Int32.toUInt32 2) &&& Int32.toUInt32 31)).toInt32) &&& 858993459)) + (((Int32.toUInt32 (((x0 - ((((Int32.toUInt32 x0) >>> ((Int32.toUInt32 1) &&& Int32.toUInt32 31)).toInt32) &&& 1431655765)) &&& 858993459) + ((((Int32.toUInt32 (x0 - ((((Int32.toUInt32 x0) >>> ((Int32.toUInt32 1) &&& Int32.toUInt32 31)).toInt32) &&& 1431655765))) >>> ((Int32.toUInt32 2) &&& Int32.toUInt32 31)).toInt32) &&& 858993459))) >>> ((Int32.toUInt32 4) &&& Int32.toUInt32 31)).toInt32)) &&& 252645135) + (((Int32.toUInt32 (((((x0 - ((((Int32.toUInt32 x0) >>> ((Int32.toUInt32 1) &&& Int32.toUInt32 31)).toInt32) &&& 1431655765)) &&& 858993459) + ((((Int32.toUInt32 (x0 - ((((Int32.toUInt32 x0) >>> ((Int32.toUInt32 1) &&& Int32.toUInt32 31)).toInt32) &&& 1431655765))) >>> ((Int32.toUInt32 2) &&& Int32.toUInt32 31)).toInt32) &&& 858993459)) + (((Int32.toUInt32 (((x0 - ((((Int32.toUInt32 x0) >>> ((Int32.toUInt32 1) &&& Int32.toUInt32 31)).toInt32) &&& 1431655765)) &&& 858993459) + ((((Int32.toUInt32 (x0 - ((((Int32.toUInt32 x0) >>> ((Int32.toUInt32 1) &&& Int32.toUInt32 31)).toInt32) &&& 1431655765))) >>> ((Int32.toUInt32 2) &&& Int32.toUInt32 31)).toInt32) &&& 858993459))) >>> ((Int32.toUInt32 4) &&& Int32.toUInt32 31)).toInt32)) &&& 252645135)) >>> ((Int32.toUInt32 8) &&& Int32.toUInt32 31)).toInt32)))]) K dJ6_bitCount_0f7a4_40 rfl (by decide) rfl ?_
  refine g_iload_n K 0 dJ6_bitCount_0f7a4_41 rfl rfl ?_
  refine g_iload_n K 0 dJ6_bitCount_0f7a4_42 rfl rfl ?_
  refine g_bipush (v := 16) K dJ6_bitCount_0f7a4_43 bp_16 ?_
  refine g_iushr (v := ((Int32.toUInt32 ((((((x0 - ((((Int32.toUInt32 x0) >>> ((Int32.toUInt32 1) &&& Int32.toUInt32 31)).toInt32) &&& 1431655765)) &&& 858993459) + ((((Int32.toUInt32 (x0 - ((((Int32.toUInt32 x0) >>> ((Int32.toUInt32 1) &&& Int32.toUInt32 31)).toInt32) &&& 1431655765))) >>> ((Int32.toUInt32 2) &&& Int32.toUInt32 31)).toInt32) &&& 858993459)) + (((Int32.toUInt32 (((x0 - ((((Int32.toUInt32 x0) >>> ((Int32.toUInt32 1) &&& Int32.toUInt32 31)).toInt32) &&& 1431655765)) &&& 858993459) + ((((Int32.toUInt32 (x0 - ((((Int32.toUInt32 x0) >>> ((Int32.toUInt32 1) &&& Int32.toUInt32 31)).toInt32) &&& 1431655765))) >>> ((Int32.toUInt32 2) &&& Int32.toUInt32 31)).toInt32) &&& 858993459))) >>> ((Int32.toUInt32 4) &&& Int32.toUInt32 31)).toInt32)) &&& 252645135) + (((Int32.toUInt32 (((((x0 - ((((Int32.toUInt32 x0) >>> ((Int32.toUInt32 1) &&& Int32.toUInt32 31)).toInt32) &&& 1431655765)) &&& 858993459) + ((((Int32.toUInt32 (x0 - ((((Int32.toUInt32 x0) >>> ((Int32.toUInt32 1) &&& Int32.toUInt32 31)).toInt32) &&& 1431655765))) >>> ((Int32.toUInt32 2) &&& Int32.toUInt32 31)).toInt32) &&& 858993459)) + (((Int32.toUInt32 (((x0 - ((((Int32.toUInt32 x0) >>> ((Int32.toUInt32 1) &&& Int32.toUInt32 31)).toInt32) &&& 1431655765)) &&& 858993459) + ((((Int32.toUInt32 (x0 - ((((Int32.toUInt32 x0) >>> ((Int32.toUInt32 1) &&& Int32.toUInt32 31)).toInt32) &&& 1431655765))) >>> ((Int32.toUInt32 2) &&& Int32.toUInt32 31)).toInt32) &&& 858993459))) >>> ((Int32.toUInt32 4) &&& Int32.toUInt32 31)).toInt32)) &&& 252645135)) >>> ((Int32.toUInt32 8) &&& Int32.toUInt32 31)).toInt32))) >>> ((Int32.toUInt32 16) &&& Int32.toUInt32 31)).toInt32) K dJ6_bitCount_0f7a4_45 rfl ?_
  refine g_iadd K dJ6_bitCount_0f7a4_46 ?_
  refine g_istore_n (lv' := [(0, .int (((((((x0 - ((((Int32.toUInt32 x0) >>> ((Int32.toUInt32 1) &&& Int32.toUInt32 31)).toInt32) &&& 1431655765)) &&& 858993459) + ((((Int32.toUInt32 (x0 - ((((Int32.toUInt32 x0) >>> ((Int32.toUInt32 1) &&& Int32.toUInt32 31)).toInt32) &&& 1431655765))) >>> ((Int32.toUInt32 2) &&& Int32.toUInt32 31)).toInt32) &&& 858993459)) + (((Int32.toUInt32 (((x0 - ((((Int32.toUInt32 x0) >>> ((Int32.toUInt32 1) &&& Int32.toUInt32 31)).toInt32) &&& 1431655765)) &&& 858993459) + ((((Int32.toUInt32 (x0 - ((((Int32.toUInt32 x0) >>> ((Int32.toUInt32 1) &&& Int32.toUInt32 31)).toInt32) &&& 1431655765))) >>> ((Int32.toUInt32 2) &&& Int32.toUInt32 31)).toInt32) &&& 858993459))) >>> ((Int32.toUInt32 4) &&& Int32.toUInt32 31)).toInt32)) &&& 252645135) + (((Int32.toUInt32 (((((x0 - ((((Int32.toUInt32 x0) >>> ((Int32.toUInt32 1) &&& Int32.toUInt32 31)).toInt32) &&& 1431655765)) &&& 858993459) + ((((Int32.toUInt32 (x0 - ((((Int32.toUInt32 x0) >>> ((Int32.toUInt32 1) &&& Int32.toUInt32 31)).toInt32) &&& 1431655765))) >>> ((Int32.toUInt32 2) &&& Int32.toUInt32 31)).toInt32) &&& 858993459)) + (((Int32.toUInt32 (((x0 - ((((Int32.toUInt32 x0) >>> ((Int32.toUInt32 1) &&& Int32.toUInt32 31)).toInt32) &&& 1431655765)) &&& 858993459) + ((((Int32.toUInt32 (x0 - ((((Int32.toUInt32 x0) >>> ((Int32.toUInt32 1) &&& Int32.toUInt32 31)).toInt32) &&& 1431655765))) >>> ((Int32.toUInt32 2) &&& Int32.toUInt32 31)).toInt32) &&& 858993459))) >>> ((Int32.toUInt32 4) &&& Int32.toUInt32 31)).toInt32)) &&& 252645135)) >>> ((Int32.toUInt32 8) &&& Int32.toUInt32 31)).toInt32)) + (((Int32.toUInt32 ((((((x0 - ((((Int32.toUInt32 x0) >>> ((Int32.toUInt32 1) &&& Int32.toUInt32 31)).toInt32) &&& 1431655765)) &&& 858993459) + ((((Int32.toUInt32 (x0 - ((((Int32.toUInt32 x0) >>> ((Int32.toUInt32 1) &&& Int32.toUInt32 31)).toInt32) &&& 1431655765))) >>> ((Int32.toUInt32 2) &&& Int32.toUInt32 31)).toInt32) &&& 858993459)) + (((Int32.toUInt32 (((x0 - ((((Int32.toUInt32 x0) >>> ((Int32.toUInt32 1) &&& Int32.toUInt32 31)).toInt32) &&& 1431655765)) &&& 858993459) + ((((Int32.toUInt32 (x0 - ((((Int32.toUInt32 x0) >>> ((Int32.toUInt32 1) &&& Int32.toUInt32 31)).toInt32) &&& 1431655765))) >>> ((Int32.toUInt32 2) &&& Int32.toUInt32 31)).toInt32) &&& 858993459))) >>> ((Int32.toUInt32 4) &&& Int32.toUInt32 31)).toInt32)) &&& 252645135) + (((Int32.toUInt32 (((((x0 - ((((Int32.toUInt32 x0) >>> ((Int32.toUInt32 1) &&& Int32.toUInt32 31)).toInt32) &&& 1431655765)) &&& 858993459) + ((((Int32.toUInt32 (x0 - ((((Int32.toUInt32 x0) >>> ((Int32.toUInt32 1) &&& Int32.toUInt32 31)).toInt32) &&& 1431655765))) >>> ((Int32.toUInt32 2) &&& Int32.toUInt32 31)).toInt32) &&& 858993459)) + (((Int32.toUInt32 (((x0 - ((((Int32.toUInt32 x0) >>> ((Int32.toUInt32 1) &&& Int32.toUInt32 31)).toInt32) &&& 1431655765)) &&& 858993459) + ((((Int32.toUInt32 (x0 - ((((Int32.toUInt32 x0) >>> ((Int32.toUInt32 1) &&& Int32.toUInt32 31)).toInt32) &&& 1431655765))) >>> ((Int32.toUInt32 2) &&& Int32.toUInt32 31)).toInt32) &&& 858993459))) >>> ((Int32.toUInt32 4) &&& Int32.toUInt32 31)).toInt32)) &&& 252645135)) >>> ((Int32.toUInt32 8) &&& Int32.toUInt32 31)).toInt32))) >>> ((Int32.toUInt32 16) &&& Int32.toUInt32 31)).toInt32)))]) K dJ6_bitCount_0f7a4_47 rfl (by decide) rfl ?_
  refine g_iload_n K 0 dJ6_bitCount_0f7a4_48 rfl rfl ?_
  refine g_bipush (v := 63) K dJ6_bitCount_0f7a4_49 bp_63 ?_
  refine g_iand K dJ6_bitCount_0f7a4_51 ?_
  exact hr _ _ _ _ dJ6_bitCount_0f7a4_52 (rt0 h)
theorem m_J6_bitCount_0f7a4 (x0 : Int32) (σ : Sg)  : CI yJ6_bitCount_0f7a4 cJ6_bitCount_0f7a4 1 (some .int) 0 0 (fun ad => [.int x0]) σ (f_J6_bitCount_0f7a4 x0) σ :=
  CI.of (by decide) (fun _ => Nat.le_of_ble_eq_true rfl) (fun X K hR hr => w_J6_bitCount_0f7a4 K hR rfl hr)
def L_X0_arrange_12 (b0 : Nat) (x1 : Int32) : Nat → Int32 → Sg → Option (Int32 × Sg)
  | 0, _, _ => none
  | n + 1, x2, σ =>
    if x2 ≤ 0 then
    (some (x2, σ))
    else
    (if inb (x2 - 1) 41 then
    (if inb (σ.1 (b0 + 7) (x2 - 1).toNatClampNeg) 41 then
    (if inb x1 41 then
    (if (σ.1 (b0 + 1) (σ.1 (b0 + 7) (x2 - 1).toNatClampNeg).toNatClampNeg) ≤ (σ.1 (b0 + 1) x1.toNatClampNeg) then
    (some (x2, σ))
    else
    (if inb (x2 - 1) 41 then
    (if inb x2 41 then
    (jn (setR σ (b0 + 7) (upd (σ.1 (b0 + 7)) x2.toNatClampNeg (σ.1 (b0 + 7) (x2 - 1).toNatClampNeg))) (fun σ8 =>
    L_X0_arrange_12 b0 x1 n (x2 + (-1)) σ8))
    else none)
    else none))
    else none)
    else none)
    else none)
set_option maxRecDepth 20000 in
set_option maxHeartbeats 4000000 in
theorem l_X0_arrange_12 {X : Ctx} (K : Cok X cX0_arrange 3 RX0) (hR : 0 ≤ X.R.frames ∧ 0 ≤ X.R.locals) {b0 : Nat} {x1 : Int32} (hb0 : isBook b0) :
    ∀ (n : Nat) (x2 : Int32) (σ : Sg) (o : (Int32 × Sg)), L_X0_arrange_12 b0 x1 n x2 σ = some o → G X 3 58 [(0, .ref (X.ad b0)), (1, .int x1), (2, .int o.1)] [] o.2 → G X 3 12 [(0, .ref (X.ad b0)), (1, .int x1), (2, .int x2)] [] σ := by
  intro n
  induction n with
  | zero => intro x2 σ o h; exact absurd h (by unfold L_X0_arrange_12; intro h; cases h)
  | succ n ih =>
    intro x2 σ o h hexit
    unfold L_X0_arrange_12 at h
    refine g_iload_n K 2 dX0_arrange_12 rfl rfl ?_
    refine g_if_le (tgt := 58) K dX0_arrange_13 (by decide) (fun c1 => ?_) (fun c1 => ?_)
    · replace h := bp c1 h
      refine g_sub [0, 1, 2] rfl ?_
      obtain rfl := Option.some.inj h
      exact hexit
    · replace h := bn c1 h
      refine g_aload_n K 0 dX0_arrange_16 rfl rfl ?_
      refine g_get (v := .ref (X.ad (b0 + 1))) K (e_Book (bk_k0 hb0)) (bk_l0 hb0) rfl 0 (by decide) rfl fw_X0_11 u_X0 dX0_arrange_17 ?_
      refine g_aload_n K 0 dX0_arrange_20 rfl rfl ?_
      refine g_get (v := .ref (X.ad (b0 + 7))) K (e_Book (bk_k0 hb0)) (bk_l0 hb0) rfl 6 (by decide) rfl fw_X0_30 u_X0 dX0_arrange_21 ?_
      refine g_iload_n K 2 dX0_arrange_24 rfl rfl ?_
      refine g_iconst (v := 1) K dX0_arrange_25 ic_1 ?_
      refine g_isub K dX0_arrange_26 ?_
      obtain ⟨g2, h⟩ := og h
      refine g_iald K (bk_k7 hb0) (bk_l7 hb0) g2 dX0_arrange_27 ?_
      obtain ⟨g3, h⟩ := og h
      refine g_iald K (bk_k1 hb0) (bk_l1 hb0) g3 dX0_arrange_28 ?_
      refine g_aload_n K 0 dX0_arrange_29 rfl rfl ?_
      refine g_get (v := .ref (X.ad (b0 + 1))) K (e_Book (bk_k0 hb0)) (bk_l0 hb0) rfl 0 (by decide) rfl fw_X0_11 u_X0 dX0_arrange_30 ?_
      refine g_iload_n K 1 dX0_arrange_33 rfl rfl ?_
      obtain ⟨g4, h⟩ := og h
      refine g_iald K (bk_k1 hb0) (bk_l1 hb0) g4 dX0_arrange_34 ?_
      refine g_icmp_le (tgt := 58) K dX0_arrange_35 (by decide) (fun c5 => ?_) (fun c5 => ?_)
      · replace h := bp c5 h
        refine g_sub [0, 1, 2] rfl ?_
        obtain rfl := Option.some.inj h
        exact hexit
      · replace h := bn c5 h
        refine g_aload_n K 0 dX0_arrange_38 rfl rfl ?_
        refine g_get (v := .ref (X.ad (b0 + 7))) K (e_Book (bk_k0 hb0)) (bk_l0 hb0) rfl 6 (by decide) rfl fw_X0_30 u_X0 dX0_arrange_39 ?_
        refine g_iload_n K 2 dX0_arrange_42 rfl rfl ?_
        refine g_aload_n K 0 dX0_arrange_43 rfl rfl ?_
        refine g_get (v := .ref (X.ad (b0 + 7))) K (e_Book (bk_k0 hb0)) (bk_l0 hb0) rfl 6 (by decide) rfl fw_X0_30 u_X0 dX0_arrange_44 ?_
        refine g_iload_n K 2 dX0_arrange_47 rfl rfl ?_
        refine g_iconst (v := 1) K dX0_arrange_48 ic_1 ?_
        refine g_isub K dX0_arrange_49 ?_
        obtain ⟨g6, h⟩ := og h
        refine g_iald K (bk_k7 hb0) (bk_l7 hb0) g6 dX0_arrange_50 ?_
        obtain ⟨g7, h⟩ := og h
        refine g_iast K (bk_k7 hb0) (bk_l7 hb0) g7 dX0_arrange_51 (fun σ8 s9 => ?_)
        replace h := jn_at s9 h
        refine g_iinc (lv' := [(2, .int (x2 + (-1))), (0, .ref (X.ad b0)), (1, .int x1)]) K 2 dX0_arrange_52 rfl (by rw [ic_m1]) (by decide) rfl ?_
        refine g_goto (tgt := 12) K dX0_arrange_55 (by decide) ?_
        refine g_sub [1, 2, 0] rfl ?_
        exact ih _ _ _ h hexit
def L_X0_arrange_2 (b0 : Nat) : Nat → Int32 → Sg → Option (Int32 × Sg)
  | 0, _, _ => none
  | n + 1, x1, σ =>
    if (σ.1 b0 7) ≤ x1 then
    (some (x1, σ))
    else
    (Option.bind (L_X0_arrange_12 b0 x1 FU x1 σ) (fun o2 =>
    if inb o2.1 41 then
    (jn (setR o2.2 (b0 + 7) (upd (o2.2.1 (b0 + 7)) o2.1.toNatClampNeg x1)) (fun σ5 =>
    L_X0_arrange_2 b0 n (x1 + 1) σ5))
    else none))
set_option maxRecDepth 20000 in
set_option maxHeartbeats 4000000 in
theorem l_X0_arrange_2 {X : Ctx} (K : Cok X cX0_arrange 3 RX0) (hR : 0 ≤ X.R.frames ∧ 0 ≤ X.R.locals) {b0 : Nat} (hb0 : isBook b0) :
    ∀ (n : Nat) (x1 : Int32) (σ : Sg) (o : (Int32 × Sg)), L_X0_arrange_2 b0 n x1 σ = some o → G X 3 71 [(0, .ref (X.ad b0)), (1, .int o.1)] [] o.2 → G X 3 2 [(0, .ref (X.ad b0)), (1, .int x1)] [] σ := by
  intro n
  induction n with
  | zero => intro x1 σ o h; exact absurd h (by unfold L_X0_arrange_2; intro h; cases h)
  | succ n ih =>
    intro x1 σ o h hexit
    unfold L_X0_arrange_2 at h
    refine g_iload_n K 1 dX0_arrange_2 rfl rfl ?_
    refine g_aload_n K 0 dX0_arrange_3 rfl rfl ?_
    refine g_get (v := .int (σ.1 b0 7)) K (e_Book (bk_k0 hb0)) (bk_l0 hb0) rfl 7 (by decide) rfl fw_X0_43 u_X0 dX0_arrange_4 ?_
    refine g_icmp_ge (tgt := 71) K dX0_arrange_7 (by decide) (fun c1 => ?_) (fun c1 => ?_)
    · replace h := bp c1 h
      refine g_sub [0, 1] rfl ?_
      obtain rfl := Option.some.inj h
      exact hexit
    · replace h := bn c1 h
      refine g_iload_n K 1 dX0_arrange_10 rfl rfl ?_
      refine g_istore_n (lv' := [(2, .int x1), (0, .ref (X.ad b0)), (1, .int x1)]) K dX0_arrange_11 rfl (by decide) rfl ?_
      obtain ⟨o2, e3, h⟩ := ob h
      refine g_sub [1, 2, 0] rfl ?_
      refine l_X0_arrange_12 K hR hb0 _ _ _ _ e3 ?_
      refine g_aload_n K 0 dX0_arrange_58 rfl rfl ?_
      refine g_get (v := .ref (X.ad (b0 + 7))) K (e_Book (bk_k0 hb0)) (bk_l0 hb0) rfl 6 (by decide) rfl fw_X0_30 u_X0 dX0_arrange_59 ?_
      refine g_iload_n K 2 dX0_arrange_62 rfl rfl ?_
      refine g_iload_n K 1 dX0_arrange_63 rfl rfl ?_
      obtain ⟨g4, h⟩ := og h
      refine g_iast K (bk_k7 hb0) (bk_l7 hb0) g4 dX0_arrange_64 (fun σ5 s6 => ?_)
      replace h := jn_at s6 h
      refine g_iinc (lv' := [(1, .int (x1 + 1)), (0, .ref (X.ad b0)), (2, .int o2.1)]) K 1 dX0_arrange_65 rfl (by rw [ic_1]) (by decide) rfl ?_
      refine g_goto (tgt := 2) K dX0_arrange_68 (by decide) ?_
      refine g_sub [1, 0] rfl ?_
      exact ih _ _ _ h hexit
def f_X0_arrange (b0 : Nat) (σ : Sg) : Option Sg :=
  Option.bind (L_X0_arrange_2 b0 FU 0 σ) (fun o1 =>
  some o1.2)
set_option maxRecDepth 20000 in
set_option maxHeartbeats 4000000 in
theorem w_X0_arrange {X : Ctx} (K : Cok X cX0_arrange 3 RX0) (hR : 0 ≤ X.R.frames ∧ 0 ≤ X.R.locals) {b0 : Nat} {σ : Sg} (hb0 : isBook b0) {r : Sg} (h : f_X0_arrange b0 σ = some r) (hr : RV X cX0_arrange 3 r) : G X 3 0 [(0, .ref (X.ad b0))] [] σ := by
  unfold f_X0_arrange at h
  refine g_iconst (v := 0) K dX0_arrange_0 ic_0 ?_
  refine g_istore_n (lv' := [(1, .int 0), (0, .ref (X.ad b0))]) K dX0_arrange_1 rfl (by decide) rfl ?_
  obtain ⟨o1, e2, h⟩ := ob h
  refine g_sub [1, 0] rfl ?_
  refine l_X0_arrange_2 K hR hb0 _ _ _ _ e2 ?_
  exact hr _ _ _ dX0_arrange_71 (rt2 h)
theorem m_X0_arrange {b0 : Nat} {σ : Sg} (hb0 : isBook b0) {r : Sg} (h : f_X0_arrange b0 σ = some r) : CV yX0_arrange cX0_arrange 3 none 0 0 (fun ad => [.ref (ad b0)]) σ r :=
  CV.of (by decide) (fun _ => Nat.le_of_ble_eq_true rfl) (fun X K hR hr => w_X0_arrange K hR hb0 h hr)
def f_X0_append (b0 : Nat) (x1 : Int32) (x2 : Int32) (x3 : Int32) (x4 : Int32) (x5 : Int32) (x6 : Int32) (σ : Sg) : Option Sg :=
  if (σ.1 b0 7) < 41 then
  (if inb (σ.1 b0 7) 41 then
  (jn (setR σ (b0 + 1) (upd (σ.1 (b0 + 1)) (σ.1 b0 7).toNatClampNeg x1)) (fun σ3 =>
  if inb (σ3.1 b0 7) 41 then
  (jn (setR σ3 (b0 + 2) (upd (σ3.1 (b0 + 2)) (σ3.1 b0 7).toNatClampNeg x2)) (fun σ6 =>
  if inb (σ6.1 b0 7) 41 then
  (jn (setR σ6 (b0 + 3) (upd (σ6.1 (b0 + 3)) (σ6.1 b0 7).toNatClampNeg x3)) (fun σ9 =>
  if inb (σ9.1 b0 7) 41 then
  (jn (setR σ9 (b0 + 4) (upd (σ9.1 (b0 + 4)) (σ9.1 b0 7).toNatClampNeg x4)) (fun σ12 =>
  if inb (σ12.1 b0 7) 41 then
  (jn (setR σ12 (b0 + 5) (upd (σ12.1 (b0 + 5)) (σ12.1 b0 7).toNatClampNeg x5)) (fun σ15 =>
  if inb (σ15.1 b0 7) 41 then
  (jn (setR σ15 (b0 + 6) (upd (σ15.1 (b0 + 6)) (σ15.1 b0 7).toNatClampNeg x6)) (fun σ18 =>
  jn (setR σ18 b0 (upd (σ18.1 b0) 7 ((σ18.1 b0 7) + 1))) (fun σ20 =>
  Option.bind (f_X0_arrange b0 σ20) (fun q22 =>
  some q22))))
  else none))
  else none))
  else none))
  else none))
  else none))
  else none)
  else
  (some (σ))
set_option maxRecDepth 20000 in
set_option maxHeartbeats 4000000 in
theorem w_X0_append {X : Ctx} (K : Cok X cX0_append 7 RX0) (hR : 1 ≤ X.R.frames ∧ 22 ≤ X.R.locals) {b0 : Nat} {x1 : Int32} {x2 : Int32} {x3 : Int32} {x4 : Int32} {x5 : Int32} {x6 : Int32} {σ : Sg} (hb0 : isBook b0) {r : Sg} (h : f_X0_append b0 x1 x2 x3 x4 x5 x6 σ = some r) (hr : RV X cX0_append 7 r) : G X 7 0 [(0, .ref (X.ad b0)), (1, .int x1), (2, .int x2), (3, .int x3), (4, .int x4), (5, .int x5), (6, .int x6)] [] σ := by
  unfold f_X0_append at h
  refine g_aload_n K 0 dX0_append_0 rfl rfl ?_
  refine g_get (v := .int (σ.1 b0 7)) K (e_Book (bk_k0 hb0)) (bk_l0 hb0) rfl 7 (by decide) rfl fw_X0_43 u_X0 dX0_append_1 ?_
  refine g_bipush (v := 41) K dX0_append_4 bp_41 ?_
  refine g_icmp_lt (tgt := 10) K dX0_append_6 (by decide) (fun c1 => ?_) (fun c1 => ?_)
  · replace h := bp c1 h
    refine g_aload_n K 0 dX0_append_10 rfl rfl ?_
    refine g_get (v := .ref (X.ad (b0 + 1))) K (e_Book (bk_k0 hb0)) (bk_l0 hb0) rfl 0 (by decide) rfl fw_X0_11 u_X0 dX0_append_11 ?_
    refine g_aload_n K 0 dX0_append_14 rfl rfl ?_
    refine g_get (v := .int (σ.1 b0 7)) K (e_Book (bk_k0 hb0)) (bk_l0 hb0) rfl 7 (by decide) rfl fw_X0_43 u_X0 dX0_append_15 ?_
    refine g_iload_n K 1 dX0_append_18 rfl rfl ?_
    obtain ⟨g2, h⟩ := og h
    refine g_iast K (bk_k1 hb0) (bk_l1 hb0) g2 dX0_append_19 (fun σ3 s4 => ?_)
    replace h := jn_at s4 h
    refine g_aload_n K 0 dX0_append_20 rfl rfl ?_
    refine g_get (v := .ref (X.ad (b0 + 2))) K (e_Book (bk_k0 hb0)) (bk_l0 hb0) rfl 1 (by decide) rfl fw_X0_15 u_X0 dX0_append_21 ?_
    refine g_aload_n K 0 dX0_append_24 rfl rfl ?_
    refine g_get (v := .int (σ3.1 b0 7)) K (e_Book (bk_k0 hb0)) (bk_l0 hb0) rfl 7 (by decide) rfl fw_X0_43 u_X0 dX0_append_25 ?_
    refine g_iload_n K 2 dX0_append_28 rfl rfl ?_
    obtain ⟨g5, h⟩ := og h
    refine g_iast K (bk_k2 hb0) (bk_l2 hb0) g5 dX0_append_29 (fun σ6 s7 => ?_)
    replace h := jn_at s7 h
    refine g_aload_n K 0 dX0_append_30 rfl rfl ?_
    refine g_get (v := .ref (X.ad (b0 + 3))) K (e_Book (bk_k0 hb0)) (bk_l0 hb0) rfl 2 (by decide) rfl fw_X0_18 u_X0 dX0_append_31 ?_
    refine g_aload_n K 0 dX0_append_34 rfl rfl ?_
    refine g_get (v := .int (σ6.1 b0 7)) K (e_Book (bk_k0 hb0)) (bk_l0 hb0) rfl 7 (by decide) rfl fw_X0_43 u_X0 dX0_append_35 ?_
    refine g_iload_n K 3 dX0_append_38 rfl rfl ?_
    obtain ⟨g8, h⟩ := og h
    refine g_iast K (bk_k3 hb0) (bk_l3 hb0) g8 dX0_append_39 (fun σ9 s10 => ?_)
    replace h := jn_at s10 h
    refine g_aload_n K 0 dX0_append_40 rfl rfl ?_
    refine g_get (v := .ref (X.ad (b0 + 4))) K (e_Book (bk_k0 hb0)) (bk_l0 hb0) rfl 3 (by decide) rfl fw_X0_21 u_X0 dX0_append_41 ?_
    refine g_aload_n K 0 dX0_append_44 rfl rfl ?_
    refine g_get (v := .int (σ9.1 b0 7)) K (e_Book (bk_k0 hb0)) (bk_l0 hb0) rfl 7 (by decide) rfl fw_X0_43 u_X0 dX0_append_45 ?_
    refine g_iload K 4 dX0_append_48 rfl ?_
    obtain ⟨g11, h⟩ := og h
    refine g_iast K (bk_k4 hb0) (bk_l4 hb0) g11 dX0_append_50 (fun σ12 s13 => ?_)
    replace h := jn_at s13 h
    refine g_aload_n K 0 dX0_append_51 rfl rfl ?_
    refine g_get (v := .ref (X.ad (b0 + 5))) K (e_Book (bk_k0 hb0)) (bk_l0 hb0) rfl 4 (by decide) rfl fw_X0_24 u_X0 dX0_append_52 ?_
    refine g_aload_n K 0 dX0_append_55 rfl rfl ?_
    refine g_get (v := .int (σ12.1 b0 7)) K (e_Book (bk_k0 hb0)) (bk_l0 hb0) rfl 7 (by decide) rfl fw_X0_43 u_X0 dX0_append_56 ?_
    refine g_iload K 5 dX0_append_59 rfl ?_
    obtain ⟨g14, h⟩ := og h
    refine g_iast K (bk_k5 hb0) (bk_l5 hb0) g14 dX0_append_61 (fun σ15 s16 => ?_)
    replace h := jn_at s16 h
    refine g_aload_n K 0 dX0_append_62 rfl rfl ?_
    refine g_get (v := .ref (X.ad (b0 + 6))) K (e_Book (bk_k0 hb0)) (bk_l0 hb0) rfl 5 (by decide) rfl fw_X0_27 u_X0 dX0_append_63 ?_
    refine g_aload_n K 0 dX0_append_66 rfl rfl ?_
    refine g_get (v := .int (σ15.1 b0 7)) K (e_Book (bk_k0 hb0)) (bk_l0 hb0) rfl 7 (by decide) rfl fw_X0_43 u_X0 dX0_append_67 ?_
    refine g_iload K 6 dX0_append_70 rfl ?_
    obtain ⟨g17, h⟩ := og h
    refine g_iast K (bk_k6 hb0) (bk_l6 hb0) g17 dX0_append_72 (fun σ18 s19 => ?_)
    replace h := jn_at s19 h
    refine g_aload_n K 0 dX0_append_73 rfl rfl ?_
    refine g_dup K dX0_append_74 rfl ?_
    refine g_get (v := .int (σ18.1 b0 7)) K (e_Book (bk_k0 hb0)) (bk_l0 hb0) rfl 7 (by decide) rfl fw_X0_43 u_X0 dX0_append_75 ?_
    refine g_iconst (v := 1) K dX0_append_78 ic_1 ?_
    refine g_iadd K dX0_append_79 ?_
    refine g_put (f' := (upd (σ18.1 b0) 7 ((σ18.1 b0 7) + 1))) K (e_Book (bk_k0 hb0)) (bk_l0 hb0) rfl 7 (by decide) (e_Book (bk_k0 hb0)) tyX0 tyX0_ok nmX0 rfl (ty := .int) (by decide +kernel) rfl rfl (Nat.le_of_ble_eq_true rfl) fw_X0_43 u_X0 dX0_append_80 (fun σ20 s21 => ?_)
    replace h := jn_at s21 h
    refine g_aload_n K 0 dX0_append_83 rfl rfl ?_
    obtain ⟨q22, e23, h⟩ := ob h
    refine g_cvv (As := []) (rest := []) K (m_X0_arrange hb0 e23) yv_X0_arrange ml_X0_46 rfl rfl rfl (e_Book (bk_k0 hb0)) (bk_l0 hb0) rfl rfl ⟨Nat.le_trans (Nat.le_of_ble_eq_true rfl) hR.1, Nat.le_trans (Nat.le_of_ble_eq_true rfl) hR.2⟩ (Nat.le_of_ble_eq_true rfl) dX0_append_84 ?_
    exact hr _ _ _ dX0_append_87 (rt2 h)
  · replace h := bn c1 h
    exact hr _ _ _ dX0_append_9 (rt2 h)
theorem m_X0_append {b0 : Nat} {x1 : Int32} {x2 : Int32} {x3 : Int32} {x4 : Int32} {x5 : Int32} {x6 : Int32} {σ : Sg} (hb0 : isBook b0) {r : Sg} (h : f_X0_append b0 x1 x2 x3 x4 x5 x6 σ = some r) : CV yX0_append cX0_append 7 none 1 22 (fun ad => [.ref (ad b0), .int x1, .int x2, .int x3, .int x4, .int x5, .int x6]) σ r :=
  CV.of (by decide) (fun _ => Nat.le_of_ble_eq_true rfl) (fun X K hR hr => w_X0_append K hR hb0 h hr)
def f_X0_closeGap (b0 : Nat) (b1 : Nat) (x2 : Int32) (σ : Sg) : Option Sg :=
  if (0 ≤ Int32.toInt (x2 + 1) ∧ 0 ≤ Int32.toInt x2 ∧ 0 ≤ Int32.toInt (((σ.1 b0 7) - x2) - 1)) ∧ Int32.toInt (x2 + 1) + Int32.toInt (((σ.1 b0 7) - x2) - 1) ≤ 41 ∧ Int32.toInt x2 + Int32.toInt (((σ.1 b0 7) - x2) - 1) ≤ 41 then
  (jn (setR σ b1 (va_cpy (σ.1 b1) (σ.1 b1) (x2 + 1).toNatClampNeg x2.toNatClampNeg (((σ.1 b0 7) - x2) - 1).toNatClampNeg)) (fun σ2 =>
  some (σ2)))
  else none
set_option maxRecDepth 20000 in
set_option maxHeartbeats 4000000 in
theorem w_X0_closeGap {X : Ctx} (K : Cok X cX0_closeGap 3 RX0) (hR : 1 ≤ X.R.frames ∧ 26 ≤ X.R.locals) {b0 : Nat} {b1 : Nat} {x2 : Int32} {σ : Sg} (hb0 : isBook b0) (hb1 : kd b1 = (0, 41)) (hc1 : b1 < NN) {r : Sg} (h : f_X0_closeGap b0 b1 x2 σ = some r) (hr : RV X cX0_closeGap 3 r) : G X 3 0 [(0, .ref (X.ad b0)), (1, .ref (X.ad b1)), (2, .int x2)] [] σ := by
  unfold f_X0_closeGap at h
  refine g_aload_n K 1 dX0_closeGap_0 rfl rfl ?_
  refine g_iload_n K 2 dX0_closeGap_1 rfl rfl ?_
  refine g_iconst (v := 1) K dX0_closeGap_2 ic_1 ?_
  refine g_iadd K dX0_closeGap_3 ?_
  refine g_aload_n K 1 dX0_closeGap_4 rfl rfl ?_
  refine g_iload_n K 2 dX0_closeGap_5 rfl rfl ?_
  refine g_aload_n K 0 dX0_closeGap_6 rfl rfl ?_
  refine g_get (v := .int (σ.1 b0 7)) K (e_Book (bk_k0 hb0)) (bk_l0 hb0) rfl 7 (by decide) rfl fw_X0_43 u_X0 dX0_closeGap_7 ?_
  refine g_iload_n K 2 dX0_closeGap_10 rfl rfl ?_
  refine g_isub K dX0_closeGap_11 ?_
  refine g_iconst (v := 1) K dX0_closeGap_12 ic_1 ?_
  refine g_isub K dX0_closeGap_13 ?_
  obtain ⟨g1, h⟩ := og h
  refine g_copy K hb1 hc1 hb1 hc1 g1 ml_X0_53 ac_native ac_static ac_init (Nat.le_trans (Nat.le_of_ble_eq_true rfl) hR.1) (Nat.le_trans (Nat.le_of_ble_eq_true rfl) hR.2) dX0_closeGap_14 (fun σ2 s3 => ?_)
  replace h := jn_at s3 h
  exact hr _ _ _ dX0_closeGap_17 (rt2 h)
theorem m_X0_closeGap {b0 : Nat} {b1 : Nat} {x2 : Int32} {σ : Sg} (hb0 : isBook b0) (hb1 : kd b1 = (0, 41)) (hc1 : b1 < NN) {r : Sg} (h : f_X0_closeGap b0 b1 x2 σ = some r) : CV yX0_closeGap cX0_closeGap 3 none 1 26 (fun ad => [.ref (ad b0), .ref (ad b1), .int x2]) σ r :=
  CV.of (by decide) (fun _ => Nat.le_of_ble_eq_true rfl) (fun X K hR hr => w_X0_closeGap K hR hb0 hb1 hc1 h hr)
def f_X0_strike (b0 : Nat) (x1 : Int32) (σ : Sg) : Option Sg :=
  if x1 < 0 then
  (some (σ))
  else
  (if x1 < (σ.1 b0 7) then
  (Option.bind (f_X0_closeGap b0 (b0 + 1) x1 σ) (fun q3 =>
  Option.bind (f_X0_closeGap b0 (b0 + 2) x1 q3) (fun q5 =>
  Option.bind (f_X0_closeGap b0 (b0 + 3) x1 q5) (fun q7 =>
  Option.bind (f_X0_closeGap b0 (b0 + 4) x1 q7) (fun q9 =>
  Option.bind (f_X0_closeGap b0 (b0 + 5) x1 q9) (fun q11 =>
  Option.bind (f_X0_closeGap b0 (b0 + 6) x1 q11) (fun q13 =>
  jn (setR q13 b0 (upd (q13.1 b0) 7 ((q13.1 b0 7) - 1))) (fun σ15 =>
  Option.bind (f_X0_arrange b0 σ15) (fun q17 =>
  some q17)))))))))
  else
  (some (σ)))
set_option maxRecDepth 20000 in
set_option maxHeartbeats 4000000 in
theorem w_X0_strike {X : Ctx} (K : Cok X cX0_strike 2 RX0) (hR : 2 ≤ X.R.frames ∧ 48 ≤ X.R.locals) {b0 : Nat} {x1 : Int32} {σ : Sg} (hb0 : isBook b0) {r : Sg} (h : f_X0_strike b0 x1 σ = some r) (hr : RV X cX0_strike 2 r) : G X 2 0 [(0, .ref (X.ad b0)), (1, .int x1)] [] σ := by
  unfold f_X0_strike at h
  refine g_iload_n K 1 dX0_strike_0 rfl rfl ?_
  refine g_if_lt (tgt := 12) K dX0_strike_1 (by decide) (fun c1 => ?_) (fun c1 => ?_)
  · replace h := bp c1 h
    exact hr _ _ _ dX0_strike_12 (rt2 h)
  · replace h := bn c1 h
    refine g_iload_n K 1 dX0_strike_4 rfl rfl ?_
    refine g_aload_n K 0 dX0_strike_5 rfl rfl ?_
    refine g_get (v := .int (σ.1 b0 7)) K (e_Book (bk_k0 hb0)) (bk_l0 hb0) rfl 7 (by decide) rfl fw_X0_43 u_X0 dX0_strike_6 ?_
    refine g_icmp_lt (tgt := 13) K dX0_strike_9 (by decide) (fun c2 => ?_) (fun c2 => ?_)
    · replace h := bp c2 h
      refine g_aload_n K 0 dX0_strike_13 rfl rfl ?_
      refine g_aload_n K 0 dX0_strike_14 rfl rfl ?_
      refine g_get (v := .ref (X.ad (b0 + 1))) K (e_Book (bk_k0 hb0)) (bk_l0 hb0) rfl 0 (by decide) rfl fw_X0_11 u_X0 dX0_strike_15 ?_
      refine g_iload_n K 1 dX0_strike_18 rfl rfl ?_
      obtain ⟨q3, e4, h⟩ := ob h
      refine g_cvv (As := [.ref (X.ad (b0 + 1)), .int x1]) (rest := []) K (m_X0_closeGap hb0 (bk_k1 hb0) (bk_l1 hb0) e4) yv_X0_closeGap ml_X0_49 rfl rfl rfl (e_Book (bk_k0 hb0)) (bk_l0 hb0) rfl rfl ⟨Nat.le_trans (Nat.le_of_ble_eq_true rfl) hR.1, Nat.le_trans (Nat.le_of_ble_eq_true rfl) hR.2⟩ (Nat.le_of_ble_eq_true rfl) dX0_strike_19 ?_
      refine g_aload_n K 0 dX0_strike_22 rfl rfl ?_
      refine g_aload_n K 0 dX0_strike_23 rfl rfl ?_
      refine g_get (v := .ref (X.ad (b0 + 2))) K (e_Book (bk_k0 hb0)) (bk_l0 hb0) rfl 1 (by decide) rfl fw_X0_15 u_X0 dX0_strike_24 ?_
      refine g_iload_n K 1 dX0_strike_27 rfl rfl ?_
      obtain ⟨q5, e6, h⟩ := ob h
      refine g_cvv (As := [.ref (X.ad (b0 + 2)), .int x1]) (rest := []) K (m_X0_closeGap hb0 (bk_k2 hb0) (bk_l2 hb0) e6) yv_X0_closeGap ml_X0_49 rfl rfl rfl (e_Book (bk_k0 hb0)) (bk_l0 hb0) rfl rfl ⟨Nat.le_trans (Nat.le_of_ble_eq_true rfl) hR.1, Nat.le_trans (Nat.le_of_ble_eq_true rfl) hR.2⟩ (Nat.le_of_ble_eq_true rfl) dX0_strike_28 ?_
      refine g_aload_n K 0 dX0_strike_31 rfl rfl ?_
      refine g_aload_n K 0 dX0_strike_32 rfl rfl ?_
      refine g_get (v := .ref (X.ad (b0 + 3))) K (e_Book (bk_k0 hb0)) (bk_l0 hb0) rfl 2 (by decide) rfl fw_X0_18 u_X0 dX0_strike_33 ?_
      refine g_iload_n K 1 dX0_strike_36 rfl rfl ?_
      obtain ⟨q7, e8, h⟩ := ob h
      refine g_cvv (As := [.ref (X.ad (b0 + 3)), .int x1]) (rest := []) K (m_X0_closeGap hb0 (bk_k3 hb0) (bk_l3 hb0) e8) yv_X0_closeGap ml_X0_49 rfl rfl rfl (e_Book (bk_k0 hb0)) (bk_l0 hb0) rfl rfl ⟨Nat.le_trans (Nat.le_of_ble_eq_true rfl) hR.1, Nat.le_trans (Nat.le_of_ble_eq_true rfl) hR.2⟩ (Nat.le_of_ble_eq_true rfl) dX0_strike_37 ?_
      refine g_aload_n K 0 dX0_strike_40 rfl rfl ?_
      refine g_aload_n K 0 dX0_strike_41 rfl rfl ?_
      refine g_get (v := .ref (X.ad (b0 + 4))) K (e_Book (bk_k0 hb0)) (bk_l0 hb0) rfl 3 (by decide) rfl fw_X0_21 u_X0 dX0_strike_42 ?_
      refine g_iload_n K 1 dX0_strike_45 rfl rfl ?_
      obtain ⟨q9, e10, h⟩ := ob h
      refine g_cvv (As := [.ref (X.ad (b0 + 4)), .int x1]) (rest := []) K (m_X0_closeGap hb0 (bk_k4 hb0) (bk_l4 hb0) e10) yv_X0_closeGap ml_X0_49 rfl rfl rfl (e_Book (bk_k0 hb0)) (bk_l0 hb0) rfl rfl ⟨Nat.le_trans (Nat.le_of_ble_eq_true rfl) hR.1, Nat.le_trans (Nat.le_of_ble_eq_true rfl) hR.2⟩ (Nat.le_of_ble_eq_true rfl) dX0_strike_46 ?_
      refine g_aload_n K 0 dX0_strike_49 rfl rfl ?_
      refine g_aload_n K 0 dX0_strike_50 rfl rfl ?_
      refine g_get (v := .ref (X.ad (b0 + 5))) K (e_Book (bk_k0 hb0)) (bk_l0 hb0) rfl 4 (by decide) rfl fw_X0_24 u_X0 dX0_strike_51 ?_
      refine g_iload_n K 1 dX0_strike_54 rfl rfl ?_
      obtain ⟨q11, e12, h⟩ := ob h
      refine g_cvv (As := [.ref (X.ad (b0 + 5)), .int x1]) (rest := []) K (m_X0_closeGap hb0 (bk_k5 hb0) (bk_l5 hb0) e12) yv_X0_closeGap ml_X0_49 rfl rfl rfl (e_Book (bk_k0 hb0)) (bk_l0 hb0) rfl rfl ⟨Nat.le_trans (Nat.le_of_ble_eq_true rfl) hR.1, Nat.le_trans (Nat.le_of_ble_eq_true rfl) hR.2⟩ (Nat.le_of_ble_eq_true rfl) dX0_strike_55 ?_
      refine g_aload_n K 0 dX0_strike_58 rfl rfl ?_
      refine g_aload_n K 0 dX0_strike_59 rfl rfl ?_
      refine g_get (v := .ref (X.ad (b0 + 6))) K (e_Book (bk_k0 hb0)) (bk_l0 hb0) rfl 5 (by decide) rfl fw_X0_27 u_X0 dX0_strike_60 ?_
      refine g_iload_n K 1 dX0_strike_63 rfl rfl ?_
      obtain ⟨q13, e14, h⟩ := ob h
      refine g_cvv (As := [.ref (X.ad (b0 + 6)), .int x1]) (rest := []) K (m_X0_closeGap hb0 (bk_k6 hb0) (bk_l6 hb0) e14) yv_X0_closeGap ml_X0_49 rfl rfl rfl (e_Book (bk_k0 hb0)) (bk_l0 hb0) rfl rfl ⟨Nat.le_trans (Nat.le_of_ble_eq_true rfl) hR.1, Nat.le_trans (Nat.le_of_ble_eq_true rfl) hR.2⟩ (Nat.le_of_ble_eq_true rfl) dX0_strike_64 ?_
      refine g_aload_n K 0 dX0_strike_67 rfl rfl ?_
      refine g_dup K dX0_strike_68 rfl ?_
      refine g_get (v := .int (q13.1 b0 7)) K (e_Book (bk_k0 hb0)) (bk_l0 hb0) rfl 7 (by decide) rfl fw_X0_43 u_X0 dX0_strike_69 ?_
      refine g_iconst (v := 1) K dX0_strike_72 ic_1 ?_
      refine g_isub K dX0_strike_73 ?_
      refine g_put (f' := (upd (q13.1 b0) 7 ((q13.1 b0 7) - 1))) K (e_Book (bk_k0 hb0)) (bk_l0 hb0) rfl 7 (by decide) (e_Book (bk_k0 hb0)) tyX0 tyX0_ok nmX0 rfl (ty := .int) (by decide +kernel) rfl rfl (Nat.le_of_ble_eq_true rfl) fw_X0_43 u_X0 dX0_strike_74 (fun σ15 s16 => ?_)
      replace h := jn_at s16 h
      refine g_aload_n K 0 dX0_strike_77 rfl rfl ?_
      obtain ⟨q17, e18, h⟩ := ob h
      refine g_cvv (As := []) (rest := []) K (m_X0_arrange hb0 e18) yv_X0_arrange ml_X0_46 rfl rfl rfl (e_Book (bk_k0 hb0)) (bk_l0 hb0) rfl rfl ⟨Nat.le_trans (Nat.le_of_ble_eq_true rfl) hR.1, Nat.le_trans (Nat.le_of_ble_eq_true rfl) hR.2⟩ (Nat.le_of_ble_eq_true rfl) dX0_strike_78 ?_
      exact hr _ _ _ dX0_strike_81 (rt2 h)
    · replace h := bn c2 h
      exact hr _ _ _ dX0_strike_12 (rt2 h)
theorem m_X0_strike {b0 : Nat} {x1 : Int32} {σ : Sg} (hb0 : isBook b0) {r : Sg} (h : f_X0_strike b0 x1 σ = some r) : CV yX0_strike cX0_strike 2 none 2 48 (fun ad => [.ref (ad b0), .int x1]) σ r :=
  CV.of (by decide) (fun _ => Nat.le_of_ble_eq_true rfl) (fun X K hR hr => w_X0_strike K hR hb0 h hr)
def L_X0_placeOf_2 (b0 : Nat) (x1 : Int32) (σ : Sg) : Nat → Int32 → Option ((Int32) ⊕ (Int32))
  | 0, _ => none
  | n + 1, x2 =>
    if (σ.1 b0 7) ≤ x2 then
    (some (.inr x2))
    else
    (if inb x2 41 then
    (if (σ.1 (b0 + 7) x2.toNatClampNeg) = x1 then
    (some (.inl x2))
    else
    (L_X0_placeOf_2 b0 x1 σ n (x2 + 1)))
    else none)
set_option maxRecDepth 20000 in
set_option maxHeartbeats 4000000 in
theorem l_X0_placeOf_2 {X : Ctx} (K : Cok X cX0_placeOf 3 RX0) (hR : 0 ≤ X.R.frames ∧ 0 ≤ X.R.locals) {res : Int32 × Sg} (hr : RI X cX0_placeOf 3 res) {b0 : Nat} {x1 : Int32} {σ : Sg} (hb0 : isBook b0) :
    ∀ (n : Nat) (x2 : Int32) (o : ((Int32) ⊕ (Int32))), L_X0_placeOf_2 b0 x1 σ n x2 = some o → (∀ q, o = .inl q → (q, σ) = res) → (∀ q, o = .inr q → G X 3 28 [(0, .ref (X.ad b0)), (1, .int x1), (2, .int q)] [] σ) → G X 3 2 [(0, .ref (X.ad b0)), (1, .int x1), (2, .int x2)] [] σ := by
  intro n
  induction n with
  | zero => intro x2 o h; exact absurd h (by unfold L_X0_placeOf_2; intro h; cases h)
  | succ n ih =>
    intro x2 o h hret hexit
    unfold L_X0_placeOf_2 at h
    refine g_iload_n K 2 dX0_placeOf_2 rfl rfl ?_
    refine g_aload_n K 0 dX0_placeOf_3 rfl rfl ?_
    refine g_get (v := .int (σ.1 b0 7)) K (e_Book (bk_k0 hb0)) (bk_l0 hb0) rfl 7 (by decide) rfl fw_X0_43 u_X0 dX0_placeOf_4 ?_
    refine g_icmp_ge (tgt := 28) K dX0_placeOf_7 (by decide) (fun c1 => ?_) (fun c1 => ?_)
    · replace h := bp c1 h
      refine g_sub [0, 1, 2] rfl ?_
      exact hexit _ (Option.some.inj h).symm
    · replace h := bn c1 h
      refine g_aload_n K 0 dX0_placeOf_10 rfl rfl ?_
      refine g_get (v := .ref (X.ad (b0 + 7))) K (e_Book (bk_k0 hb0)) (bk_l0 hb0) rfl 6 (by decide) rfl fw_X0_30 u_X0 dX0_placeOf_11 ?_
      refine g_iload_n K 2 dX0_placeOf_14 rfl rfl ?_
      obtain ⟨g2, h⟩ := og h
      refine g_iald K (bk_k7 hb0) (bk_l7 hb0) g2 dX0_placeOf_15 ?_
      refine g_iload_n K 1 dX0_placeOf_16 rfl rfl ?_
      refine g_icmp_ne (tgt := 22) K dX0_placeOf_17 (by decide) (fun c3 => ?_) (fun c3 => ?_)
      · replace h := bn c3 h
        refine g_iinc (lv' := [(2, .int (x2 + 1)), (0, .ref (X.ad b0)), (1, .int x1)]) K 2 dX0_placeOf_22 rfl (by rw [ic_1]) (by decide) rfl ?_
        refine g_goto (tgt := 2) K dX0_placeOf_25 (by decide) ?_
        refine g_sub [1, 2, 0] rfl ?_
        exact ih _ _ h hret hexit
      · replace h := bp c3 h
        refine g_iload_n K 2 dX0_placeOf_20 rfl rfl ?_
        exact hr _ _ _ _ dX0_placeOf_21 (hret _ (Option.some.inj h).symm)
def f_X0_placeOf (b0 : Nat) (x1 : Int32) (σ : Sg) : Option Int32 :=
  Option.bind (L_X0_placeOf_2 b0 x1 σ FU 0) (fun o1 => Sum.elim (fun x => some x) (fun o1 =>
  some (-6)) o1)
set_option maxRecDepth 20000 in
set_option maxHeartbeats 4000000 in
theorem w_X0_placeOf {X : Ctx} (K : Cok X cX0_placeOf 3 RX0) (hR : 0 ≤ X.R.frames ∧ 0 ≤ X.R.locals) {b0 : Nat} {x1 : Int32} {σ : Sg} (hb0 : isBook b0) {r : Int32} (h : f_X0_placeOf b0 x1 σ = some r) (hr : RI X cX0_placeOf 3 (r, σ)) : G X 3 0 [(0, .ref (X.ad b0)), (1, .int x1)] [] σ := by
  unfold f_X0_placeOf at h
  refine g_iconst (v := 0) K dX0_placeOf_0 ic_0 ?_
  refine g_istore_n (lv' := [(2, .int 0), (0, .ref (X.ad b0)), (1, .int x1)]) K dX0_placeOf_1 rfl (by decide) rfl ?_
  obtain ⟨o1, e2, h⟩ := ob h
  refine g_sub [1, 2, 0] rfl ?_
  refine l_X0_placeOf_2 K hR hr hb0 _ _ _ e2 (fun x hx => ?_) (fun o1 hx => ?_)
  · subst hx
    exact rt1 h
  · subst hx
    dsimp only [Sum.elim_inr] at h
    refine g_bipush (v := (-6)) K dX0_placeOf_28 bp_m6 ?_
    exact hr _ _ _ _ dX0_placeOf_30 (rt1 h)
theorem m_X0_placeOf {b0 : Nat} {x1 : Int32} {σ : Sg} (hb0 : isBook b0) {r : Int32} (h : f_X0_placeOf b0 x1 σ = some r) : CI yX0_placeOf cX0_placeOf 3 (some .int) 0 0 (fun ad => [.ref (ad b0), .int x1]) σ r σ :=
  CI.of (by decide) (fun _ => Nat.le_of_ble_eq_true rfl) (fun X K hR hr => w_X0_placeOf K hR hb0 h hr)
def L_X0_doneBy_4 (b0 : Nat) (x1 : Int32) (σ : Sg) : Nat → Int32 → Int32 → Option (Int32 × Int32)
  | 0, _, _ => none
  | n + 1, x2, x3 =>
    if (σ.1 b0 7) ≤ x3 then
    (some (x2, x3))
    else
    (if inb x3 41 then
    (jn (if x1 < (σ.1 (b0 + 1) x3.toNatClampNeg) then (0) else (1) : Int32) (fun v5 =>
    L_X0_doneBy_4 b0 x1 σ n (x2 + (f_X6_asNumber v5)) (x3 + 1)))
    else none)
set_option maxRecDepth 20000 in
set_option maxHeartbeats 4000000 in
theorem l_X0_doneBy_4 {X : Ctx} (K : Cok X cX0_doneBy 4 RX0) (hR : 1 ≤ X.R.frames ∧ 20 ≤ X.R.locals) {b0 : Nat} {x1 : Int32} {σ : Sg} (hb0 : isBook b0) :
    ∀ (n : Nat) (x2 : Int32) (x3 : Int32) (o : (Int32 × Int32)), L_X0_doneBy_4 b0 x1 σ n x2 x3 = some o → G X 4 39 [(0, .ref (X.ad b0)), (1, .int x1), (2, .int o.1), (3, .int o.2)] [] σ → G X 4 4 [(0, .ref (X.ad b0)), (1, .int x1), (2, .int x2), (3, .int x3)] [] σ := by
  intro n
  induction n with
  | zero => intro x2 x3 o h; exact absurd h (by unfold L_X0_doneBy_4; intro h; cases h)
  | succ n ih =>
    intro x2 x3 o h hexit
    unfold L_X0_doneBy_4 at h
    refine g_iload_n K 3 dX0_doneBy_4 rfl rfl ?_
    refine g_aload_n K 0 dX0_doneBy_5 rfl rfl ?_
    refine g_get (v := .int (σ.1 b0 7)) K (e_Book (bk_k0 hb0)) (bk_l0 hb0) rfl 7 (by decide) rfl fw_X0_43 u_X0 dX0_doneBy_6 ?_
    refine g_icmp_ge (tgt := 39) K dX0_doneBy_9 (by decide) (fun c1 => ?_) (fun c1 => ?_)
    · replace h := bp c1 h
      refine g_sub [0, 1, 2, 3] rfl ?_
      obtain rfl := Option.some.inj h
      exact hexit
    · replace h := bn c1 h
      refine g_iload_n K 2 dX0_doneBy_12 rfl rfl ?_
      refine g_aload_n K 0 dX0_doneBy_13 rfl rfl ?_
      refine g_get (v := .ref (X.ad (b0 + 1))) K (e_Book (bk_k0 hb0)) (bk_l0 hb0) rfl 0 (by decide) rfl fw_X0_11 u_X0 dX0_doneBy_14 ?_
      refine g_iload_n K 3 dX0_doneBy_17 rfl rfl ?_
      obtain ⟨g2, h⟩ := og h
      refine g_iald K (bk_k1 hb0) (bk_l1 hb0) g2 dX0_doneBy_18 ?_
      refine g_iload_n K 1 dX0_doneBy_19 rfl rfl ?_
      refine jn_cut h (P := (fun v5 => G X 4 28 [(0, .ref (X.ad b0)), (1, .int x1), (2, .int x2), (3, .int x3)] [.int v5, .int x2] σ)) (fun v5 h => ?_) (fun tail_4 => ?_)
      · refine g_cni (As := [.int v5]) (rest := [.int x2]) K (m_X6_asNumber v5 σ) yv_X6_asNumber ne_X0_62 rfl rfl rfl ⟨Nat.le_trans (Nat.le_of_ble_eq_true rfl) hR.1, Nat.le_trans (Nat.le_of_ble_eq_true rfl) hR.2⟩ (Nat.le_of_ble_eq_true rfl) dX0_doneBy_28 ?_
        refine g_iadd K dX0_doneBy_31 ?_
        refine g_istore_n (lv' := [(2, .int (x2 + (f_X6_asNumber v5))), (0, .ref (X.ad b0)), (1, .int x1), (3, .int x3)]) K dX0_doneBy_32 rfl (by decide) rfl ?_
        refine g_iinc (lv' := [(3, .int (x3 + 1)), (2, .int (x2 + (f_X6_asNumber v5))), (0, .ref (X.ad b0)), (1, .int x1)]) K 3 dX0_doneBy_33 rfl (by rw [ic_1]) (by decide) rfl ?_
        refine g_goto (tgt := 4) K dX0_doneBy_36 (by decide) ?_
        refine g_sub [2, 3, 1, 0] rfl ?_
        exact ih _ _ _ h hexit
      · refine g_icmp_gt (tgt := 27) K dX0_doneBy_20 (by decide) (fun c6 => ?_) (fun c6 => ?_)
        · replace h := jpp c6 h
          refine g_iconst (v := 0) K dX0_doneBy_27 ic_0 ?_
          exact tail_4 _ h
        · replace h := jpn c6 h
          refine g_iconst (v := 1) K dX0_doneBy_23 ic_1 ?_
          refine g_goto (tgt := 28) K dX0_doneBy_24 (by decide) ?_
          exact tail_4 _ h
def f_X0_doneBy (b0 : Nat) (x1 : Int32) (σ : Sg) : Option Int32 :=
  Option.bind (L_X0_doneBy_4 b0 x1 σ FU 0 0) (fun o1 =>
  some o1.1)
set_option maxRecDepth 20000 in
set_option maxHeartbeats 4000000 in
theorem w_X0_doneBy {X : Ctx} (K : Cok X cX0_doneBy 4 RX0) (hR : 1 ≤ X.R.frames ∧ 20 ≤ X.R.locals) {b0 : Nat} {x1 : Int32} {σ : Sg} (hb0 : isBook b0) {r : Int32} (h : f_X0_doneBy b0 x1 σ = some r) (hr : RI X cX0_doneBy 4 (r, σ)) : G X 4 0 [(0, .ref (X.ad b0)), (1, .int x1)] [] σ := by
  unfold f_X0_doneBy at h
  refine g_iconst (v := 0) K dX0_doneBy_0 ic_0 ?_
  refine g_istore_n (lv' := [(2, .int 0), (0, .ref (X.ad b0)), (1, .int x1)]) K dX0_doneBy_1 rfl (by decide) rfl ?_
  refine g_iconst (v := 0) K dX0_doneBy_2 ic_0 ?_
  refine g_istore_n (lv' := [(3, .int 0), (2, .int 0), (0, .ref (X.ad b0)), (1, .int x1)]) K dX0_doneBy_3 rfl (by decide) rfl ?_
  obtain ⟨o1, e2, h⟩ := ob h
  refine g_sub [2, 3, 1, 0] rfl ?_
  refine l_X0_doneBy_4 K hR hb0 _ _ _ _ e2 ?_
  refine g_iload_n K 2 dX0_doneBy_39 rfl rfl ?_
  exact hr _ _ _ _ dX0_doneBy_40 (rt1 h)
theorem m_X0_doneBy {b0 : Nat} {x1 : Int32} {σ : Sg} (hb0 : isBook b0) {r : Int32} (h : f_X0_doneBy b0 x1 σ = some r) : CI yX0_doneBy cX0_doneBy 4 (some .int) 1 20 (fun ad => [.ref (ad b0), .int x1]) σ r σ :=
  CI.of (by decide) (fun _ => Nat.le_of_ble_eq_true rfl) (fun X K hR hr => w_X0_doneBy K hR hb0 h hr)
def f_X0_isLastOfItsDay (b0 : Nat) (x1 : Int32) (σ : Sg) : Option Int32 :=
  if (σ.1 b0 7) ≤ (x1 + 1) then
  (some 1)
  else
  (if inb (x1 + 1) 41 then
  (if inb (σ.1 (b0 + 7) (x1 + 1).toNatClampNeg) 41 then
  (if inb x1 41 then
  (if inb (σ.1 (b0 + 7) x1.toNatClampNeg) 41 then
  (if (σ.1 (b0 + 1) (σ.1 (b0 + 7) (x1 + 1).toNatClampNeg).toNatClampNeg) = (σ.1 (b0 + 1) (σ.1 (b0 + 7) x1.toNatClampNeg).toNatClampNeg) then
  (some 0)
  else
  (some 1))
  else none)
  else none)
  else none)
  else none)
set_option maxRecDepth 20000 in
set_option maxHeartbeats 4000000 in
theorem w_X0_isLastOfItsDay {X : Ctx} (K : Cok X cX0_isLastOfItsDay 2 RX0) (hR : 0 ≤ X.R.frames ∧ 0 ≤ X.R.locals) {b0 : Nat} {x1 : Int32} {σ : Sg} (hb0 : isBook b0) {r : Int32} (h : f_X0_isLastOfItsDay b0 x1 σ = some r) (hr : RZ X cX0_isLastOfItsDay 2 (r, σ)) : G X 2 0 [(0, .ref (X.ad b0)), (1, .int x1)] [] σ := by
  unfold f_X0_isLastOfItsDay at h
  refine g_iload_n K 1 dX0_isLastOfItsDay_0 rfl rfl ?_
  refine g_iconst (v := 1) K dX0_isLastOfItsDay_1 ic_1 ?_
  refine g_iadd K dX0_isLastOfItsDay_2 ?_
  refine g_aload_n K 0 dX0_isLastOfItsDay_3 rfl rfl ?_
  refine g_get (v := .int (σ.1 b0 7)) K (e_Book (bk_k0 hb0)) (bk_l0 hb0) rfl 7 (by decide) rfl fw_X0_43 u_X0 dX0_isLastOfItsDay_4 ?_
  refine g_icmp_ge (tgt := 37) K dX0_isLastOfItsDay_7 (by decide) (fun c1 => ?_) (fun c1 => ?_)
  · replace h := bp c1 h
    refine g_iconst (v := 1) K dX0_isLastOfItsDay_37 ic_1 ?_
    refine g_goto (tgt := 42) K dX0_isLastOfItsDay_38 (by decide) ?_
    exact hr _ _ _ _ dX0_isLastOfItsDay_42 (rt1 h) nb_1
  · replace h := bn c1 h
    refine g_aload_n K 0 dX0_isLastOfItsDay_10 rfl rfl ?_
    refine g_get (v := .ref (X.ad (b0 + 1))) K (e_Book (bk_k0 hb0)) (bk_l0 hb0) rfl 0 (by decide) rfl fw_X0_11 u_X0 dX0_isLastOfItsDay_11 ?_
    refine g_aload_n K 0 dX0_isLastOfItsDay_14 rfl rfl ?_
    refine g_get (v := .ref (X.ad (b0 + 7))) K (e_Book (bk_k0 hb0)) (bk_l0 hb0) rfl 6 (by decide) rfl fw_X0_30 u_X0 dX0_isLastOfItsDay_15 ?_
    refine g_iload_n K 1 dX0_isLastOfItsDay_18 rfl rfl ?_
    refine g_iconst (v := 1) K dX0_isLastOfItsDay_19 ic_1 ?_
    refine g_iadd K dX0_isLastOfItsDay_20 ?_
    obtain ⟨g2, h⟩ := og h
    refine g_iald K (bk_k7 hb0) (bk_l7 hb0) g2 dX0_isLastOfItsDay_21 ?_
    obtain ⟨g3, h⟩ := og h
    refine g_iald K (bk_k1 hb0) (bk_l1 hb0) g3 dX0_isLastOfItsDay_22 ?_
    refine g_aload_n K 0 dX0_isLastOfItsDay_23 rfl rfl ?_
    refine g_get (v := .ref (X.ad (b0 + 1))) K (e_Book (bk_k0 hb0)) (bk_l0 hb0) rfl 0 (by decide) rfl fw_X0_11 u_X0 dX0_isLastOfItsDay_24 ?_
    refine g_aload_n K 0 dX0_isLastOfItsDay_27 rfl rfl ?_
    refine g_get (v := .ref (X.ad (b0 + 7))) K (e_Book (bk_k0 hb0)) (bk_l0 hb0) rfl 6 (by decide) rfl fw_X0_30 u_X0 dX0_isLastOfItsDay_28 ?_
    refine g_iload_n K 1 dX0_isLastOfItsDay_31 rfl rfl ?_
    obtain ⟨g4, h⟩ := og h
    refine g_iald K (bk_k7 hb0) (bk_l7 hb0) g4 dX0_isLastOfItsDay_32 ?_
    obtain ⟨g5, h⟩ := og h
    refine g_iald K (bk_k1 hb0) (bk_l1 hb0) g5 dX0_isLastOfItsDay_33 ?_
    refine g_icmp_eq (tgt := 41) K dX0_isLastOfItsDay_34 (by decide) (fun c6 => ?_) (fun c6 => ?_)
    · replace h := bp c6 h
      refine g_iconst (v := 0) K dX0_isLastOfItsDay_41 ic_0 ?_
      exact hr _ _ _ _ dX0_isLastOfItsDay_42 (rt1 h) nb_0
    · replace h := bn c6 h
      refine g_iconst (v := 1) K dX0_isLastOfItsDay_37 ic_1 ?_
      refine g_goto (tgt := 42) K dX0_isLastOfItsDay_38 (by decide) ?_
      exact hr _ _ _ _ dX0_isLastOfItsDay_42 (rt1 h) nb_1
theorem m_X0_isLastOfItsDay {b0 : Nat} {x1 : Int32} {σ : Sg} (hb0 : isBook b0) {r : Int32} (h : f_X0_isLastOfItsDay b0 x1 σ = some r) : CI yX0_isLastOfItsDay cX0_isLastOfItsDay 2 (some .boolean) 0 0 (fun ad => [.ref (ad b0), .int x1]) σ r σ :=
  CZ.of (by decide) (fun _ => Nat.le_of_ble_eq_true rfl) (fun X K hR hr => w_X0_isLastOfItsDay K hR hb0 h hr)
def f_X0_copyFrom (b0 : Nat) (b1 : Nat) (σ : Sg) : Option Sg :=
  if (0 ≤ Int32.toInt 0 ∧ 0 ≤ Int32.toInt 0 ∧ 0 ≤ Int32.toInt 41) ∧ Int32.toInt 0 + Int32.toInt 41 ≤ 41 ∧ Int32.toInt 0 + Int32.toInt 41 ≤ 41 then
  (jn (setR σ (b0 + 1) (va_cpy (σ.1 (b1 + 1)) (σ.1 (b0 + 1)) (0 : Int32).toNatClampNeg (0 : Int32).toNatClampNeg (41 : Int32).toNatClampNeg)) (fun σ2 =>
  if (0 ≤ Int32.toInt 0 ∧ 0 ≤ Int32.toInt 0 ∧ 0 ≤ Int32.toInt 41) ∧ Int32.toInt 0 + Int32.toInt 41 ≤ 41 ∧ Int32.toInt 0 + Int32.toInt 41 ≤ 41 then
  (jn (setR σ2 (b0 + 2) (va_cpy (σ2.1 (b1 + 2)) (σ2.1 (b0 + 2)) (0 : Int32).toNatClampNeg (0 : Int32).toNatClampNeg (41 : Int32).toNatClampNeg)) (fun σ5 =>
  if (0 ≤ Int32.toInt 0 ∧ 0 ≤ Int32.toInt 0 ∧ 0 ≤ Int32.toInt 41) ∧ Int32.toInt 0 + Int32.toInt 41 ≤ 41 ∧ Int32.toInt 0 + Int32.toInt 41 ≤ 41 then
  (jn (setR σ5 (b0 + 3) (va_cpy (σ5.1 (b1 + 3)) (σ5.1 (b0 + 3)) (0 : Int32).toNatClampNeg (0 : Int32).toNatClampNeg (41 : Int32).toNatClampNeg)) (fun σ8 =>
  if (0 ≤ Int32.toInt 0 ∧ 0 ≤ Int32.toInt 0 ∧ 0 ≤ Int32.toInt 41) ∧ Int32.toInt 0 + Int32.toInt 41 ≤ 41 ∧ Int32.toInt 0 + Int32.toInt 41 ≤ 41 then
  (jn (setR σ8 (b0 + 4) (va_cpy (σ8.1 (b1 + 4)) (σ8.1 (b0 + 4)) (0 : Int32).toNatClampNeg (0 : Int32).toNatClampNeg (41 : Int32).toNatClampNeg)) (fun σ11 =>
  if (0 ≤ Int32.toInt 0 ∧ 0 ≤ Int32.toInt 0 ∧ 0 ≤ Int32.toInt 41) ∧ Int32.toInt 0 + Int32.toInt 41 ≤ 41 ∧ Int32.toInt 0 + Int32.toInt 41 ≤ 41 then
  (jn (setR σ11 (b0 + 5) (va_cpy (σ11.1 (b1 + 5)) (σ11.1 (b0 + 5)) (0 : Int32).toNatClampNeg (0 : Int32).toNatClampNeg (41 : Int32).toNatClampNeg)) (fun σ14 =>
  if (0 ≤ Int32.toInt 0 ∧ 0 ≤ Int32.toInt 0 ∧ 0 ≤ Int32.toInt 41) ∧ Int32.toInt 0 + Int32.toInt 41 ≤ 41 ∧ Int32.toInt 0 + Int32.toInt 41 ≤ 41 then
  (jn (setR σ14 (b0 + 6) (va_cpy (σ14.1 (b1 + 6)) (σ14.1 (b0 + 6)) (0 : Int32).toNatClampNeg (0 : Int32).toNatClampNeg (41 : Int32).toNatClampNeg)) (fun σ17 =>
  if (0 ≤ Int32.toInt 0 ∧ 0 ≤ Int32.toInt 0 ∧ 0 ≤ Int32.toInt 41) ∧ Int32.toInt 0 + Int32.toInt 41 ≤ 41 ∧ Int32.toInt 0 + Int32.toInt 41 ≤ 41 then
  (jn (setR σ17 (b0 + 7) (va_cpy (σ17.1 (b1 + 7)) (σ17.1 (b0 + 7)) (0 : Int32).toNatClampNeg (0 : Int32).toNatClampNeg (41 : Int32).toNatClampNeg)) (fun σ20 =>
  jn (setR σ20 b0 (upd (σ20.1 b0) 7 (σ20.1 b1 7))) (fun σ22 =>
  jn (setR σ22 b0 (upd (σ22.1 b0) 8 (σ22.1 b1 8))) (fun σ24 =>
  jn (setR σ24 b0 (upd (σ24.1 b0) 9 (σ24.1 b1 9))) (fun σ26 =>
  jn (setR σ26 b0 (upd (σ26.1 b0) 10 (σ26.1 b1 10))) (fun σ28 =>
  jn (setR σ28 b0 (upd (σ28.1 b0) 11 (σ28.1 b1 11))) (fun σ30 =>
  some (σ30))))))))
  else none))
  else none))
  else none))
  else none))
  else none))
  else none))
  else none
set_option maxRecDepth 20000 in
set_option maxHeartbeats 4000000 in
theorem w_X0_copyFrom {X : Ctx} (K : Cok X cX0_copyFrom 2 RX0) (hR : 1 ≤ X.R.frames ∧ 26 ≤ X.R.locals) {b0 : Nat} {b1 : Nat} {σ : Sg} (hb0 : isBook b0) (hb1 : isBook b1) {r : Sg} (h : f_X0_copyFrom b0 b1 σ = some r) (hr : RV X cX0_copyFrom 2 r) : G X 2 0 [(0, .ref (X.ad b0)), (1, .ref (X.ad b1))] [] σ := by
  unfold f_X0_copyFrom at h
  refine g_aload_n K 1 dX0_copyFrom_0 rfl rfl ?_
  refine g_get (v := .ref (X.ad (b1 + 1))) K (e_Book (bk_k0 hb1)) (bk_l0 hb1) rfl 0 (by decide) rfl fw_X0_11 u_X0 dX0_copyFrom_1 ?_
  refine g_iconst (v := 0) K dX0_copyFrom_4 ic_0 ?_
  refine g_aload_n K 0 dX0_copyFrom_5 rfl rfl ?_
  refine g_get (v := .ref (X.ad (b0 + 1))) K (e_Book (bk_k0 hb0)) (bk_l0 hb0) rfl 0 (by decide) rfl fw_X0_11 u_X0 dX0_copyFrom_6 ?_
  refine g_iconst (v := 0) K dX0_copyFrom_9 ic_0 ?_
  refine g_bipush (v := 41) K dX0_copyFrom_10 bp_41 ?_
  obtain ⟨g1, h⟩ := og h
  refine g_copy K (bk_k1 hb1) (bk_l1 hb1) (bk_k1 hb0) (bk_l1 hb0) g1 ml_X0_53 ac_native ac_static ac_init (Nat.le_trans (Nat.le_of_ble_eq_true rfl) hR.1) (Nat.le_trans (Nat.le_of_ble_eq_true rfl) hR.2) dX0_copyFrom_12 (fun σ2 s3 => ?_)
  replace h := jn_at s3 h
  refine g_aload_n K 1 dX0_copyFrom_15 rfl rfl ?_
  refine g_get (v := .ref (X.ad (b1 + 2))) K (e_Book (bk_k0 hb1)) (bk_l0 hb1) rfl 1 (by decide) rfl fw_X0_15 u_X0 dX0_copyFrom_16 ?_
  refine g_iconst (v := 0) K dX0_copyFrom_19 ic_0 ?_
  refine g_aload_n K 0 dX0_copyFrom_20 rfl rfl ?_
  refine g_get (v := .ref (X.ad (b0 + 2))) K (e_Book (bk_k0 hb0)) (bk_l0 hb0) rfl 1 (by decide) rfl fw_X0_15 u_X0 dX0_copyFrom_21 ?_
  refine g_iconst (v := 0) K dX0_copyFrom_24 ic_0 ?_
  refine g_bipush (v := 41) K dX0_copyFrom_25 bp_41 ?_
  obtain ⟨g4, h⟩ := og h
  refine g_copy K (bk_k2 hb1) (bk_l2 hb1) (bk_k2 hb0) (bk_l2 hb0) g4 ml_X0_53 ac_native ac_static ac_init (Nat.le_trans (Nat.le_of_ble_eq_true rfl) hR.1) (Nat.le_trans (Nat.le_of_ble_eq_true rfl) hR.2) dX0_copyFrom_27 (fun σ5 s6 => ?_)
  replace h := jn_at s6 h
  refine g_aload_n K 1 dX0_copyFrom_30 rfl rfl ?_
  refine g_get (v := .ref (X.ad (b1 + 3))) K (e_Book (bk_k0 hb1)) (bk_l0 hb1) rfl 2 (by decide) rfl fw_X0_18 u_X0 dX0_copyFrom_31 ?_
  refine g_iconst (v := 0) K dX0_copyFrom_34 ic_0 ?_
  refine g_aload_n K 0 dX0_copyFrom_35 rfl rfl ?_
  refine g_get (v := .ref (X.ad (b0 + 3))) K (e_Book (bk_k0 hb0)) (bk_l0 hb0) rfl 2 (by decide) rfl fw_X0_18 u_X0 dX0_copyFrom_36 ?_
  refine g_iconst (v := 0) K dX0_copyFrom_39 ic_0 ?_
  refine g_bipush (v := 41) K dX0_copyFrom_40 bp_41 ?_
  obtain ⟨g7, h⟩ := og h
  refine g_copy K (bk_k3 hb1) (bk_l3 hb1) (bk_k3 hb0) (bk_l3 hb0) g7 ml_X0_53 ac_native ac_static ac_init (Nat.le_trans (Nat.le_of_ble_eq_true rfl) hR.1) (Nat.le_trans (Nat.le_of_ble_eq_true rfl) hR.2) dX0_copyFrom_42 (fun σ8 s9 => ?_)
  replace h := jn_at s9 h
  refine g_aload_n K 1 dX0_copyFrom_45 rfl rfl ?_
  refine g_get (v := .ref (X.ad (b1 + 4))) K (e_Book (bk_k0 hb1)) (bk_l0 hb1) rfl 3 (by decide) rfl fw_X0_21 u_X0 dX0_copyFrom_46 ?_
  refine g_iconst (v := 0) K dX0_copyFrom_49 ic_0 ?_
  refine g_aload_n K 0 dX0_copyFrom_50 rfl rfl ?_
  refine g_get (v := .ref (X.ad (b0 + 4))) K (e_Book (bk_k0 hb0)) (bk_l0 hb0) rfl 3 (by decide) rfl fw_X0_21 u_X0 dX0_copyFrom_51 ?_
  refine g_iconst (v := 0) K dX0_copyFrom_54 ic_0 ?_
  refine g_bipush (v := 41) K dX0_copyFrom_55 bp_41 ?_
  obtain ⟨g10, h⟩ := og h
  refine g_copy K (bk_k4 hb1) (bk_l4 hb1) (bk_k4 hb0) (bk_l4 hb0) g10 ml_X0_53 ac_native ac_static ac_init (Nat.le_trans (Nat.le_of_ble_eq_true rfl) hR.1) (Nat.le_trans (Nat.le_of_ble_eq_true rfl) hR.2) dX0_copyFrom_57 (fun σ11 s12 => ?_)
  replace h := jn_at s12 h
  refine g_aload_n K 1 dX0_copyFrom_60 rfl rfl ?_
  refine g_get (v := .ref (X.ad (b1 + 5))) K (e_Book (bk_k0 hb1)) (bk_l0 hb1) rfl 4 (by decide) rfl fw_X0_24 u_X0 dX0_copyFrom_61 ?_
  refine g_iconst (v := 0) K dX0_copyFrom_64 ic_0 ?_
  refine g_aload_n K 0 dX0_copyFrom_65 rfl rfl ?_
  refine g_get (v := .ref (X.ad (b0 + 5))) K (e_Book (bk_k0 hb0)) (bk_l0 hb0) rfl 4 (by decide) rfl fw_X0_24 u_X0 dX0_copyFrom_66 ?_
  refine g_iconst (v := 0) K dX0_copyFrom_69 ic_0 ?_
  refine g_bipush (v := 41) K dX0_copyFrom_70 bp_41 ?_
  obtain ⟨g13, h⟩ := og h
  refine g_copy K (bk_k5 hb1) (bk_l5 hb1) (bk_k5 hb0) (bk_l5 hb0) g13 ml_X0_53 ac_native ac_static ac_init (Nat.le_trans (Nat.le_of_ble_eq_true rfl) hR.1) (Nat.le_trans (Nat.le_of_ble_eq_true rfl) hR.2) dX0_copyFrom_72 (fun σ14 s15 => ?_)
  replace h := jn_at s15 h
  refine g_aload_n K 1 dX0_copyFrom_75 rfl rfl ?_
  refine g_get (v := .ref (X.ad (b1 + 6))) K (e_Book (bk_k0 hb1)) (bk_l0 hb1) rfl 5 (by decide) rfl fw_X0_27 u_X0 dX0_copyFrom_76 ?_
  refine g_iconst (v := 0) K dX0_copyFrom_79 ic_0 ?_
  refine g_aload_n K 0 dX0_copyFrom_80 rfl rfl ?_
  refine g_get (v := .ref (X.ad (b0 + 6))) K (e_Book (bk_k0 hb0)) (bk_l0 hb0) rfl 5 (by decide) rfl fw_X0_27 u_X0 dX0_copyFrom_81 ?_
  refine g_iconst (v := 0) K dX0_copyFrom_84 ic_0 ?_
  refine g_bipush (v := 41) K dX0_copyFrom_85 bp_41 ?_
  obtain ⟨g16, h⟩ := og h
  refine g_copy K (bk_k6 hb1) (bk_l6 hb1) (bk_k6 hb0) (bk_l6 hb0) g16 ml_X0_53 ac_native ac_static ac_init (Nat.le_trans (Nat.le_of_ble_eq_true rfl) hR.1) (Nat.le_trans (Nat.le_of_ble_eq_true rfl) hR.2) dX0_copyFrom_87 (fun σ17 s18 => ?_)
  replace h := jn_at s18 h
  refine g_aload_n K 1 dX0_copyFrom_90 rfl rfl ?_
  refine g_get (v := .ref (X.ad (b1 + 7))) K (e_Book (bk_k0 hb1)) (bk_l0 hb1) rfl 6 (by decide) rfl fw_X0_30 u_X0 dX0_copyFrom_91 ?_
  refine g_iconst (v := 0) K dX0_copyFrom_94 ic_0 ?_
  refine g_aload_n K 0 dX0_copyFrom_95 rfl rfl ?_
  refine g_get (v := .ref (X.ad (b0 + 7))) K (e_Book (bk_k0 hb0)) (bk_l0 hb0) rfl 6 (by decide) rfl fw_X0_30 u_X0 dX0_copyFrom_96 ?_
  refine g_iconst (v := 0) K dX0_copyFrom_99 ic_0 ?_
  refine g_bipush (v := 41) K dX0_copyFrom_100 bp_41 ?_
  obtain ⟨g19, h⟩ := og h
  refine g_copy K (bk_k7 hb1) (bk_l7 hb1) (bk_k7 hb0) (bk_l7 hb0) g19 ml_X0_53 ac_native ac_static ac_init (Nat.le_trans (Nat.le_of_ble_eq_true rfl) hR.1) (Nat.le_trans (Nat.le_of_ble_eq_true rfl) hR.2) dX0_copyFrom_102 (fun σ20 s21 => ?_)
  replace h := jn_at s21 h
  refine g_aload_n K 0 dX0_copyFrom_105 rfl rfl ?_
  refine g_aload_n K 1 dX0_copyFrom_106 rfl rfl ?_
  refine g_get (v := .int (σ20.1 b1 7)) K (e_Book (bk_k0 hb1)) (bk_l0 hb1) rfl 7 (by decide) rfl fw_X0_43 u_X0 dX0_copyFrom_107 ?_
  refine g_put (f' := (upd (σ20.1 b0) 7 (σ20.1 b1 7))) K (e_Book (bk_k0 hb0)) (bk_l0 hb0) rfl 7 (by decide) (e_Book (bk_k0 hb0)) tyX0 tyX0_ok nmX0 rfl (ty := .int) (by decide +kernel) rfl rfl (Nat.le_of_ble_eq_true rfl) fw_X0_43 u_X0 dX0_copyFrom_110 (fun σ22 s23 => ?_)
  replace h := jn_at s23 h
  refine g_aload_n K 0 dX0_copyFrom_113 rfl rfl ?_
  refine g_aload_n K 1 dX0_copyFrom_114 rfl rfl ?_
  refine g_get (v := .int (σ22.1 b1 8)) K (e_Book (bk_k0 hb1)) (bk_l0 hb1) rfl 8 (by decide) rfl fw_X0_59 u_X0 dX0_copyFrom_115 ?_
  refine g_put (f' := (upd (σ22.1 b0) 8 (σ22.1 b1 8))) K (e_Book (bk_k0 hb0)) (bk_l0 hb0) rfl 8 (by decide) (e_Book (bk_k0 hb0)) tyX0 tyX0_ok nmX0 rfl (ty := .int) (by decide +kernel) rfl rfl (Nat.le_of_ble_eq_true rfl) fw_X0_59 u_X0 dX0_copyFrom_118 (fun σ24 s25 => ?_)
  replace h := jn_at s25 h
  refine g_aload_n K 0 dX0_copyFrom_121 rfl rfl ?_
  refine g_aload_n K 1 dX0_copyFrom_122 rfl rfl ?_
  refine g_get (v := .int (σ24.1 b1 9)) K (e_Book (bk_k0 hb1)) (bk_l0 hb1) rfl 9 (by decide) rfl fw_X0_33 u_X0 dX0_copyFrom_123 ?_
  refine g_put (f' := (upd (σ24.1 b0) 9 (σ24.1 b1 9))) K (e_Book (bk_k0 hb0)) (bk_l0 hb0) rfl 9 (by decide) (e_Book (bk_k0 hb0)) tyX0 tyX0_ok nmX0 rfl (ty := .int) (by decide +kernel) rfl rfl (Nat.le_of_ble_eq_true rfl) fw_X0_33 u_X0 dX0_copyFrom_126 (fun σ26 s27 => ?_)
  replace h := jn_at s27 h
  refine g_aload_n K 0 dX0_copyFrom_129 rfl rfl ?_
  refine g_aload_n K 1 dX0_copyFrom_130 rfl rfl ?_
  refine g_get (v := .int (σ26.1 b1 10)) K (e_Book (bk_k0 hb1)) (bk_l0 hb1) rfl 10 (by decide) rfl fw_X0_37 u_X0 dX0_copyFrom_131 ?_
  refine g_put (f' := (upd (σ26.1 b0) 10 (σ26.1 b1 10))) K (e_Book (bk_k0 hb0)) (bk_l0 hb0) rfl 10 (by decide) (e_Book (bk_k0 hb0)) tyX0 tyX0_ok nmX0 rfl (ty := .int) (by decide +kernel) rfl rfl (Nat.le_of_ble_eq_true rfl) fw_X0_37 u_X0 dX0_copyFrom_134 (fun σ28 s29 => ?_)
  replace h := jn_at s29 h
  refine g_aload_n K 0 dX0_copyFrom_137 rfl rfl ?_
  refine g_aload_n K 1 dX0_copyFrom_138 rfl rfl ?_
  refine g_get (v := .int (σ28.1 b1 11)) K (e_Book (bk_k0 hb1)) (bk_l0 hb1) rfl 11 (by decide) rfl fw_X0_40 u_X0 dX0_copyFrom_139 ?_
  refine g_put (f' := (upd (σ28.1 b0) 11 (σ28.1 b1 11))) K (e_Book (bk_k0 hb0)) (bk_l0 hb0) rfl 11 (by decide) (e_Book (bk_k0 hb0)) tyX0 tyX0_ok nmX0 rfl (ty := .int) (by decide +kernel) rfl rfl (Nat.le_of_ble_eq_true rfl) fw_X0_40 u_X0 dX0_copyFrom_142 (fun σ30 s31 => ?_)
  replace h := jn_at s31 h
  exact hr _ _ _ dX0_copyFrom_145 (rt2 h)
theorem m_X0_copyFrom {b0 : Nat} {b1 : Nat} {σ : Sg} (hb0 : isBook b0) (hb1 : isBook b1) {r : Sg} (h : f_X0_copyFrom b0 b1 σ = some r) : CV yX0_copyFrom cX0_copyFrom 2 none 1 26 (fun ad => [.ref (ad b0), .ref (ad b1)]) σ r :=
  CV.of (by decide) (fun _ => Nat.le_of_ble_eq_true rfl) (fun X K hR hr => w_X0_copyFrom K hR hb0 hb1 h hr)
def L_X0_unlikeDay_4 (b0 : Nat) (x1 : Int32) (σ : Sg) : Nat → Int32 → Int32 → Option ((Int32) ⊕ (Int32 × Int32))
  | 0, _, _ => none
  | n + 1, x2, x3 =>
    if (σ.1 b0 7) ≤ x3 then
    (some (.inr (x2, x3)))
    else
    (Option.bind (f_X0_isLastOfItsDay b0 x3 σ) (fun r2 =>
    if r2 = 0 then
    (L_X0_unlikeDay_4 b0 x1 σ n x2 (x3 + 1))
    else
    (if x2 = x1 then
    (if inb x3 41 then
    (if inb (σ.1 (b0 + 7) x3.toNatClampNeg) 41 then
    (some (.inl ((σ.1 (b0 + 1) (σ.1 (b0 + 7) x3.toNatClampNeg).toNatClampNeg))))
    else none)
    else none)
    else
    (L_X0_unlikeDay_4 b0 x1 σ n (x2 + 1) (x3 + 1)))))
set_option maxRecDepth 20000 in
set_option maxHeartbeats 4000000 in
theorem l_X0_unlikeDay_4 {X : Ctx} (K : Cok X cX0_unlikeDay 4 RX0) (hR : 1 ≤ X.R.frames ∧ 21 ≤ X.R.locals) {res : Int32 × Sg} (hr : RI X cX0_unlikeDay 4 res) {b0 : Nat} {x1 : Int32} {σ : Sg} (hb0 : isBook b0) :
    ∀ (n : Nat) (x2 : Int32) (x3 : Int32) (o : ((Int32) ⊕ (Int32 × Int32))), L_X0_unlikeDay_4 b0 x1 σ n x2 x3 = some o → (∀ q, o = .inl q → (q, σ) = res) → (∀ q, o = .inr q → G X 4 46 [(0, .ref (X.ad b0)), (1, .int x1), (2, .int q.1), (3, .int q.2)] [] σ) → G X 4 4 [(0, .ref (X.ad b0)), (1, .int x1), (2, .int x2), (3, .int x3)] [] σ := by
  intro n
  induction n with
  | zero => intro x2 x3 o h; exact absurd h (by unfold L_X0_unlikeDay_4; intro h; cases h)
  | succ n ih =>
    intro x2 x3 o h hret hexit
    unfold L_X0_unlikeDay_4 at h
    refine g_iload_n K 3 dX0_unlikeDay_4 rfl rfl ?_
    refine g_aload_n K 0 dX0_unlikeDay_5 rfl rfl ?_
    refine g_get (v := .int (σ.1 b0 7)) K (e_Book (bk_k0 hb0)) (bk_l0 hb0) rfl 7 (by decide) rfl fw_X0_43 u_X0 dX0_unlikeDay_6 ?_
    refine g_icmp_ge (tgt := 46) K dX0_unlikeDay_9 (by decide) (fun c1 => ?_) (fun c1 => ?_)
    · replace h := bp c1 h
      refine g_sub [0, 1, 2, 3] rfl ?_
      exact hexit _ (Option.some.inj h).symm
    · replace h := bn c1 h
      refine g_aload_n K 0 dX0_unlikeDay_12 rfl rfl ?_
      refine g_iload_n K 3 dX0_unlikeDay_13 rfl rfl ?_
      obtain ⟨r2, e3, h⟩ := ob h
      refine g_cvi (As := [.int x3]) (rest := []) K (m_X0_isLastOfItsDay hb0 e3) yv_X0_isLastOfItsDay ml_X0_66 rfl rfl rfl (e_Book (bk_k0 hb0)) (bk_l0 hb0) rfl rfl ⟨Nat.le_trans (Nat.le_of_ble_eq_true rfl) hR.1, Nat.le_trans (Nat.le_of_ble_eq_true rfl) hR.2⟩ (Nat.le_of_ble_eq_true rfl) dX0_unlikeDay_14 ?_
      refine g_if_eq (tgt := 40) K dX0_unlikeDay_17 (by decide) (fun c4 => ?_) (fun c4 => ?_)
      · replace h := bp c4 h
        refine g_iinc (lv' := [(3, .int (x3 + 1)), (0, .ref (X.ad b0)), (1, .int x1), (2, .int x2)]) K 3 dX0_unlikeDay_40 rfl (by rw [ic_1]) (by decide) rfl ?_
        refine g_goto (tgt := 4) K dX0_unlikeDay_43 (by decide) ?_
        refine g_sub [1, 2, 3, 0] rfl ?_
        exact ih _ _ _ h hret hexit
      · replace h := bn c4 h
        refine g_iload_n K 2 dX0_unlikeDay_20 rfl rfl ?_
        refine g_iload_n K 1 dX0_unlikeDay_21 rfl rfl ?_
        refine g_icmp_ne (tgt := 37) K dX0_unlikeDay_22 (by decide) (fun c5 => ?_) (fun c5 => ?_)
        · replace h := bn c5 h
          refine g_iinc (lv' := [(2, .int (x2 + 1)), (0, .ref (X.ad b0)), (1, .int x1), (3, .int x3)]) K 2 dX0_unlikeDay_37 rfl (by rw [ic_1]) (by decide) rfl ?_
          refine g_iinc (lv' := [(3, .int (x3 + 1)), (2, .int (x2 + 1)), (0, .ref (X.ad b0)), (1, .int x1)]) K 3 dX0_unlikeDay_40 rfl (by rw [ic_1]) (by decide) rfl ?_
          refine g_goto (tgt := 4) K dX0_unlikeDay_43 (by decide) ?_
          refine g_sub [2, 3, 1, 0] rfl ?_
          exact ih _ _ _ h hret hexit
        · replace h := bp c5 h
          refine g_aload_n K 0 dX0_unlikeDay_25 rfl rfl ?_
          refine g_get (v := .ref (X.ad (b0 + 1))) K (e_Book (bk_k0 hb0)) (bk_l0 hb0) rfl 0 (by decide) rfl fw_X0_11 u_X0 dX0_unlikeDay_26 ?_
          refine g_aload_n K 0 dX0_unlikeDay_29 rfl rfl ?_
          refine g_get (v := .ref (X.ad (b0 + 7))) K (e_Book (bk_k0 hb0)) (bk_l0 hb0) rfl 6 (by decide) rfl fw_X0_30 u_X0 dX0_unlikeDay_30 ?_
          refine g_iload_n K 3 dX0_unlikeDay_33 rfl rfl ?_
          obtain ⟨g6, h⟩ := og h
          refine g_iald K (bk_k7 hb0) (bk_l7 hb0) g6 dX0_unlikeDay_34 ?_
          obtain ⟨g7, h⟩ := og h
          refine g_iald K (bk_k1 hb0) (bk_l1 hb0) g7 dX0_unlikeDay_35 ?_
          exact hr _ _ _ _ dX0_unlikeDay_36 (hret _ (Option.some.inj h).symm)
def f_X0_unlikeDay (b0 : Nat) (x1 : Int32) (σ : Sg) : Option Int32 :=
  Option.bind (L_X0_unlikeDay_4 b0 x1 σ FU 0 0) (fun o1 => Sum.elim (fun x => some x) (fun o1 =>
  some (-6)) o1)
set_option maxRecDepth 20000 in
set_option maxHeartbeats 4000000 in
theorem w_X0_unlikeDay {X : Ctx} (K : Cok X cX0_unlikeDay 4 RX0) (hR : 1 ≤ X.R.frames ∧ 21 ≤ X.R.locals) {b0 : Nat} {x1 : Int32} {σ : Sg} (hb0 : isBook b0) {r : Int32} (h : f_X0_unlikeDay b0 x1 σ = some r) (hr : RI X cX0_unlikeDay 4 (r, σ)) : G X 4 0 [(0, .ref (X.ad b0)), (1, .int x1)] [] σ := by
  unfold f_X0_unlikeDay at h
  refine g_iconst (v := 0) K dX0_unlikeDay_0 ic_0 ?_
  refine g_istore_n (lv' := [(2, .int 0), (0, .ref (X.ad b0)), (1, .int x1)]) K dX0_unlikeDay_1 rfl (by decide) rfl ?_
  refine g_iconst (v := 0) K dX0_unlikeDay_2 ic_0 ?_
  refine g_istore_n (lv' := [(3, .int 0), (2, .int 0), (0, .ref (X.ad b0)), (1, .int x1)]) K dX0_unlikeDay_3 rfl (by decide) rfl ?_
  obtain ⟨o1, e2, h⟩ := ob h
  refine g_sub [2, 3, 1, 0] rfl ?_
  refine l_X0_unlikeDay_4 K hR hr hb0 _ _ _ _ e2 (fun x hx => ?_) (fun o1 hx => ?_)
  · subst hx
    exact rt1 h
  · subst hx
    dsimp only [Sum.elim_inr] at h
    refine g_bipush (v := (-6)) K dX0_unlikeDay_46 bp_m6 ?_
    exact hr _ _ _ _ dX0_unlikeDay_48 (rt1 h)
theorem m_X0_unlikeDay {b0 : Nat} {x1 : Int32} {σ : Sg} (hb0 : isBook b0) {r : Int32} (h : f_X0_unlikeDay b0 x1 σ = some r) : CI yX0_unlikeDay cX0_unlikeDay 4 (some .int) 1 21 (fun ad => [.ref (ad b0), .int x1]) σ r σ :=
  CI.of (by decide) (fun _ => Nat.le_of_ble_eq_true rfl) (fun X K hR hr => w_X0_unlikeDay K hR hb0 h hr)
