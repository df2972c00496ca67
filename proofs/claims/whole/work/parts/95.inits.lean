/-! THE CONSTRUCTORS -/
theorem yn_X0 : yN yX0_init cX0_init := ⟨mem_tb 24 (by decide +kernel) (by decide +kernel), mem_tb 2 (by decide +kernel) (by decide +kernel), by decide +kernel, mem_tb 23 (by decide +kernel) (by decide +kernel), rfl⟩
theorem in_X0 : Cond.instantiable RX0 12 ∈ wsAll := mem_tb 21 (by decide +kernel) (by decide +kernel)
theorem iz_X0 : Cond.initialized RX0 ∈ wsAll := mem_tb 2 (by decide +kernel) (by decide +kernel)
theorem ol_X0 : Cond.methodLink RX0 3 Lib.objectInit ∈ wsAll := mem_tb 25 (by decide +kernel) (by decide +kernel)
theorem yn_X2 : yN yX2_init cX2_init := ⟨mem_tb 90 (by decide +kernel) (by decide +kernel), mem_tb 3 (by decide +kernel) (by decide +kernel), by decide +kernel, mem_tb 89 (by decide +kernel) (by decide +kernel), rfl⟩
theorem in_X2 : Cond.instantiable RX2 3 ∈ wsAll := mem_tb 87 (by decide +kernel) (by decide +kernel)
theorem iz_X2 : Cond.initialized RX2 ∈ wsAll := mem_tb 3 (by decide +kernel) (by decide +kernel)
theorem ol_X2 : Cond.methodLink RX2 3 Lib.objectInit ∈ wsAll := mem_tb 91 (by decide +kernel) (by decide +kernel)
theorem yn_X1 : yN yX1_init cX1_init := ⟨mem_tb 113 (by decide +kernel) (by decide +kernel), mem_tb 4 (by decide +kernel) (by decide +kernel), by decide +kernel, mem_tb 112 (by decide +kernel) (by decide +kernel), rfl⟩
theorem in_X1 : Cond.instantiable RX1 3 ∈ wsAll := mem_tb 110 (by decide +kernel) (by decide +kernel)
theorem iz_X1 : Cond.initialized RX1 ∈ wsAll := mem_tb 4 (by decide +kernel) (by decide +kernel)
theorem ol_X1 : Cond.methodLink RX1 3 Lib.objectInit ∈ wsAll := mem_tb 114 (by decide +kernel) (by decide +kernel)
theorem yn_X4 : yN yX4_init cX4_init := ⟨mem_tb 133 (by decide +kernel) (by decide +kernel), mem_tb 5 (by decide +kernel) (by decide +kernel), by decide +kernel, mem_tb 132 (by decide +kernel) (by decide +kernel), rfl⟩
theorem in_X4 : Cond.instantiable RX4 2 ∈ wsAll := mem_tb 130 (by decide +kernel) (by decide +kernel)
theorem iz_X4 : Cond.initialized RX4 ∈ wsAll := mem_tb 5 (by decide +kernel) (by decide +kernel)
theorem ol_X4 : Cond.methodLink RX4 3 Lib.objectInit ∈ wsAll := mem_tb 134 (by decide +kernel) (by decide +kernel)
theorem yn_X3 : yN yX3_init cX3_init := ⟨mem_tb 150 (by decide +kernel) (by decide +kernel), mem_tb 6 (by decide +kernel) (by decide +kernel), by decide +kernel, mem_tb 149 (by decide +kernel) (by decide +kernel), rfl⟩
theorem in_X3 : Cond.instantiable RX3 1 ∈ wsAll := mem_tb 147 (by decide +kernel) (by decide +kernel)
theorem iz_X3 : Cond.initialized RX3 ∈ wsAll := mem_tb 6 (by decide +kernel) (by decide +kernel)
theorem ol_X3 : Cond.methodLink RX3 3 Lib.objectInit ∈ wsAll := mem_tb 151 (by decide +kernel) (by decide +kernel)
theorem yn_X5 : yN yX5_init cX5_init := ⟨mem_tb 160 (by decide +kernel) (by decide +kernel), mem_tb 7 (by decide +kernel) (by decide +kernel), by decide +kernel, mem_tb 159 (by decide +kernel) (by decide +kernel), rfl⟩
theorem in_X5 : Cond.instantiable RX5 5 ∈ wsAll := mem_tb 157 (by decide +kernel) (by decide +kernel)
theorem iz_X5 : Cond.initialized RX5 ∈ wsAll := mem_tb 7 (by decide +kernel) (by decide +kernel)
theorem ol_X5 : Cond.methodLink RX5 3 Lib.objectInit ∈ wsAll := mem_tb 161 (by decide +kernel) (by decide +kernel)
theorem yn_X6 : yN yX6_init cX6_init := ⟨mem_tb 16 (by decide +kernel) (by decide +kernel), mem_tb 1 (by decide +kernel) (by decide +kernel), by decide +kernel, mem_tb 15 (by decide +kernel) (by decide +kernel), rfl⟩
theorem in_X6 : Cond.instantiable RX6 13 ∈ wsAll := mem_tb 13 (by decide +kernel) (by decide +kernel)
theorem iz_X6 : Cond.initialized RX6 ∈ wsAll := mem_tb 1 (by decide +kernel) (by decide +kernel)
theorem ol_X6 : Cond.methodLink RX6 3 Lib.objectInit ∈ wsAll := mem_tb 17 (by decide +kernel) (by decide +kernel)
theorem yn_X7 : yN yX7_init cX7_init := ⟨mem_tb 615 (by decide +kernel) (by decide +kernel), mem_tb 8 (by decide +kernel) (by decide +kernel), by decide +kernel, mem_tb 614 (by decide +kernel) (by decide +kernel), rfl⟩
theorem in_X7 : Cond.instantiable RX7 25 ∈ wsAll := mem_tb 612 (by decide +kernel) (by decide +kernel)
theorem iz_X7 : Cond.initialized RX7 ∈ wsAll := mem_tb 8 (by decide +kernel) (by decide +kernel)
theorem ol_X7 : Cond.methodLink RX7 1 Lib.objectInit ∈ wsAll := mem_tb 616 (by decide +kernel) (by decide +kernel)
theorem cl_L_7 : Cond.classLink RL 7 RX6 ∈ wsAll := mem_tb 12 (by decide +kernel) (by decide +kernel)
theorem cl_L_10 : Cond.classLink RL 10 RX7 ∈ wsAll := mem_tb 611 (by decide +kernel) (by decide +kernel)
theorem cl_X1_15 : Cond.classLink RX1 15 "[[I" ∈ wsAll := mem_tb 115 (by decide +kernel) (by decide +kernel)
theorem cl_X2_9 : Cond.classLink RX2 9 "[[I" ∈ wsAll := mem_tb 92 (by decide +kernel) (by decide +kernel)
theorem cl_X4_11 : Cond.classLink RX4 11 "[[J" ∈ wsAll := mem_tb 135 (by decide +kernel) (by decide +kernel)
theorem cl_X5_15 : Cond.classLink RX5 15 "[[I" ∈ wsAll := mem_tb 162 (by decide +kernel) (by decide +kernel)
theorem cl_X6_9 : Cond.classLink RX6 9 RX0 ∈ wsAll := mem_tb 20 (by decide +kernel) (by decide +kernel)
theorem cl_X6_22 : Cond.classLink RX6 22 RX2 ∈ wsAll := mem_tb 86 (by decide +kernel) (by decide +kernel)
theorem cl_X6_29 : Cond.classLink RX6 29 RX1 ∈ wsAll := mem_tb 109 (by decide +kernel) (by decide +kernel)
theorem cl_X6_36 : Cond.classLink RX6 36 RX4 ∈ wsAll := mem_tb 129 (by decide +kernel) (by decide +kernel)
theorem cl_X6_43 : Cond.classLink RX6 43 RX3 ∈ wsAll := mem_tb 146 (by decide +kernel) (by decide +kernel)
theorem cl_X6_50 : Cond.classLink RX6 50 RX5 ∈ wsAll := mem_tb 156 (by decide +kernel) (by decide +kernel)
theorem nt_X0 : (RX6, 11, yX0_init) ∈ nests := List.mem_of_getElem? (i := 0) rfl
theorem nt_X2 : (RX6, 24, yX2_init) ∈ nests := List.mem_of_getElem? (i := 1) rfl
theorem nt_X1 : (RX6, 31, yX1_init) ∈ nests := List.mem_of_getElem? (i := 2) rfl
theorem nt_X4 : (RX6, 38, yX4_init) ∈ nests := List.mem_of_getElem? (i := 3) rfl
theorem nt_X3 : (RX6, 45, yX3_init) ∈ nests := List.mem_of_getElem? (i := 4) rfl
theorem nt_X5 : (RX6, 52, yX5_init) ∈ nests := List.mem_of_getElem? (i := 5) rfl
theorem df_X0 : ∀ j, j < 12 → defaultValue (tyX0 j) = vp_V [.null, .null, .null, .null, .null, .null, .null, .int 0, .int 0, .int 0, .int 0, .int 0] j := fun j hj => by
  rcases (show j = 0 ∨ j = 1 ∨ j = 2 ∨ j = 3 ∨ j = 4 ∨ j = 5 ∨ j = 6 ∨ j = 7 ∨ j = 8 ∨ j = 9 ∨ j = 10 ∨ j = 11 by omega) with rfl | rfl | rfl | rfl | rfl | rfl | rfl | rfl | rfl | rfl | rfl | rfl <;> rfl
theorem df_X2 : ∀ j, j < 3 → defaultValue (tyX2 j) = vp_V [.null, .null, .null] j := fun j hj => by
  rcases (show j = 0 ∨ j = 1 ∨ j = 2 by omega) with rfl | rfl | rfl <;> rfl
theorem df_X1 : ∀ j, j < 3 → defaultValue (tyX1 j) = vp_V [.null, .null, .null] j := fun j hj => by
  rcases (show j = 0 ∨ j = 1 ∨ j = 2 by omega) with rfl | rfl | rfl <;> rfl
theorem df_X4 : ∀ j, j < 2 → defaultValue (tyX4 j) = vp_V [.int 0, .null] j := fun j hj => by
  rcases (show j = 0 ∨ j = 1 by omega) with rfl | rfl <;> rfl
theorem df_X3 : ∀ j, j < 1 → defaultValue (tyX3 j) = vp_V [.null] j := fun j hj => by
  rcases (show j = 0 by omega) with rfl <;> rfl
theorem df_X5 : ∀ j, j < 5 → defaultValue (tyX5 j) = vp_V [.null, .null, .int 0, .null, .int 0] j := fun j hj => by
  rcases (show j = 0 ∨ j = 1 ∨ j = 2 ∨ j = 3 ∨ j = 4 by omega) with rfl | rfl | rfl | rfl | rfl <;> rfl
theorem df_X6 : ∀ j, j < 13 → defaultValue (tyX6 j) = vp_V [.null, .null, .null, .int 0, .null, .null, .null, .null, .int 0, .null, .int 0, .null, .null] j := fun j hj => by
  rcases (show j = 0 ∨ j = 1 ∨ j = 2 ∨ j = 3 ∨ j = 4 ∨ j = 5 ∨ j = 6 ∨ j = 7 ∨ j = 8 ∨ j = 9 ∨ j = 10 ∨ j = 11 ∨ j = 12 by omega) with rfl | rfl | rfl | rfl | rfl | rfl | rfl | rfl | rfl | rfl | rfl | rfl | rfl <;> rfl
theorem df_X7 : ∀ j, j < 25 → defaultValue (tyX7 j) = vp_V [.null, .null, .null, .null, .null, .null, .int 0, .int 0, .null, .null, .null, .null, .null, .null, .int 0, .null, .int 0, .int 0, .int 0, .int 0, .null, .null, .null, .null, .null] j := fun j hj => by
  rcases (show j = 0 ∨ j = 1 ∨ j = 2 ∨ j = 3 ∨ j = 4 ∨ j = 5 ∨ j = 6 ∨ j = 7 ∨ j = 8 ∨ j = 9 ∨ j = 10 ∨ j = 11 ∨ j = 12 ∨ j = 13 ∨ j = 14 ∨ j = 15 ∨ j = 16 ∨ j = 17 ∨ j = 18 ∨ j = 19 ∨ j = 20 ∨ j = 21 ∨ j = 22 ∨ j = 23 ∨ j = 24 by omega) with rfl | rfl | rfl | rfl | rfl | rfl | rfl | rfl | rfl | rfl | rfl | rfl | rfl | rfl | rfl | rfl | rfl | rfl | rfl | rfl | rfl | rfl | rfl | rfl | rfl <;> rfl
def outX0 : outT := fun ca u => (((u 0 0), .inr (0, [.ref (u 0 1), .ref (u 0 2), .ref (u 0 3), .ref (u 0 4), .ref (u 0 5), .ref (u 0 6), .ref (u 0 7), .int 0, .int 0, .int 50, .int 30, .int 25])) :: (((((([((u 0 1), zI (ca 0) 41)] ++ [((u 0 2), zI (ca 0) 41)]) ++ [((u 0 3), zI (ca 0) 41)]) ++ [((u 0 4), zI (ca 0) 41)]) ++ [((u 0 5), zI (ca 0) 41)]) ++ [((u 0 6), zI (ca 0) 41)]) ++ [((u 0 7), zI (ca 0) 41)]))
set_option maxRecDepth 20000 in
set_option maxHeartbeats 4000000 in
theorem c_X0_init : NI yX0_init cX0_init 0 [.null, .null, .null, .null, .null, .null, .null, .int 0, .int 0, .int 0, .int 0, .int 0] outX0 1 12 7 287 := by
  refine NI.of (by decide) rfl (fun X A h0 K hin hR hret => ?_)
  refine i_aload K 0 dX0_init_0 rfl rfl ?_
  refine i_obj K ol_X0 dX0_init_1 (by rw [hR.1]; decide) (by rw [hR.2.1]; decide) ?_
  refine i_aload K 0 dX0_init_4 rfl rfl ?_
  refine i_bipush (v := 41) K dX0_init_5 (by decide) ?_
  refine i_newI (N := 41) K (by decide) (by decide) (by decide) (by rw [hR.2.2.1]; decide) (by rw [hR.2.2.2]; decide) dX0_init_7 (fun q1 => ?_)
  show WI X A 1 41 1 9 _ [.ref q1, .ref h0] ((h0, .inr (0, [.null, .null, .null, .null, .null, .null, .null, .int 0, .int 0, .int 0, .int 0, .int 0])) :: [(q1, zI (X.ca 0) 41)])
  refine i_putF K hin (ci := 0) rfl 0 (by decide) u_X0 tyX0 tyX0_ok nmX0 fw_X0_11 rfl rfl (ty := (.array .int)) (by decide +kernel) rfl rfl (Nat.le_of_ble_eq_true rfl) dX0_init_9 ?_
  show WI X A 1 41 1 12 _ [] ((h0, .inr (0, [.ref q1, .null, .null, .null, .null, .null, .null, .int 0, .int 0, .int 0, .int 0, .int 0])) :: [(q1, zI (X.ca 0) 41)])
  refine i_aload K 0 dX0_init_12 rfl rfl ?_
  refine i_bipush (v := 41) K dX0_init_13 (by decide) ?_
  refine i_newI (N := 41) K (by decide) (by decide) (by decide) (by rw [hR.2.2.1]; decide) (by rw [hR.2.2.2]; decide) dX0_init_15 (fun q2 => ?_)
  show WI X A 2 82 1 17 _ [.ref q2, .ref h0] ((h0, .inr (0, [.ref q1, .null, .null, .null, .null, .null, .null, .int 0, .int 0, .int 0, .int 0, .int 0])) :: ([(q1, zI (X.ca 0) 41)] ++ [(q2, zI (X.ca 0) 41)]))
  refine i_putF K hin (ci := 0) rfl 1 (by decide) u_X0 tyX0 tyX0_ok nmX0 fw_X0_15 rfl rfl (ty := (.array .int)) (by decide +kernel) rfl rfl (Nat.le_of_ble_eq_true rfl) dX0_init_17 ?_
  show WI X A 2 82 1 20 _ [] ((h0, .inr (0, [.ref q1, .ref q2, .null, .null, .null, .null, .null, .int 0, .int 0, .int 0, .int 0, .int 0])) :: ([(q1, zI (X.ca 0) 41)] ++ [(q2, zI (X.ca 0) 41)]))
  refine i_aload K 0 dX0_init_20 rfl rfl ?_
  refine i_bipush (v := 41) K dX0_init_21 (by decide) ?_
  refine i_newI (N := 41) K (by decide) (by decide) (by decide) (by rw [hR.2.2.1]; decide) (by rw [hR.2.2.2]; decide) dX0_init_23 (fun q3 => ?_)
  show WI X A 3 123 1 25 _ [.ref q3, .ref h0] ((h0, .inr (0, [.ref q1, .ref q2, .null, .null, .null, .null, .null, .int 0, .int 0, .int 0, .int 0, .int 0])) :: (([(q1, zI (X.ca 0) 41)] ++ [(q2, zI (X.ca 0) 41)]) ++ [(q3, zI (X.ca 0) 41)]))
  refine i_putF K hin (ci := 0) rfl 2 (by decide) u_X0 tyX0 tyX0_ok nmX0 fw_X0_18 rfl rfl (ty := (.array .int)) (by decide +kernel) rfl rfl (Nat.le_of_ble_eq_true rfl) dX0_init_25 ?_
  show WI X A 3 123 1 28 _ [] ((h0, .inr (0, [.ref q1, .ref q2, .ref q3, .null, .null, .null, .null, .int 0, .int 0, .int 0, .int 0, .int 0])) :: (([(q1, zI (X.ca 0) 41)] ++ [(q2, zI (X.ca 0) 41)]) ++ [(q3, zI (X.ca 0) 41)]))
  refine i_aload K 0 dX0_init_28 rfl rfl ?_
  refine i_bipush (v := 41) K dX0_init_29 (by decide) ?_
  refine i_newI (N := 41) K (by decide) (by decide) (by decide) (by rw [hR.2.2.1]; decide) (by rw [hR.2.2.2]; decide) dX0_init_31 (fun q4 => ?_)
  show WI X A 4 164 1 33 _ [.ref q4, .ref h0] ((h0, .inr (0, [.ref q1, .ref q2, .ref q3, .null, .null, .null, .null, .int 0, .int 0, .int 0, .int 0, .int 0])) :: ((([(q1, zI (X.ca 0) 41)] ++ [(q2, zI (X.ca 0) 41)]) ++ [(q3, zI (X.ca 0) 41)]) ++ [(q4, zI (X.ca 0) 41)]))
  refine i_putF K hin (ci := 0) rfl 3 (by decide) u_X0 tyX0 tyX0_ok nmX0 fw_X0_21 rfl rfl (ty := (.array .int)) (by decide +kernel) rfl rfl (Nat.le_of_ble_eq_true rfl) dX0_init_33 ?_
  show WI X A 4 164 1 36 _ [] ((h0, .inr (0, [.ref q1, .ref q2, .ref q3, .ref q4, .null, .null, .null, .int 0, .int 0, .int 0, .int 0, .int 0])) :: ((([(q1, zI (X.ca 0) 41)] ++ [(q2, zI (X.ca 0) 41)]) ++ [(q3, zI (X.ca 0) 41)]) ++ [(q4, zI (X.ca 0) 41)]))
  refine i_aload K 0 dX0_init_36 rfl rfl ?_
  refine i_bipush (v := 41) K dX0_init_37 (by decide) ?_
  refine i_newI (N := 41) K (by decide) (by decide) (by decide) (by rw [hR.2.2.1]; decide) (by rw [hR.2.2.2]; decide) dX0_init_39 (fun q5 => ?_)
  show WI X A 5 205 1 41 _ [.ref q5, .ref h0] ((h0, .inr (0, [.ref q1, .ref q2, .ref q3, .ref q4, .null, .null, .null, .int 0, .int 0, .int 0, .int 0, .int 0])) :: (((([(q1, zI (X.ca 0) 41)] ++ [(q2, zI (X.ca 0) 41)]) ++ [(q3, zI (X.ca 0) 41)]) ++ [(q4, zI (X.ca 0) 41)]) ++ [(q5, zI (X.ca 0) 41)]))
  refine i_putF K hin (ci := 0) rfl 4 (by decide) u_X0 tyX0 tyX0_ok nmX0 fw_X0_24 rfl rfl (ty := (.array .int)) (by decide +kernel) rfl rfl (Nat.le_of_ble_eq_true rfl) dX0_init_41 ?_
  show WI X A 5 205 1 44 _ [] ((h0, .inr (0, [.ref q1, .ref q2, .ref q3, .ref q4, .ref q5, .null, .null, .int 0, .int 0, .int 0, .int 0, .int 0])) :: (((([(q1, zI (X.ca 0) 41)] ++ [(q2, zI (X.ca 0) 41)]) ++ [(q3, zI (X.ca 0) 41)]) ++ [(q4, zI (X.ca 0) 41)]) ++ [(q5, zI (X.ca 0) 41)]))
  refine i_aload K 0 dX0_init_44 rfl rfl ?_
  refine i_bipush (v := 41) K dX0_init_45 (by decide) ?_
  refine i_newI (N := 41) K (by decide) (by decide) (by decide) (by rw [hR.2.2.1]; decide) (by rw [hR.2.2.2]; decide) dX0_init_47 (fun q6 => ?_)
  show WI X A 6 246 1 49 _ [.ref q6, .ref h0] ((h0, .inr (0, [.ref q1, .ref q2, .ref q3, .ref q4, .ref q5, .null, .null, .int 0, .int 0, .int 0, .int 0, .int 0])) :: ((((([(q1, zI (X.ca 0) 41)] ++ [(q2, zI (X.ca 0) 41)]) ++ [(q3, zI (X.ca 0) 41)]) ++ [(q4, zI (X.ca 0) 41)]) ++ [(q5, zI (X.ca 0) 41)]) ++ [(q6, zI (X.ca 0) 41)]))
  refine i_putF K hin (ci := 0) rfl 5 (by decide) u_X0 tyX0 tyX0_ok nmX0 fw_X0_27 rfl rfl (ty := (.array .int)) (by decide +kernel) rfl rfl (Nat.le_of_ble_eq_true rfl) dX0_init_49 ?_
  show WI X A 6 246 1 52 _ [] ((h0, .inr (0, [.ref q1, .ref q2, .ref q3, .ref q4, .ref q5, .ref q6, .null, .int 0, .int 0, .int 0, .int 0, .int 0])) :: ((((([(q1, zI (X.ca 0) 41)] ++ [(q2, zI (X.ca 0) 41)]) ++ [(q3, zI (X.ca 0) 41)]) ++ [(q4, zI (X.ca 0) 41)]) ++ [(q5, zI (X.ca 0) 41)]) ++ [(q6, zI (X.ca 0) 41)]))
  refine i_aload K 0 dX0_init_52 rfl rfl ?_
  refine i_bipush (v := 41) K dX0_init_53 (by decide) ?_
  refine i_newI (N := 41) K (by decide) (by decide) (by decide) (by rw [hR.2.2.1]; decide) (by rw [hR.2.2.2]; decide) dX0_init_55 (fun q7 => ?_)
  show WI X A 7 287 1 57 _ [.ref q7, .ref h0] ((h0, .inr (0, [.ref q1, .ref q2, .ref q3, .ref q4, .ref q5, .ref q6, .null, .int 0, .int 0, .int 0, .int 0, .int 0])) :: (((((([(q1, zI (X.ca 0) 41)] ++ [(q2, zI (X.ca 0) 41)]) ++ [(q3, zI (X.ca 0) 41)]) ++ [(q4, zI (X.ca 0) 41)]) ++ [(q5, zI (X.ca 0) 41)]) ++ [(q6, zI (X.ca 0) 41)]) ++ [(q7, zI (X.ca 0) 41)]))
  refine i_putF K hin (ci := 0) rfl 6 (by decide) u_X0 tyX0 tyX0_ok nmX0 fw_X0_30 rfl rfl (ty := (.array .int)) (by decide +kernel) rfl rfl (Nat.le_of_ble_eq_true rfl) dX0_init_57 ?_
  show WI X A 7 287 1 60 _ [] ((h0, .inr (0, [.ref q1, .ref q2, .ref q3, .ref q4, .ref q5, .ref q6, .ref q7, .int 0, .int 0, .int 0, .int 0, .int 0])) :: (((((([(q1, zI (X.ca 0) 41)] ++ [(q2, zI (X.ca 0) 41)]) ++ [(q3, zI (X.ca 0) 41)]) ++ [(q4, zI (X.ca 0) 41)]) ++ [(q5, zI (X.ca 0) 41)]) ++ [(q6, zI (X.ca 0) 41)]) ++ [(q7, zI (X.ca 0) 41)]))
  refine i_aload K 0 dX0_init_60 rfl rfl ?_
  refine i_bipush (v := 50) K dX0_init_61 (by decide) ?_
  refine i_put K (ci := 0) rfl 9 (by decide) u_X0 tyX0 tyX0_ok nmX0 fw_X0_33 rfl (ty := .int) (by decide +kernel) rfl rfl (Nat.le_of_ble_eq_true rfl) dX0_init_63 ?_
  show WI X A 7 287 1 66 _ [] ((h0, .inr (0, [.ref q1, .ref q2, .ref q3, .ref q4, .ref q5, .ref q6, .ref q7, .int 0, .int 0, .int 50, .int 0, .int 0])) :: (((((([(q1, zI (X.ca 0) 41)] ++ [(q2, zI (X.ca 0) 41)]) ++ [(q3, zI (X.ca 0) 41)]) ++ [(q4, zI (X.ca 0) 41)]) ++ [(q5, zI (X.ca 0) 41)]) ++ [(q6, zI (X.ca 0) 41)]) ++ [(q7, zI (X.ca 0) 41)]))
  refine i_aload K 0 dX0_init_66 rfl rfl ?_
  refine i_bipush (v := 30) K dX0_init_67 (by decide) ?_
  refine i_put K (ci := 0) rfl 10 (by decide) u_X0 tyX0 tyX0_ok nmX0 fw_X0_37 rfl (ty := .int) (by decide +kernel) rfl rfl (Nat.le_of_ble_eq_true rfl) dX0_init_69 ?_
  show WI X A 7 287 1 72 _ [] ((h0, .inr (0, [.ref q1, .ref q2, .ref q3, .ref q4, .ref q5, .ref q6, .ref q7, .int 0, .int 0, .int 50, .int 30, .int 0])) :: (((((([(q1, zI (X.ca 0) 41)] ++ [(q2, zI (X.ca 0) 41)]) ++ [(q3, zI (X.ca 0) 41)]) ++ [(q4, zI (X.ca 0) 41)]) ++ [(q5, zI (X.ca 0) 41)]) ++ [(q6, zI (X.ca 0) 41)]) ++ [(q7, zI (X.ca 0) 41)]))
  refine i_aload K 0 dX0_init_72 rfl rfl ?_
  refine i_bipush (v := 25) K dX0_init_73 (by decide) ?_
  refine i_put K (ci := 0) rfl 11 (by decide) u_X0 tyX0 tyX0_ok nmX0 fw_X0_40 rfl (ty := .int) (by decide +kernel) rfl rfl (Nat.le_of_ble_eq_true rfl) dX0_init_75 ?_
  show WI X A 7 287 1 78 _ [] ((h0, .inr (0, [.ref q1, .ref q2, .ref q3, .ref q4, .ref q5, .ref q6, .ref q7, .int 0, .int 0, .int 50, .int 30, .int 25])) :: (((((([(q1, zI (X.ca 0) 41)] ++ [(q2, zI (X.ca 0) 41)]) ++ [(q3, zI (X.ca 0) 41)]) ++ [(q4, zI (X.ca 0) 41)]) ++ [(q5, zI (X.ca 0) 41)]) ++ [(q6, zI (X.ca 0) 41)]) ++ [(q7, zI (X.ca 0) 41)]))
  exact hret 78 _ _ _ _ (fun _ b => [h0, q1, q2, q3, q4, q5, q6, q7].getD b 0) dX0_init_78 rfl rfl rfl rfl
def outX2 : outT := fun ca u => (((u 0 0), .inr (2, [.ref (u 0 1), .ref (u 0 2), .ref (u 0 3)])) :: (((((u 0 1), zA (ca 3) 5 (u 0 1)) :: rwI (ca 0) 5 10 (u 0 1)) ++ (((u 0 2), zA (ca 3) 5 (u 0 2)) :: rwI (ca 0) 5 10 (u 0 2))) ++ [((u 0 3), zI (ca 0) 5)]))
set_option maxRecDepth 20000 in
set_option maxHeartbeats 4000000 in
theorem c_X2_init : NI yX2_init cX2_init 2 [.null, .null, .null] outX2 1 12 13 115 := by
  refine NI.of (by decide) rfl (fun X A h0 K hin hR hret => ?_)
  refine i_aload K 0 dX2_init_0 rfl rfl ?_
  refine i_obj K ol_X2 dX2_init_1 (by rw [hR.1]; decide) (by rw [hR.2.1]; decide) ?_
  refine i_aload K 0 dX2_init_4 rfl rfl ?_
  refine i_iconst (v := 5) K dX2_init_5 (by decide) ?_
  refine i_bipush (v := 10) K dX2_init_6 (by decide) ?_
  refine i_mulI (N := 5) (M := 10) K cl_X2_9 dX2_init_8 (by decide) (by decide) (by decide) (by decide) (by decide) (by decide) (by rw [hR.2.2.1]; decide) (by rw [hR.2.2.2]; decide) (fun q1 => ?_)
  show WI X A 6 55 1 12 _ [.ref q1, .ref h0] ((h0, .inr (2, [.null, .null, .null])) :: ((q1, zA (X.ca 3) 5 q1) :: rwI (X.ca 0) 5 10 q1))
  refine i_putF K hin (ci := 2) rfl 0 (by decide) u_X2 tyX2 tyX2_ok nmX2 fw_X2_11 rfl rfl (ty := (.array (.array .int))) (by decide +kernel) rfl rfl (Nat.le_of_ble_eq_true rfl) dX2_init_12 ?_
  show WI X A 6 55 1 15 _ [] ((h0, .inr (2, [.ref q1, .null, .null])) :: ((q1, zA (X.ca 3) 5 q1) :: rwI (X.ca 0) 5 10 q1))
  refine i_aload K 0 dX2_init_15 rfl rfl ?_
  refine i_iconst (v := 5) K dX2_init_16 (by decide) ?_
  refine i_bipush (v := 10) K dX2_init_17 (by decide) ?_
  refine i_mulI (N := 5) (M := 10) K cl_X2_9 dX2_init_19 (by decide) (by decide) (by decide) (by decide) (by decide) (by decide) (by rw [hR.2.2.1]; decide) (by rw [hR.2.2.2]; decide) (fun q2 => ?_)
  show WI X A 12 110 1 23 _ [.ref q2, .ref h0] ((h0, .inr (2, [.ref q1, .null, .null])) :: (((q1, zA (X.ca 3) 5 q1) :: rwI (X.ca 0) 5 10 q1) ++ ((q2, zA (X.ca 3) 5 q2) :: rwI (X.ca 0) 5 10 q2)))
  refine i_putF K hin (ci := 2) rfl 1 (by decide) u_X2 tyX2 tyX2_ok nmX2 fw_X2_16 rfl rfl (ty := (.array (.array .int))) (by decide +kernel) rfl rfl (Nat.le_of_ble_eq_true rfl) dX2_init_23 ?_
  show WI X A 12 110 1 26 _ [] ((h0, .inr (2, [.ref q1, .ref q2, .null])) :: (((q1, zA (X.ca 3) 5 q1) :: rwI (X.ca 0) 5 10 q1) ++ ((q2, zA (X.ca 3) 5 q2) :: rwI (X.ca 0) 5 10 q2)))
  refine i_aload K 0 dX2_init_26 rfl rfl ?_
  refine i_iconst (v := 5) K dX2_init_27 (by decide) ?_
  refine i_newI (N := 5) K (by decide) (by decide) (by decide) (by rw [hR.2.2.1]; decide) (by rw [hR.2.2.2]; decide) dX2_init_28 (fun q3 => ?_)
  show WI X A 13 115 1 30 _ [.ref q3, .ref h0] ((h0, .inr (2, [.ref q1, .ref q2, .null])) :: ((((q1, zA (X.ca 3) 5 q1) :: rwI (X.ca 0) 5 10 q1) ++ ((q2, zA (X.ca 3) 5 q2) :: rwI (X.ca 0) 5 10 q2)) ++ [(q3, zI (X.ca 0) 5)]))
  refine i_putF K hin (ci := 2) rfl 2 (by decide) u_X2 tyX2 tyX2_ok nmX2 fw_X2_19 rfl rfl (ty := (.array .int)) (by decide +kernel) rfl rfl (Nat.le_of_ble_eq_true rfl) dX2_init_30 ?_
  show WI X A 13 115 1 33 _ [] ((h0, .inr (2, [.ref q1, .ref q2, .ref q3])) :: ((((q1, zA (X.ca 3) 5 q1) :: rwI (X.ca 0) 5 10 q1) ++ ((q2, zA (X.ca 3) 5 q2) :: rwI (X.ca 0) 5 10 q2)) ++ [(q3, zI (X.ca 0) 5)]))
  exact hret 33 _ _ _ _ (fun _ b => [h0, q1, q2, q3].getD b 0) dX2_init_33 rfl rfl rfl rfl
def outX1 : outT := fun ca u => (((u 0 0), .inr (1, [.ref (u 0 1), .ref (u 0 2), .ref (u 0 3)])) :: (([((u 0 1), zI (ca 0) 9)] ++ (((u 0 2), zA (ca 3) 9 (u 0 2)) :: rwI (ca 0) 9 5 (u 0 2))) ++ [((u 0 3), zI (ca 0) 9)]))
set_option maxRecDepth 20000 in
set_option maxHeartbeats 4000000 in
theorem c_X1_init : NI yX1_init cX1_init 1 [.null, .null, .null] outX1 1 12 12 72 := by
  refine NI.of (by decide) rfl (fun X A h0 K hin hR hret => ?_)
  refine i_aload K 0 dX1_init_0 rfl rfl ?_
  refine i_obj K ol_X1 dX1_init_1 (by rw [hR.1]; decide) (by rw [hR.2.1]; decide) ?_
  refine i_aload K 0 dX1_init_4 rfl rfl ?_
  refine i_bipush (v := 9) K dX1_init_5 (by decide) ?_
  refine i_newI (N := 9) K (by decide) (by decide) (by decide) (by rw [hR.2.2.1]; decide) (by rw [hR.2.2.2]; decide) dX1_init_7 (fun q1 => ?_)
  show WI X A 1 9 1 9 _ [.ref q1, .ref h0] ((h0, .inr (1, [.null, .null, .null])) :: [(q1, zI (X.ca 0) 9)])
  refine i_putF K hin (ci := 1) rfl 0 (by decide) u_X1 tyX1 tyX1_ok nmX1 fw_X1_9 rfl rfl (ty := (.array .int)) (by decide +kernel) rfl rfl (Nat.le_of_ble_eq_true rfl) dX1_init_9 ?_
  show WI X A 1 9 1 12 _ [] ((h0, .inr (1, [.ref q1, .null, .null])) :: [(q1, zI (X.ca 0) 9)])
  refine i_aload K 0 dX1_init_12 rfl rfl ?_
  refine i_bipush (v := 9) K dX1_init_13 (by decide) ?_
  refine i_iconst (v := 5) K dX1_init_15 (by decide) ?_
  refine i_mulI (N := 9) (M := 5) K cl_X1_15 dX1_init_16 (by decide) (by decide) (by decide) (by decide) (by decide) (by decide) (by rw [hR.2.2.1]; decide) (by rw [hR.2.2.2]; decide) (fun q2 => ?_)
  show WI X A 11 63 1 20 _ [.ref q2, .ref h0] ((h0, .inr (1, [.ref q1, .null, .null])) :: ([(q1, zI (X.ca 0) 9)] ++ ((q2, zA (X.ca 3) 9 q2) :: rwI (X.ca 0) 9 5 q2)))
  refine i_putF K hin (ci := 1) rfl 1 (by decide) u_X1 tyX1 tyX1_ok nmX1 fw_X1_17 rfl rfl (ty := (.array (.array .int))) (by decide +kernel) rfl rfl (Nat.le_of_ble_eq_true rfl) dX1_init_20 ?_
  show WI X A 11 63 1 23 _ [] ((h0, .inr (1, [.ref q1, .ref q2, .null])) :: ([(q1, zI (X.ca 0) 9)] ++ ((q2, zA (X.ca 3) 9 q2) :: rwI (X.ca 0) 9 5 q2)))
  refine i_aload K 0 dX1_init_23 rfl rfl ?_
  refine i_bipush (v := 9) K dX1_init_24 (by decide) ?_
  refine i_newI (N := 9) K (by decide) (by decide) (by decide) (by rw [hR.2.2.1]; decide) (by rw [hR.2.2.2]; decide) dX1_init_26 (fun q3 => ?_)
  show WI X A 12 72 1 28 _ [.ref q3, .ref h0] ((h0, .inr (1, [.ref q1, .ref q2, .null])) :: (([(q1, zI (X.ca 0) 9)] ++ ((q2, zA (X.ca 3) 9 q2) :: rwI (X.ca 0) 9 5 q2)) ++ [(q3, zI (X.ca 0) 9)]))
  refine i_putF K hin (ci := 1) rfl 2 (by decide) u_X1 tyX1 tyX1_ok nmX1 fw_X1_20 rfl rfl (ty := (.array .int)) (by decide +kernel) rfl rfl (Nat.le_of_ble_eq_true rfl) dX1_init_28 ?_
  show WI X A 12 72 1 31 _ [] ((h0, .inr (1, [.ref q1, .ref q2, .ref q3])) :: (([(q1, zI (X.ca 0) 9)] ++ ((q2, zA (X.ca 3) 9 q2) :: rwI (X.ca 0) 9 5 q2)) ++ [(q3, zI (X.ca 0) 9)]))
  exact hret 31 _ _ _ _ (fun _ b => [h0, q1, q2, q3].getD b 0) dX1_init_31 rfl rfl rfl rfl
def outX4 : outT := fun ca u => (((u 0 0), .inr (4, [.int 0, .ref (u 0 1)])) :: (((u 0 1), zA (ca 4) 5 (u 0 1)) :: rwL (ca 1) 5 10 (u 0 1)))
set_option maxRecDepth 20000 in
set_option maxHeartbeats 4000000 in
theorem c_X4_init : NI yX4_init cX4_init 4 [.int 0, .null] outX4 1 12 6 55 := by
  refine NI.of (by decide) rfl (fun X A h0 K hin hR hret => ?_)
  refine i_aload K 0 dX4_init_0 rfl rfl ?_
  refine i_obj K ol_X4 dX4_init_1 (by rw [hR.1]; decide) (by rw [hR.2.1]; decide) ?_
  refine i_aload K 0 dX4_init_4 rfl rfl ?_
  refine i_iconst (v := 5) K dX4_init_5 (by decide) ?_
  refine i_bipush (v := 10) K dX4_init_6 (by decide) ?_
  refine i_mulL (N := 5) (M := 10) K cl_X4_11 dX4_init_8 (by decide) (by decide) (by decide) (by decide) (by decide) (by decide) (by rw [hR.2.2.1]; decide) (by rw [hR.2.2.2]; decide) (fun q1 => ?_)
  show WI X A 6 55 1 12 _ [.ref q1, .ref h0] ((h0, .inr (4, [.int 0, .null])) :: ((q1, zA (X.ca 4) 5 q1) :: rwL (X.ca 1) 5 10 q1))
  refine i_putF K hin (ci := 4) rfl 1 (by decide) u_X4 tyX4 tyX4_ok nmX4 fw_X4_13 rfl rfl (ty := (.array (.array .long))) (by decide +kernel) rfl rfl (Nat.le_of_ble_eq_true rfl) dX4_init_12 ?_
  show WI X A 6 55 1 15 _ [] ((h0, .inr (4, [.int 0, .ref q1])) :: ((q1, zA (X.ca 4) 5 q1) :: rwL (X.ca 1) 5 10 q1))
  exact hret 15 _ _ _ _ (fun _ b => [h0, q1].getD b 0) dX4_init_15 rfl rfl rfl rfl
def outX3 : outT := fun ca u => (((u 0 0), .inr (3, [.ref (u 0 1)])) :: [((u 0 1), zI (ca 0) 5)])
set_option maxRecDepth 20000 in
set_option maxHeartbeats 4000000 in
theorem c_X3_init : NI yX3_init cX3_init 3 [.null] outX3 1 12 1 5 := by
  refine NI.of (by decide) rfl (fun X A h0 K hin hR hret => ?_)
  refine i_aload K 0 dX3_init_0 rfl rfl ?_
  refine i_obj K ol_X3 dX3_init_1 (by rw [hR.1]; decide) (by rw [hR.2.1]; decide) ?_
  refine i_aload K 0 dX3_init_4 rfl rfl ?_
  refine i_iconst (v := 5) K dX3_init_5 (by decide) ?_
  refine i_newI (N := 5) K (by decide) (by decide) (by decide) (by rw [hR.2.2.1]; decide) (by rw [hR.2.2.2]; decide) dX3_init_6 (fun q1 => ?_)
  show WI X A 1 5 1 8 _ [.ref q1, .ref h0] ((h0, .inr (3, [.null])) :: [(q1, zI (X.ca 0) 5)])
  refine i_putF K hin (ci := 3) rfl 0 (by decide) u_X3 tyX3 tyX3_ok nmX3 fw_X3_9 rfl rfl (ty := (.array .int)) (by decide +kernel) rfl rfl (Nat.le_of_ble_eq_true rfl) dX3_init_8 ?_
  show WI X A 1 5 1 11 _ [] ((h0, .inr (3, [.ref q1])) :: [(q1, zI (X.ca 0) 5)])
  exact hret 11 _ _ _ _ (fun _ b => [h0, q1].getD b 0) dX3_init_11 rfl rfl rfl rfl
def outX5 : outT := fun ca u => (((u 0 0), .inr (5, [.ref (u 0 1), .ref (u 0 2), .int 0, .ref (u 0 3), .int 0])) :: (([((u 0 1), zI (ca 0) 40)] ++ (((u 0 2), zA (ca 3) 40 (u 0 2)) :: rwI (ca 0) 40 9 (u 0 2))) ++ [((u 0 3), zI (ca 0) 1800)]))
set_option maxRecDepth 20000 in
set_option maxHeartbeats 4000000 in
theorem c_X5_init : NI yX5_init cX5_init 5 [.null, .null, .int 0, .null, .int 0] outX5 1 12 43 2240 := by
  refine NI.of (by decide) rfl (fun X A h0 K hin hR hret => ?_)
  refine i_aload K 0 dX5_init_0 rfl rfl ?_
  refine i_obj K ol_X5 dX5_init_1 (by rw [hR.1]; decide) (by rw [hR.2.1]; decide) ?_
  refine i_aload K 0 dX5_init_4 rfl rfl ?_
  refine i_bipush (v := 40) K dX5_init_5 (by decide) ?_
  refine i_newI (N := 40) K (by decide) (by decide) (by decide) (by rw [hR.2.2.1]; decide) (by rw [hR.2.2.2]; decide) dX5_init_7 (fun q1 => ?_)
  show WI X A 1 40 1 9 _ [.ref q1, .ref h0] ((h0, .inr (5, [.null, .null, .int 0, .null, .int 0])) :: [(q1, zI (X.ca 0) 40)])
  refine i_putF K hin (ci := 5) rfl 0 (by decide) u_X5 tyX5 tyX5_ok nmX5 fw_X5_9 rfl rfl (ty := (.array .int)) (by decide +kernel) rfl rfl (Nat.le_of_ble_eq_true rfl) dX5_init_9 ?_
  show WI X A 1 40 1 12 _ [] ((h0, .inr (5, [.ref q1, .null, .int 0, .null, .int 0])) :: [(q1, zI (X.ca 0) 40)])
  refine i_aload K 0 dX5_init_12 rfl rfl ?_
  refine i_bipush (v := 40) K dX5_init_13 (by decide) ?_
  refine i_bipush (v := 9) K dX5_init_15 (by decide) ?_
  refine i_mulI (N := 40) (M := 9) K cl_X5_15 dX5_init_17 (by decide) (by decide) (by decide) (by decide) (by decide) (by decide) (by rw [hR.2.2.1]; decide) (by rw [hR.2.2.2]; decide) (fun q2 => ?_)
  show WI X A 42 440 1 21 _ [.ref q2, .ref h0] ((h0, .inr (5, [.ref q1, .null, .int 0, .null, .int 0])) :: ([(q1, zI (X.ca 0) 40)] ++ ((q2, zA (X.ca 3) 40 q2) :: rwI (X.ca 0) 40 9 q2)))
  refine i_putF K hin (ci := 5) rfl 1 (by decide) u_X5 tyX5 tyX5_ok nmX5 fw_X5_17 rfl rfl (ty := (.array (.array .int))) (by decide +kernel) rfl rfl (Nat.le_of_ble_eq_true rfl) dX5_init_21 ?_
  show WI X A 42 440 1 24 _ [] ((h0, .inr (5, [.ref q1, .ref q2, .int 0, .null, .int 0])) :: ([(q1, zI (X.ca 0) 40)] ++ ((q2, zA (X.ca 3) 40 q2) :: rwI (X.ca 0) 40 9 q2)))
  refine i_aload K 0 dX5_init_24 rfl rfl ?_
  refine i_sipush (v := 1800) K dX5_init_25 (by decide) ?_
  refine i_newI (N := 1800) K (by decide) (by decide) (by decide) (by rw [hR.2.2.1]; decide) (by rw [hR.2.2.2]; decide) dX5_init_28 (fun q3 => ?_)
  show WI X A 43 2240 1 30 _ [.ref q3, .ref h0] ((h0, .inr (5, [.ref q1, .ref q2, .int 0, .null, .int 0])) :: (([(q1, zI (X.ca 0) 40)] ++ ((q2, zA (X.ca 3) 40 q2) :: rwI (X.ca 0) 40 9 q2)) ++ [(q3, zI (X.ca 0) 1800)]))
  refine i_putF K hin (ci := 5) rfl 3 (by decide) u_X5 tyX5 tyX5_ok nmX5 fw_X5_20 rfl rfl (ty := (.array .int)) (by decide +kernel) rfl rfl (Nat.le_of_ble_eq_true rfl) dX5_init_30 ?_
  show WI X A 43 2240 1 33 _ [] ((h0, .inr (5, [.ref q1, .ref q2, .int 0, .ref q3, .int 0])) :: (([(q1, zI (X.ca 0) 40)] ++ ((q2, zA (X.ca 3) 40 q2) :: rwI (X.ca 0) 40 9 q2)) ++ [(q3, zI (X.ca 0) 1800)]))
  exact hret 33 _ _ _ _ (fun _ b => [h0, q1, q2, q3].getD b 0) dX5_init_33 rfl rfl rfl rfl
def outX6 : outT := fun ca u => (((u 0 0), .inr (6, [.ref (u 1 0), .ref (u 2 0), .ref (u 3 0), .int 0, .ref (u 4 0), .ref (u 5 0), .ref (u 6 0), .ref (u 7 0), .int 0, .ref (u 8 0), .int 0, .ref (u 9 0), .ref (u 10 0)])) :: (((((((((outX0 ca (fun _ => u 1) ++ outX0 ca (fun _ => u 2)) ++ outX0 ca (fun _ => u 3)) ++ outX2 ca (fun _ => u 4)) ++ outX1 ca (fun _ => u 5)) ++ outX4 ca (fun _ => u 6)) ++ outX3 ca (fun _ => u 7)) ++ outX5 ca (fun _ => u 8)) ++ outX2 ca (fun _ => u 9)) ++ outX1 ca (fun _ => u 10)))
set_option maxRecDepth 20000 in
set_option maxHeartbeats 4000000 in
theorem c_X6_init : NI yX6_init cX6_init 6 [.null, .null, .null, .int 0, .null, .null, .null, .null, .int 0, .null, .int 0, .null, .null] outX6 2 32 131 3591 := by
  refine NI.of (by decide) rfl (fun X A h0 K hin hR hret => ?_)
  refine i_aload K 0 dX6_init_0 rfl rfl ?_
  refine i_obj K ol_X6 dX6_init_1 (by rw [hR.1]; decide) (by rw [hR.2.1]; decide) ?_
  refine i_aload K 0 dX6_init_4 rfl rfl ?_
  refine i_new (fs := [.null, .null, .null, .null, .null, .null, .null, .int 0, .int 0, .int 0, .int 0, .int 0]) K (ci := 0) rfl u_X0 tyX0 tyX0_ok cl_X6_9 in_X0 iz_X0 df_X0 (by rw [hR.2.2.1]; decide) (by rw [hR.2.2.2]; decide) dX6_init_5 (fun q1 => ?_)
  refine i_dup K dX6_init_8 ?_
  refine i_ctorN K c_X0_init yn_X0 nt_X0 (by rw [hR.1, hR.2.1]; decide) (Nat.le_of_ble_eq_true rfl) (by rw [hR.2.2.1, hR.2.2.2]; decide) dX6_init_9 (fun u1 e1 => ?_)
  subst e1
  show WI X A 8 299 1 12 _ [.ref (u1 0 0), .ref h0] ((h0, .inr (6, [.null, .null, .null, .int 0, .null, .null, .null, .null, .int 0, .null, .int 0, .null, .null])) :: outX0 X.ca u1)
  refine i_putF K hin (ci := 6) rfl 0 (by decide) u_X6 tyX6 tyX6_ok nmX6 fw_X6_12 rfl rfl (ty := (.object "ControlRegister$Book")) (by decide +kernel) rfl rfl (Nat.le_of_ble_eq_true rfl) dX6_init_12 ?_
  show WI X A 8 299 1 15 _ [] ((h0, .inr (6, [.ref (u1 0 0), .null, .null, .int 0, .null, .null, .null, .null, .int 0, .null, .int 0, .null, .null])) :: outX0 X.ca u1)
  refine i_aload K 0 dX6_init_15 rfl rfl ?_
  refine i_new (fs := [.null, .null, .null, .null, .null, .null, .null, .int 0, .int 0, .int 0, .int 0, .int 0]) K (ci := 0) rfl u_X0 tyX0 tyX0_ok cl_X6_9 in_X0 iz_X0 df_X0 (by rw [hR.2.2.1]; decide) (by rw [hR.2.2.2]; decide) dX6_init_16 (fun q2 => ?_)
  refine i_dup K dX6_init_19 ?_
  refine i_ctorN K c_X0_init yn_X0 nt_X0 (by rw [hR.1, hR.2.1]; decide) (Nat.le_of_ble_eq_true rfl) (by rw [hR.2.2.1, hR.2.2.2]; decide) dX6_init_20 (fun u2 e2 => ?_)
  subst e2
  show WI X A 16 598 1 23 _ [.ref (u2 0 0), .ref h0] ((h0, .inr (6, [.ref (u1 0 0), .null, .null, .int 0, .null, .null, .null, .null, .int 0, .null, .int 0, .null, .null])) :: (outX0 X.ca u1 ++ outX0 X.ca u2))
  refine i_putF K hin (ci := 6) rfl 1 (by decide) u_X6 tyX6 tyX6_ok nmX6 fw_X6_16 rfl rfl (ty := (.object "ControlRegister$Book")) (by decide +kernel) rfl rfl (Nat.le_of_ble_eq_true rfl) dX6_init_23 ?_
  show WI X A 16 598 1 26 _ [] ((h0, .inr (6, [.ref (u1 0 0), .ref (u2 0 0), .null, .int 0, .null, .null, .null, .null, .int 0, .null, .int 0, .null, .null])) :: (outX0 X.ca u1 ++ outX0 X.ca u2))
  refine i_aload K 0 dX6_init_26 rfl rfl ?_
  refine i_new (fs := [.null, .null, .null, .null, .null, .null, .null, .int 0, .int 0, .int 0, .int 0, .int 0]) K (ci := 0) rfl u_X0 tyX0 tyX0_ok cl_X6_9 in_X0 iz_X0 df_X0 (by rw [hR.2.2.1]; decide) (by rw [hR.2.2.2]; decide) dX6_init_27 (fun q3 => ?_)
  refine i_dup K dX6_init_30 ?_
  refine i_ctorN K c_X0_init yn_X0 nt_X0 (by rw [hR.1, hR.2.1]; decide) (Nat.le_of_ble_eq_true rfl) (by rw [hR.2.2.1, hR.2.2.2]; decide) dX6_init_31 (fun u3 e3 => ?_)
  subst e3
  show WI X A 24 897 1 34 _ [.ref (u3 0 0), .ref h0] ((h0, .inr (6, [.ref (u1 0 0), .ref (u2 0 0), .null, .int 0, .null, .null, .null, .null, .int 0, .null, .int 0, .null, .null])) :: ((outX0 X.ca u1 ++ outX0 X.ca u2) ++ outX0 X.ca u3))
  refine i_putF K hin (ci := 6) rfl 2 (by decide) u_X6 tyX6 tyX6_ok nmX6 fw_X6_19 rfl rfl (ty := (.object "ControlRegister$Book")) (by decide +kernel) rfl rfl (Nat.le_of_ble_eq_true rfl) dX6_init_34 ?_
  show WI X A 24 897 1 37 _ [] ((h0, .inr (6, [.ref (u1 0 0), .ref (u2 0 0), .ref (u3 0 0), .int 0, .null, .null, .null, .null, .int 0, .null, .int 0, .null, .null])) :: ((outX0 X.ca u1 ++ outX0 X.ca u2) ++ outX0 X.ca u3))
  refine i_aload K 0 dX6_init_37 rfl rfl ?_
  refine i_new (fs := [.null, .null, .null]) K (ci := 2) rfl u_X2 tyX2 tyX2_ok cl_X6_22 in_X2 iz_X2 df_X2 (by rw [hR.2.2.1]; decide) (by rw [hR.2.2.2]; decide) dX6_init_38 (fun q4 => ?_)
  refine i_dup K dX6_init_41 ?_
  refine i_ctorN K c_X2_init yn_X2 nt_X2 (by rw [hR.1, hR.2.1]; decide) (Nat.le_of_ble_eq_true rfl) (by rw [hR.2.2.1, hR.2.2.2]; decide) dX6_init_42 (fun u4 e4 => ?_)
  subst e4
  show WI X A 38 1015 1 45 _ [.ref (u4 0 0), .ref h0] ((h0, .inr (6, [.ref (u1 0 0), .ref (u2 0 0), .ref (u3 0 0), .int 0, .null, .null, .null, .null, .int 0, .null, .int 0, .null, .null])) :: (((outX0 X.ca u1 ++ outX0 X.ca u2) ++ outX0 X.ca u3) ++ outX2 X.ca u4))
  refine i_putF K hin (ci := 6) rfl 4 (by decide) u_X6 tyX6 tyX6_ok nmX6 fw_X6_25 rfl rfl (ty := (.object "ControlRegister$Holdings")) (by decide +kernel) rfl rfl (Nat.le_of_ble_eq_true rfl) dX6_init_45 ?_
  show WI X A 38 1015 1 48 _ [] ((h0, .inr (6, [.ref (u1 0 0), .ref (u2 0 0), .ref (u3 0 0), .int 0, .ref (u4 0 0), .null, .null, .null, .int 0, .null, .int 0, .null, .null])) :: (((outX0 X.ca u1 ++ outX0 X.ca u2) ++ outX0 X.ca u3) ++ outX2 X.ca u4))
  refine i_aload K 0 dX6_init_48 rfl rfl ?_
  refine i_new (fs := [.null, .null, .null]) K (ci := 1) rfl u_X1 tyX1 tyX1_ok cl_X6_29 in_X1 iz_X1 df_X1 (by rw [hR.2.2.1]; decide) (by rw [hR.2.2.2]; decide) dX6_init_49 (fun q5 => ?_)
  refine i_dup K dX6_init_52 ?_
  refine i_ctorN K c_X1_init yn_X1 nt_X1 (by rw [hR.1, hR.2.1]; decide) (Nat.le_of_ble_eq_true rfl) (by rw [hR.2.2.1, hR.2.2.2]; decide) dX6_init_53 (fun u5 e5 => ?_)
  subst e5
  show WI X A 51 1090 1 56 _ [.ref (u5 0 0), .ref h0] ((h0, .inr (6, [.ref (u1 0 0), .ref (u2 0 0), .ref (u3 0 0), .int 0, .ref (u4 0 0), .null, .null, .null, .int 0, .null, .int 0, .null, .null])) :: ((((outX0 X.ca u1 ++ outX0 X.ca u2) ++ outX0 X.ca u3) ++ outX2 X.ca u4) ++ outX1 X.ca u5))
  refine i_putF K hin (ci := 6) rfl 5 (by decide) u_X6 tyX6 tyX6_ok nmX6 fw_X6_32 rfl rfl (ty := (.object "ControlRegister$Control")) (by decide +kernel) rfl rfl (Nat.le_of_ble_eq_true rfl) dX6_init_56 ?_
  show WI X A 51 1090 1 59 _ [] ((h0, .inr (6, [.ref (u1 0 0), .ref (u2 0 0), .ref (u3 0 0), .int 0, .ref (u4 0 0), .ref (u5 0 0), .null, .null, .int 0, .null, .int 0, .null, .null])) :: ((((outX0 X.ca u1 ++ outX0 X.ca u2) ++ outX0 X.ca u3) ++ outX2 X.ca u4) ++ outX1 X.ca u5))
  refine i_aload K 0 dX6_init_59 rfl rfl ?_
  refine i_new (fs := [.int 0, .null]) K (ci := 4) rfl u_X4 tyX4 tyX4_ok cl_X6_36 in_X4 iz_X4 df_X4 (by rw [hR.2.2.1]; decide) (by rw [hR.2.2.2]; decide) dX6_init_60 (fun q6 => ?_)
  refine i_dup K dX6_init_63 ?_
  refine i_ctorN K c_X4_init yn_X4 nt_X4 (by rw [hR.1, hR.2.1]; decide) (Nat.le_of_ble_eq_true rfl) (by rw [hR.2.2.1, hR.2.2.2]; decide) dX6_init_64 (fun u6 e6 => ?_)
  subst e6
  show WI X A 58 1147 1 67 _ [.ref (u6 0 0), .ref h0] ((h0, .inr (6, [.ref (u1 0 0), .ref (u2 0 0), .ref (u3 0 0), .int 0, .ref (u4 0 0), .ref (u5 0 0), .null, .null, .int 0, .null, .int 0, .null, .null])) :: (((((outX0 X.ca u1 ++ outX0 X.ca u2) ++ outX0 X.ca u3) ++ outX2 X.ca u4) ++ outX1 X.ca u5) ++ outX4 X.ca u6))
  refine i_putF K hin (ci := 6) rfl 6 (by decide) u_X6 tyX6 tyX6_ok nmX6 fw_X6_39 rfl rfl (ty := (.object "ControlRegister$Stakes")) (by decide +kernel) rfl rfl (Nat.le_of_ble_eq_true rfl) dX6_init_67 ?_
  show WI X A 58 1147 1 70 _ [] ((h0, .inr (6, [.ref (u1 0 0), .ref (u2 0 0), .ref (u3 0 0), .int 0, .ref (u4 0 0), .ref (u5 0 0), .ref (u6 0 0), .null, .int 0, .null, .int 0, .null, .null])) :: (((((outX0 X.ca u1 ++ outX0 X.ca u2) ++ outX0 X.ca u3) ++ outX2 X.ca u4) ++ outX1 X.ca u5) ++ outX4 X.ca u6))
  refine i_aload K 0 dX6_init_70 rfl rfl ?_
  refine i_new (fs := [.null]) K (ci := 3) rfl u_X3 tyX3 tyX3_ok cl_X6_43 in_X3 iz_X3 df_X3 (by rw [hR.2.2.1]; decide) (by rw [hR.2.2.2]; decide) dX6_init_71 (fun q7 => ?_)
  refine i_dup K dX6_init_74 ?_
  refine i_ctorN K c_X3_init yn_X3 nt_X3 (by rw [hR.1, hR.2.1]; decide) (Nat.le_of_ble_eq_true rfl) (by rw [hR.2.2.1, hR.2.2.2]; decide) dX6_init_75 (fun u7 e7 => ?_)
  subst e7
  show WI X A 60 1153 1 78 _ [.ref (u7 0 0), .ref h0] ((h0, .inr (6, [.ref (u1 0 0), .ref (u2 0 0), .ref (u3 0 0), .int 0, .ref (u4 0 0), .ref (u5 0 0), .ref (u6 0 0), .null, .int 0, .null, .int 0, .null, .null])) :: ((((((outX0 X.ca u1 ++ outX0 X.ca u2) ++ outX0 X.ca u3) ++ outX2 X.ca u4) ++ outX1 X.ca u5) ++ outX4 X.ca u6) ++ outX3 X.ca u7))
  refine i_putF K hin (ci := 6) rfl 7 (by decide) u_X6 tyX6 tyX6_ok nmX6 fw_X6_46 rfl rfl (ty := (.object "ControlRegister$Reach")) (by decide +kernel) rfl rfl (Nat.le_of_ble_eq_true rfl) dX6_init_78 ?_
  show WI X A 60 1153 1 81 _ [] ((h0, .inr (6, [.ref (u1 0 0), .ref (u2 0 0), .ref (u3 0 0), .int 0, .ref (u4 0 0), .ref (u5 0 0), .ref (u6 0 0), .ref (u7 0 0), .int 0, .null, .int 0, .null, .null])) :: ((((((outX0 X.ca u1 ++ outX0 X.ca u2) ++ outX0 X.ca u3) ++ outX2 X.ca u4) ++ outX1 X.ca u5) ++ outX4 X.ca u6) ++ outX3 X.ca u7))
  refine i_aload K 0 dX6_init_81 rfl rfl ?_
  refine i_new (fs := [.null, .null, .int 0, .null, .int 0]) K (ci := 5) rfl u_X5 tyX5 tyX5_ok cl_X6_50 in_X5 iz_X5 df_X5 (by rw [hR.2.2.1]; decide) (by rw [hR.2.2.2]; decide) dX6_init_82 (fun q8 => ?_)
  refine i_dup K dX6_init_85 ?_
  refine i_ctorN K c_X5_init yn_X5 nt_X5 (by rw [hR.1, hR.2.1]; decide) (Nat.le_of_ble_eq_true rfl) (by rw [hR.2.2.1, hR.2.2.2]; decide) dX6_init_86 (fun u8 e8 => ?_)
  subst e8
  show WI X A 104 3398 1 89 _ [.ref (u8 0 0), .ref h0] ((h0, .inr (6, [.ref (u1 0 0), .ref (u2 0 0), .ref (u3 0 0), .int 0, .ref (u4 0 0), .ref (u5 0 0), .ref (u6 0 0), .ref (u7 0 0), .int 0, .null, .int 0, .null, .null])) :: (((((((outX0 X.ca u1 ++ outX0 X.ca u2) ++ outX0 X.ca u3) ++ outX2 X.ca u4) ++ outX1 X.ca u5) ++ outX4 X.ca u6) ++ outX3 X.ca u7) ++ outX5 X.ca u8))
  refine i_putF K hin (ci := 6) rfl 9 (by decide) u_X6 tyX6 tyX6_ok nmX6 fw_X6_53 rfl rfl (ty := (.object "ControlRegister$Timeline")) (by decide +kernel) rfl rfl (Nat.le_of_ble_eq_true rfl) dX6_init_89 ?_
  show WI X A 104 3398 1 92 _ [] ((h0, .inr (6, [.ref (u1 0 0), .ref (u2 0 0), .ref (u3 0 0), .int 0, .ref (u4 0 0), .ref (u5 0 0), .ref (u6 0 0), .ref (u7 0 0), .int 0, .ref (u8 0 0), .int 0, .null, .null])) :: (((((((outX0 X.ca u1 ++ outX0 X.ca u2) ++ outX0 X.ca u3) ++ outX2 X.ca u4) ++ outX1 X.ca u5) ++ outX4 X.ca u6) ++ outX3 X.ca u7) ++ outX5 X.ca u8))
  refine i_aload K 0 dX6_init_92 rfl rfl ?_
  refine i_new (fs := [.null, .null, .null]) K (ci := 2) rfl u_X2 tyX2 tyX2_ok cl_X6_22 in_X2 iz_X2 df_X2 (by rw [hR.2.2.1]; decide) (by rw [hR.2.2.2]; decide) dX6_init_93 (fun q9 => ?_)
  refine i_dup K dX6_init_96 ?_
  refine i_ctorN K c_X2_init yn_X2 nt_X2 (by rw [hR.1, hR.2.1]; decide) (Nat.le_of_ble_eq_true rfl) (by rw [hR.2.2.1, hR.2.2.2]; decide) dX6_init_97 (fun u9 e9 => ?_)
  subst e9
  show WI X A 118 3516 1 100 _ [.ref (u9 0 0), .ref h0] ((h0, .inr (6, [.ref (u1 0 0), .ref (u2 0 0), .ref (u3 0 0), .int 0, .ref (u4 0 0), .ref (u5 0 0), .ref (u6 0 0), .ref (u7 0 0), .int 0, .ref (u8 0 0), .int 0, .null, .null])) :: ((((((((outX0 X.ca u1 ++ outX0 X.ca u2) ++ outX0 X.ca u3) ++ outX2 X.ca u4) ++ outX1 X.ca u5) ++ outX4 X.ca u6) ++ outX3 X.ca u7) ++ outX5 X.ca u8) ++ outX2 X.ca u9))
  refine i_putF K hin (ci := 6) rfl 11 (by decide) u_X6 tyX6 tyX6_ok nmX6 fw_X6_57 rfl rfl (ty := (.object "ControlRegister$Holdings")) (by decide +kernel) rfl rfl (Nat.le_of_ble_eq_true rfl) dX6_init_100 ?_
  show WI X A 118 3516 1 103 _ [] ((h0, .inr (6, [.ref (u1 0 0), .ref (u2 0 0), .ref (u3 0 0), .int 0, .ref (u4 0 0), .ref (u5 0 0), .ref (u6 0 0), .ref (u7 0 0), .int 0, .ref (u8 0 0), .int 0, .ref (u9 0 0), .null])) :: ((((((((outX0 X.ca u1 ++ outX0 X.ca u2) ++ outX0 X.ca u3) ++ outX2 X.ca u4) ++ outX1 X.ca u5) ++ outX4 X.ca u6) ++ outX3 X.ca u7) ++ outX5 X.ca u8) ++ outX2 X.ca u9))
  refine i_aload K 0 dX6_init_103 rfl rfl ?_
  refine i_new (fs := [.null, .null, .null]) K (ci := 1) rfl u_X1 tyX1 tyX1_ok cl_X6_29 in_X1 iz_X1 df_X1 (by rw [hR.2.2.1]; decide) (by rw [hR.2.2.2]; decide) dX6_init_104 (fun q10 => ?_)
  refine i_dup K dX6_init_107 ?_
  refine i_ctorN K c_X1_init yn_X1 nt_X1 (by rw [hR.1, hR.2.1]; decide) (Nat.le_of_ble_eq_true rfl) (by rw [hR.2.2.1, hR.2.2.2]; decide) dX6_init_108 (fun u10 e10 => ?_)
  subst e10
  show WI X A 131 3591 1 111 _ [.ref (u10 0 0), .ref h0] ((h0, .inr (6, [.ref (u1 0 0), .ref (u2 0 0), .ref (u3 0 0), .int 0, .ref (u4 0 0), .ref (u5 0 0), .ref (u6 0 0), .ref (u7 0 0), .int 0, .ref (u8 0 0), .int 0, .ref (u9 0 0), .null])) :: (((((((((outX0 X.ca u1 ++ outX0 X.ca u2) ++ outX0 X.ca u3) ++ outX2 X.ca u4) ++ outX1 X.ca u5) ++ outX4 X.ca u6) ++ outX3 X.ca u7) ++ outX5 X.ca u8) ++ outX2 X.ca u9) ++ outX1 X.ca u10))
  refine i_putF K hin (ci := 6) rfl 12 (by decide) u_X6 tyX6 tyX6_ok nmX6 fw_X6_60 rfl rfl (ty := (.object "ControlRegister$Control")) (by decide +kernel) rfl rfl (Nat.le_of_ble_eq_true rfl) dX6_init_111 ?_
  show WI X A 131 3591 1 114 _ [] ((h0, .inr (6, [.ref (u1 0 0), .ref (u2 0 0), .ref (u3 0 0), .int 0, .ref (u4 0 0), .ref (u5 0 0), .ref (u6 0 0), .ref (u7 0 0), .int 0, .ref (u8 0 0), .int 0, .ref (u9 0 0), .ref (u10 0 0)])) :: (((((((((outX0 X.ca u1 ++ outX0 X.ca u2) ++ outX0 X.ca u3) ++ outX2 X.ca u4) ++ outX1 X.ca u5) ++ outX4 X.ca u6) ++ outX3 X.ca u7) ++ outX5 X.ca u8) ++ outX2 X.ca u9) ++ outX1 X.ca u10))
  exact hret 114 _ _ _ _ (fun a => [(fun _ => h0), u1 0, u2 0, u3 0, u4 0, u5 0, u6 0, u7 0, u8 0, u9 0, u10 0].getD a (fun _ => 0)) dX6_init_114 rfl rfl rfl rfl
def outX7 : outT := fun ca u => (((u 0 0), .inr (7, [.ref (u 0 1), .ref (u 0 2), .ref (u 0 3), .ref (u 0 4), .ref (u 0 5), .ref (u 0 6), .int 0, .int 0, .ref (u 0 7), .ref (u 0 8), .ref (u 0 9), .ref (u 0 10), .ref (u 0 11), .ref (u 0 12), .int 0, .ref (u 0 13), .int 0, .int 0, .int 0, .int 0, .ref (u 0 14), .ref (u 0 15), .ref (u 0 16), .ref (u 0 17), .ref (u 0 18)])) :: ((((((((((((((((([((u 0 1), zI (ca 0) 41)] ++ [((u 0 2), zI (ca 0) 41)]) ++ [((u 0 3), zI (ca 0) 41)]) ++ [((u 0 4), zI (ca 0) 41)]) ++ [((u 0 5), zI (ca 0) 41)]) ++ [((u 0 6), zI (ca 0) 41)]) ++ [((u 0 7), .inl (ca 0, 3, .inl (upd (upd (upd (fun _ => 0) 0 50) 1 30) 2 25)))]) ++ [((u 0 8), zI (ca 0) 41)]) ++ [((u 0 9), zI (ca 0) 50)]) ++ [((u 0 10), zI (ca 0) 50)]) ++ [((u 0 11), zI (ca 2) 50)]) ++ [((u 0 12), zI (ca 0) 5)]) ++ [((u 0 13), zI (ca 0) 9)]) ++ [((u 0 14), zL (ca 1) 25)]) ++ [((u 0 15), zL (ca 1) 4)]) ++ [((u 0 16), zI (ca 0) 5)]) ++ [((u 0 17), zI (ca 0) 490)]) ++ [((u 0 18), zI (ca 2) 2)]))
set_option maxRecDepth 20000 in
set_option maxHeartbeats 4000000 in
theorem c_X7_init : NI yX7_init cX7_init 7 [.null, .null, .null, .null, .null, .null, .int 0, .int 0, .null, .null, .null, .null, .null, .null, .int 0, .null, .int 0, .int 0, .int 0, .int 0, .null, .null, .null, .null, .null] outX7 1 12 18 980 := by
  refine NI.of (by decide) rfl (fun X A h0 K hin hR hret => ?_)
  refine i_aload K 0 dX7_init_0 rfl rfl ?_
  refine i_obj K ol_X7 dX7_init_1 (by rw [hR.1]; decide) (by rw [hR.2.1]; decide) ?_
  refine i_aload K 0 dX7_init_4 rfl rfl ?_
  refine i_bipush (v := 41) K dX7_init_5 (by decide) ?_
  refine i_newI (N := 41) K (by decide) (by decide) (by decide) (by rw [hR.2.2.1]; decide) (by rw [hR.2.2.2]; decide) dX7_init_7 (fun q1 => ?_)
  show WI X A 1 41 1 9 _ [.ref q1, .ref h0] ((h0, .inr (7, [.null, .null, .null, .null, .null, .null, .int 0, .int 0, .null, .null, .null, .null, .null, .null, .int 0, .null, .int 0, .int 0, .int 0, .int 0, .null, .null, .null, .null, .null])) :: [(q1, zI (X.ca 0) 41)])
  refine i_putF K hin (ci := 7) rfl 0 (by decide) u_X7 tyX7 tyX7_ok nmX7 fw_X7_7 rfl rfl (ty := (.array .int)) (by decide +kernel) rfl rfl (Nat.le_of_ble_eq_true rfl) dX7_init_9 ?_
  show WI X A 1 41 1 12 _ [] ((h0, .inr (7, [.ref q1, .null, .null, .null, .null, .null, .int 0, .int 0, .null, .null, .null, .null, .null, .null, .int 0, .null, .int 0, .int 0, .int 0, .int 0, .null, .null, .null, .null, .null])) :: [(q1, zI (X.ca 0) 41)])
  refine i_aload K 0 dX7_init_12 rfl rfl ?_
  refine i_bipush (v := 41) K dX7_init_13 (by decide) ?_
  refine i_newI (N := 41) K (by decide) (by decide) (by decide) (by rw [hR.2.2.1]; decide) (by rw [hR.2.2.2]; decide) dX7_init_15 (fun q2 => ?_)
  show WI X A 2 82 1 17 _ [.ref q2, .ref h0] ((h0, .inr (7, [.ref q1, .null, .null, .null, .null, .null, .int 0, .int 0, .null, .null, .null, .null, .null, .null, .int 0, .null, .int 0, .int 0, .int 0, .int 0, .null, .null, .null, .null, .null])) :: ([(q1, zI (X.ca 0) 41)] ++ [(q2, zI (X.ca 0) 41)]))
  refine i_putF K hin (ci := 7) rfl 1 (by decide) u_X7 tyX7 tyX7_ok nmX7 fw_X7_13 rfl rfl (ty := (.array .int)) (by decide +kernel) rfl rfl (Nat.le_of_ble_eq_true rfl) dX7_init_17 ?_
  show WI X A 2 82 1 20 _ [] ((h0, .inr (7, [.ref q1, .ref q2, .null, .null, .null, .null, .int 0, .int 0, .null, .null, .null, .null, .null, .null, .int 0, .null, .int 0, .int 0, .int 0, .int 0, .null, .null, .null, .null, .null])) :: ([(q1, zI (X.ca 0) 41)] ++ [(q2, zI (X.ca 0) 41)]))
  refine i_aload K 0 dX7_init_20 rfl rfl ?_
  refine i_bipush (v := 41) K dX7_init_21 (by decide) ?_
  refine i_newI (N := 41) K (by decide) (by decide) (by decide) (by rw [hR.2.2.1]; decide) (by rw [hR.2.2.2]; decide) dX7_init_23 (fun q3 => ?_)
  show WI X A 3 123 1 25 _ [.ref q3, .ref h0] ((h0, .inr (7, [.ref q1, .ref q2, .null, .null, .null, .null, .int 0, .int 0, .null, .null, .null, .null, .null, .null, .int 0, .null, .int 0, .int 0, .int 0, .int 0, .null, .null, .null, .null, .null])) :: (([(q1, zI (X.ca 0) 41)] ++ [(q2, zI (X.ca 0) 41)]) ++ [(q3, zI (X.ca 0) 41)]))
  refine i_putF K hin (ci := 7) rfl 2 (by decide) u_X7 tyX7 tyX7_ok nmX7 fw_X7_16 rfl rfl (ty := (.array .int)) (by decide +kernel) rfl rfl (Nat.le_of_ble_eq_true rfl) dX7_init_25 ?_
  show WI X A 3 123 1 28 _ [] ((h0, .inr (7, [.ref q1, .ref q2, .ref q3, .null, .null, .null, .int 0, .int 0, .null, .null, .null, .null, .null, .null, .int 0, .null, .int 0, .int 0, .int 0, .int 0, .null, .null, .null, .null, .null])) :: (([(q1, zI (X.ca 0) 41)] ++ [(q2, zI (X.ca 0) 41)]) ++ [(q3, zI (X.ca 0) 41)]))
  refine i_aload K 0 dX7_init_28 rfl rfl ?_
  refine i_bipush (v := 41) K dX7_init_29 (by decide) ?_
  refine i_newI (N := 41) K (by decide) (by decide) (by decide) (by rw [hR.2.2.1]; decide) (by rw [hR.2.2.2]; decide) dX7_init_31 (fun q4 => ?_)
  show WI X A 4 164 1 33 _ [.ref q4, .ref h0] ((h0, .inr (7, [.ref q1, .ref q2, .ref q3, .null, .null, .null, .int 0, .int 0, .null, .null, .null, .null, .null, .null, .int 0, .null, .int 0, .int 0, .int 0, .int 0, .null, .null, .null, .null, .null])) :: ((([(q1, zI (X.ca 0) 41)] ++ [(q2, zI (X.ca 0) 41)]) ++ [(q3, zI (X.ca 0) 41)]) ++ [(q4, zI (X.ca 0) 41)]))
  refine i_putF K hin (ci := 7) rfl 3 (by decide) u_X7 tyX7 tyX7_ok nmX7 fw_X7_19 rfl rfl (ty := (.array .int)) (by decide +kernel) rfl rfl (Nat.le_of_ble_eq_true rfl) dX7_init_33 ?_
  show WI X A 4 164 1 36 _ [] ((h0, .inr (7, [.ref q1, .ref q2, .ref q3, .ref q4, .null, .null, .int 0, .int 0, .null, .null, .null, .null, .null, .null, .int 0, .null, .int 0, .int 0, .int 0, .int 0, .null, .null, .null, .null, .null])) :: ((([(q1, zI (X.ca 0) 41)] ++ [(q2, zI (X.ca 0) 41)]) ++ [(q3, zI (X.ca 0) 41)]) ++ [(q4, zI (X.ca 0) 41)]))
  refine i_aload K 0 dX7_init_36 rfl rfl ?_
  refine i_bipush (v := 41) K dX7_init_37 (by decide) ?_
  refine i_newI (N := 41) K (by decide) (by decide) (by decide) (by rw [hR.2.2.1]; decide) (by rw [hR.2.2.2]; decide) dX7_init_39 (fun q5 => ?_)
  show WI X A 5 205 1 41 _ [.ref q5, .ref h0] ((h0, .inr (7, [.ref q1, .ref q2, .ref q3, .ref q4, .null, .null, .int 0, .int 0, .null, .null, .null, .null, .null, .null, .int 0, .null, .int 0, .int 0, .int 0, .int 0, .null, .null, .null, .null, .null])) :: (((([(q1, zI (X.ca 0) 41)] ++ [(q2, zI (X.ca 0) 41)]) ++ [(q3, zI (X.ca 0) 41)]) ++ [(q4, zI (X.ca 0) 41)]) ++ [(q5, zI (X.ca 0) 41)]))
  refine i_putF K hin (ci := 7) rfl 4 (by decide) u_X7 tyX7 tyX7_ok nmX7 fw_X7_22 rfl rfl (ty := (.array .int)) (by decide +kernel) rfl rfl (Nat.le_of_ble_eq_true rfl) dX7_init_41 ?_
  show WI X A 5 205 1 44 _ [] ((h0, .inr (7, [.ref q1, .ref q2, .ref q3, .ref q4, .ref q5, .null, .int 0, .int 0, .null, .null, .null, .null, .null, .null, .int 0, .null, .int 0, .int 0, .int 0, .int 0, .null, .null, .null, .null, .null])) :: (((([(q1, zI (X.ca 0) 41)] ++ [(q2, zI (X.ca 0) 41)]) ++ [(q3, zI (X.ca 0) 41)]) ++ [(q4, zI (X.ca 0) 41)]) ++ [(q5, zI (X.ca 0) 41)]))
  refine i_aload K 0 dX7_init_44 rfl rfl ?_
  refine i_bipush (v := 41) K dX7_init_45 (by decide) ?_
  refine i_newI (N := 41) K (by decide) (by decide) (by decide) (by rw [hR.2.2.1]; decide) (by rw [hR.2.2.2]; decide) dX7_init_47 (fun q6 => ?_)
  show WI X A 6 246 1 49 _ [.ref q6, .ref h0] ((h0, .inr (7, [.ref q1, .ref q2, .ref q3, .ref q4, .ref q5, .null, .int 0, .int 0, .null, .null, .null, .null, .null, .null, .int 0, .null, .int 0, .int 0, .int 0, .int 0, .null, .null, .null, .null, .null])) :: ((((([(q1, zI (X.ca 0) 41)] ++ [(q2, zI (X.ca 0) 41)]) ++ [(q3, zI (X.ca 0) 41)]) ++ [(q4, zI (X.ca 0) 41)]) ++ [(q5, zI (X.ca 0) 41)]) ++ [(q6, zI (X.ca 0) 41)]))
  refine i_putF K hin (ci := 7) rfl 5 (by decide) u_X7 tyX7 tyX7_ok nmX7 fw_X7_25 rfl rfl (ty := (.array .int)) (by decide +kernel) rfl rfl (Nat.le_of_ble_eq_true rfl) dX7_init_49 ?_
  show WI X A 6 246 1 52 _ [] ((h0, .inr (7, [.ref q1, .ref q2, .ref q3, .ref q4, .ref q5, .ref q6, .int 0, .int 0, .null, .null, .null, .null, .null, .null, .int 0, .null, .int 0, .int 0, .int 0, .int 0, .null, .null, .null, .null, .null])) :: ((((([(q1, zI (X.ca 0) 41)] ++ [(q2, zI (X.ca 0) 41)]) ++ [(q3, zI (X.ca 0) 41)]) ++ [(q4, zI (X.ca 0) 41)]) ++ [(q5, zI (X.ca 0) 41)]) ++ [(q6, zI (X.ca 0) 41)]))
  refine i_aload K 0 dX7_init_52 rfl rfl ?_
  refine i_iconst (v := 3) K dX7_init_53 (by decide) ?_
  refine i_newI (N := 3) K (by decide) (by decide) (by decide) (by rw [hR.2.2.1]; decide) (by rw [hR.2.2.2]; decide) dX7_init_54 (fun q7 => ?_)
  show WI X A 7 249 1 56 _ [.ref q7, .ref h0] ((h0, .inr (7, [.ref q1, .ref q2, .ref q3, .ref q4, .ref q5, .ref q6, .int 0, .int 0, .null, .null, .null, .null, .null, .null, .int 0, .null, .int 0, .int 0, .int 0, .int 0, .null, .null, .null, .null, .null])) :: (((((([(q1, zI (X.ca 0) 41)] ++ [(q2, zI (X.ca 0) 41)]) ++ [(q3, zI (X.ca 0) 41)]) ++ [(q4, zI (X.ca 0) 41)]) ++ [(q5, zI (X.ca 0) 41)]) ++ [(q6, zI (X.ca 0) 41)]) ++ [(q7, zI (X.ca 0) 3)]))
  refine i_putF K hin (ci := 7) rfl 8 (by decide) u_X7 tyX7 tyX7_ok nmX7 fw_X7_28 rfl rfl (ty := (.array .int)) (by decide +kernel) rfl rfl (Nat.le_of_ble_eq_true rfl) dX7_init_56 ?_
  show WI X A 7 249 1 59 _ [] ((h0, .inr (7, [.ref q1, .ref q2, .ref q3, .ref q4, .ref q5, .ref q6, .int 0, .int 0, .ref q7, .null, .null, .null, .null, .null, .int 0, .null, .int 0, .int 0, .int 0, .int 0, .null, .null, .null, .null, .null])) :: (((((([(q1, zI (X.ca 0) 41)] ++ [(q2, zI (X.ca 0) 41)]) ++ [(q3, zI (X.ca 0) 41)]) ++ [(q4, zI (X.ca 0) 41)]) ++ [(q5, zI (X.ca 0) 41)]) ++ [(q6, zI (X.ca 0) 41)]) ++ [(q7, zI (X.ca 0) 3)]))
  refine i_aload K 0 dX7_init_59 rfl rfl ?_
  refine i_bipush (v := 41) K dX7_init_60 (by decide) ?_
  refine i_newI (N := 41) K (by decide) (by decide) (by decide) (by rw [hR.2.2.1]; decide) (by rw [hR.2.2.2]; decide) dX7_init_62 (fun q8 => ?_)
  show WI X A 8 290 1 64 _ [.ref q8, .ref h0] ((h0, .inr (7, [.ref q1, .ref q2, .ref q3, .ref q4, .ref q5, .ref q6, .int 0, .int 0, .ref q7, .null, .null, .null, .null, .null, .int 0, .null, .int 0, .int 0, .int 0, .int 0, .null, .null, .null, .null, .null])) :: ((((((([(q1, zI (X.ca 0) 41)] ++ [(q2, zI (X.ca 0) 41)]) ++ [(q3, zI (X.ca 0) 41)]) ++ [(q4, zI (X.ca 0) 41)]) ++ [(q5, zI (X.ca 0) 41)]) ++ [(q6, zI (X.ca 0) 41)]) ++ [(q7, zI (X.ca 0) 3)]) ++ [(q8, zI (X.ca 0) 41)]))
  refine i_putF K hin (ci := 7) rfl 9 (by decide) u_X7 tyX7 tyX7_ok nmX7 fw_X7_31 rfl rfl (ty := (.array .int)) (by decide +kernel) rfl rfl (Nat.le_of_ble_eq_true rfl) dX7_init_64 ?_
  show WI X A 8 290 1 67 _ [] ((h0, .inr (7, [.ref q1, .ref q2, .ref q3, .ref q4, .ref q5, .ref q6, .int 0, .int 0, .ref q7, .ref q8, .null, .null, .null, .null, .int 0, .null, .int 0, .int 0, .int 0, .int 0, .null, .null, .null, .null, .null])) :: ((((((([(q1, zI (X.ca 0) 41)] ++ [(q2, zI (X.ca 0) 41)]) ++ [(q3, zI (X.ca 0) 41)]) ++ [(q4, zI (X.ca 0) 41)]) ++ [(q5, zI (X.ca 0) 41)]) ++ [(q6, zI (X.ca 0) 41)]) ++ [(q7, zI (X.ca 0) 3)]) ++ [(q8, zI (X.ca 0) 41)]))
  refine i_aload K 0 dX7_init_67 rfl rfl ?_
  refine i_bipush (v := 50) K dX7_init_68 (by decide) ?_
  refine i_newI (N := 50) K (by decide) (by decide) (by decide) (by rw [hR.2.2.1]; decide) (by rw [hR.2.2.2]; decide) dX7_init_70 (fun q9 => ?_)
  show WI X A 9 340 1 72 _ [.ref q9, .ref h0] ((h0, .inr (7, [.ref q1, .ref q2, .ref q3, .ref q4, .ref q5, .ref q6, .int 0, .int 0, .ref q7, .ref q8, .null, .null, .null, .null, .int 0, .null, .int 0, .int 0, .int 0, .int 0, .null, .null, .null, .null, .null])) :: (((((((([(q1, zI (X.ca 0) 41)] ++ [(q2, zI (X.ca 0) 41)]) ++ [(q3, zI (X.ca 0) 41)]) ++ [(q4, zI (X.ca 0) 41)]) ++ [(q5, zI (X.ca 0) 41)]) ++ [(q6, zI (X.ca 0) 41)]) ++ [(q7, zI (X.ca 0) 3)]) ++ [(q8, zI (X.ca 0) 41)]) ++ [(q9, zI (X.ca 0) 50)]))
  refine i_putF K hin (ci := 7) rfl 10 (by decide) u_X7 tyX7 tyX7_ok nmX7 fw_X7_34 rfl rfl (ty := (.array .int)) (by decide +kernel) rfl rfl (Nat.le_of_ble_eq_true rfl) dX7_init_72 ?_
  show WI X A 9 340 1 75 _ [] ((h0, .inr (7, [.ref q1, .ref q2, .ref q3, .ref q4, .ref q5, .ref q6, .int 0, .int 0, .ref q7, .ref q8, .ref q9, .null, .null, .null, .int 0, .null, .int 0, .int 0, .int 0, .int 0, .null, .null, .null, .null, .null])) :: (((((((([(q1, zI (X.ca 0) 41)] ++ [(q2, zI (X.ca 0) 41)]) ++ [(q3, zI (X.ca 0) 41)]) ++ [(q4, zI (X.ca 0) 41)]) ++ [(q5, zI (X.ca 0) 41)]) ++ [(q6, zI (X.ca 0) 41)]) ++ [(q7, zI (X.ca 0) 3)]) ++ [(q8, zI (X.ca 0) 41)]) ++ [(q9, zI (X.ca 0) 50)]))
  refine i_aload K 0 dX7_init_75 rfl rfl ?_
  refine i_bipush (v := 50) K dX7_init_76 (by decide) ?_
  refine i_newI (N := 50) K (by decide) (by decide) (by decide) (by rw [hR.2.2.1]; decide) (by rw [hR.2.2.2]; decide) dX7_init_78 (fun q10 => ?_)
  show WI X A 10 390 1 80 _ [.ref q10, .ref h0] ((h0, .inr (7, [.ref q1, .ref q2, .ref q3, .ref q4, .ref q5, .ref q6, .int 0, .int 0, .ref q7, .ref q8, .ref q9, .null, .null, .null, .int 0, .null, .int 0, .int 0, .int 0, .int 0, .null, .null, .null, .null, .null])) :: ((((((((([(q1, zI (X.ca 0) 41)] ++ [(q2, zI (X.ca 0) 41)]) ++ [(q3, zI (X.ca 0) 41)]) ++ [(q4, zI (X.ca 0) 41)]) ++ [(q5, zI (X.ca 0) 41)]) ++ [(q6, zI (X.ca 0) 41)]) ++ [(q7, zI (X.ca 0) 3)]) ++ [(q8, zI (X.ca 0) 41)]) ++ [(q9, zI (X.ca 0) 50)]) ++ [(q10, zI (X.ca 0) 50)]))
  refine i_putF K hin (ci := 7) rfl 11 (by decide) u_X7 tyX7 tyX7_ok nmX7 fw_X7_37 rfl rfl (ty := (.array .int)) (by decide +kernel) rfl rfl (Nat.le_of_ble_eq_true rfl) dX7_init_80 ?_
  show WI X A 10 390 1 83 _ [] ((h0, .inr (7, [.ref q1, .ref q2, .ref q3, .ref q4, .ref q5, .ref q6, .int 0, .int 0, .ref q7, .ref q8, .ref q9, .ref q10, .null, .null, .int 0, .null, .int 0, .int 0, .int 0, .int 0, .null, .null, .null, .null, .null])) :: ((((((((([(q1, zI (X.ca 0) 41)] ++ [(q2, zI (X.ca 0) 41)]) ++ [(q3, zI (X.ca 0) 41)]) ++ [(q4, zI (X.ca 0) 41)]) ++ [(q5, zI (X.ca 0) 41)]) ++ [(q6, zI (X.ca 0) 41)]) ++ [(q7, zI (X.ca 0) 3)]) ++ [(q8, zI (X.ca 0) 41)]) ++ [(q9, zI (X.ca 0) 50)]) ++ [(q10, zI (X.ca 0) 50)]))
  refine i_aload K 0 dX7_init_83 rfl rfl ?_
  refine i_bipush (v := 50) K dX7_init_84 (by decide) ?_
  refine i_newZ (N := 50) K (by decide) (by decide) (by decide) (by rw [hR.2.2.1]; decide) (by rw [hR.2.2.2]; decide) dX7_init_86 (fun q11 => ?_)
  show WI X A 11 440 1 88 _ [.ref q11, .ref h0] ((h0, .inr (7, [.ref q1, .ref q2, .ref q3, .ref q4, .ref q5, .ref q6, .int 0, .int 0, .ref q7, .ref q8, .ref q9, .ref q10, .null, .null, .int 0, .null, .int 0, .int 0, .int 0, .int 0, .null, .null, .null, .null, .null])) :: (((((((((([(q1, zI (X.ca 0) 41)] ++ [(q2, zI (X.ca 0) 41)]) ++ [(q3, zI (X.ca 0) 41)]) ++ [(q4, zI (X.ca 0) 41)]) ++ [(q5, zI (X.ca 0) 41)]) ++ [(q6, zI (X.ca 0) 41)]) ++ [(q7, zI (X.ca 0) 3)]) ++ [(q8, zI (X.ca 0) 41)]) ++ [(q9, zI (X.ca 0) 50)]) ++ [(q10, zI (X.ca 0) 50)]) ++ [(q11, zI (X.ca 2) 50)]))
  refine i_putF K hin (ci := 7) rfl 12 (by decide) u_X7 tyX7 tyX7_ok nmX7 fw_X7_40 rfl rfl (ty := (.array .boolean)) (by decide +kernel) rfl rfl (Nat.le_of_ble_eq_true rfl) dX7_init_88 ?_
  show WI X A 11 440 1 91 _ [] ((h0, .inr (7, [.ref q1, .ref q2, .ref q3, .ref q4, .ref q5, .ref q6, .int 0, .int 0, .ref q7, .ref q8, .ref q9, .ref q10, .ref q11, .null, .int 0, .null, .int 0, .int 0, .int 0, .int 0, .null, .null, .null, .null, .null])) :: (((((((((([(q1, zI (X.ca 0) 41)] ++ [(q2, zI (X.ca 0) 41)]) ++ [(q3, zI (X.ca 0) 41)]) ++ [(q4, zI (X.ca 0) 41)]) ++ [(q5, zI (X.ca 0) 41)]) ++ [(q6, zI (X.ca 0) 41)]) ++ [(q7, zI (X.ca 0) 3)]) ++ [(q8, zI (X.ca 0) 41)]) ++ [(q9, zI (X.ca 0) 50)]) ++ [(q10, zI (X.ca 0) 50)]) ++ [(q11, zI (X.ca 2) 50)]))
  refine i_aload K 0 dX7_init_91 rfl rfl ?_
  refine i_iconst (v := 5) K dX7_init_92 (by decide) ?_
  refine i_newI (N := 5) K (by decide) (by decide) (by decide) (by rw [hR.2.2.1]; decide) (by rw [hR.2.2.2]; decide) dX7_init_93 (fun q12 => ?_)
  show WI X A 12 445 1 95 _ [.ref q12, .ref h0] ((h0, .inr (7, [.ref q1, .ref q2, .ref q3, .ref q4, .ref q5, .ref q6, .int 0, .int 0, .ref q7, .ref q8, .ref q9, .ref q10, .ref q11, .null, .int 0, .null, .int 0, .int 0, .int 0, .int 0, .null, .null, .null, .null, .null])) :: ((((((((((([(q1, zI (X.ca 0) 41)] ++ [(q2, zI (X.ca 0) 41)]) ++ [(q3, zI (X.ca 0) 41)]) ++ [(q4, zI (X.ca 0) 41)]) ++ [(q5, zI (X.ca 0) 41)]) ++ [(q6, zI (X.ca 0) 41)]) ++ [(q7, zI (X.ca 0) 3)]) ++ [(q8, zI (X.ca 0) 41)]) ++ [(q9, zI (X.ca 0) 50)]) ++ [(q10, zI (X.ca 0) 50)]) ++ [(q11, zI (X.ca 2) 50)]) ++ [(q12, zI (X.ca 0) 5)]))
  refine i_putF K hin (ci := 7) rfl 13 (by decide) u_X7 tyX7 tyX7_ok nmX7 fw_X7_44 rfl rfl (ty := (.array .int)) (by decide +kernel) rfl rfl (Nat.le_of_ble_eq_true rfl) dX7_init_95 ?_
  show WI X A 12 445 1 98 _ [] ((h0, .inr (7, [.ref q1, .ref q2, .ref q3, .ref q4, .ref q5, .ref q6, .int 0, .int 0, .ref q7, .ref q8, .ref q9, .ref q10, .ref q11, .ref q12, .int 0, .null, .int 0, .int 0, .int 0, .int 0, .null, .null, .null, .null, .null])) :: ((((((((((([(q1, zI (X.ca 0) 41)] ++ [(q2, zI (X.ca 0) 41)]) ++ [(q3, zI (X.ca 0) 41)]) ++ [(q4, zI (X.ca 0) 41)]) ++ [(q5, zI (X.ca 0) 41)]) ++ [(q6, zI (X.ca 0) 41)]) ++ [(q7, zI (X.ca 0) 3)]) ++ [(q8, zI (X.ca 0) 41)]) ++ [(q9, zI (X.ca 0) 50)]) ++ [(q10, zI (X.ca 0) 50)]) ++ [(q11, zI (X.ca 2) 50)]) ++ [(q12, zI (X.ca 0) 5)]))
  refine i_aload K 0 dX7_init_98 rfl rfl ?_
  refine i_bipush (v := 9) K dX7_init_99 (by decide) ?_
  refine i_newI (N := 9) K (by decide) (by decide) (by decide) (by rw [hR.2.2.1]; decide) (by rw [hR.2.2.2]; decide) dX7_init_101 (fun q13 => ?_)
  show WI X A 13 454 1 103 _ [.ref q13, .ref h0] ((h0, .inr (7, [.ref q1, .ref q2, .ref q3, .ref q4, .ref q5, .ref q6, .int 0, .int 0, .ref q7, .ref q8, .ref q9, .ref q10, .ref q11, .ref q12, .int 0, .null, .int 0, .int 0, .int 0, .int 0, .null, .null, .null, .null, .null])) :: (((((((((((([(q1, zI (X.ca 0) 41)] ++ [(q2, zI (X.ca 0) 41)]) ++ [(q3, zI (X.ca 0) 41)]) ++ [(q4, zI (X.ca 0) 41)]) ++ [(q5, zI (X.ca 0) 41)]) ++ [(q6, zI (X.ca 0) 41)]) ++ [(q7, zI (X.ca 0) 3)]) ++ [(q8, zI (X.ca 0) 41)]) ++ [(q9, zI (X.ca 0) 50)]) ++ [(q10, zI (X.ca 0) 50)]) ++ [(q11, zI (X.ca 2) 50)]) ++ [(q12, zI (X.ca 0) 5)]) ++ [(q13, zI (X.ca 0) 9)]))
  refine i_putF K hin (ci := 7) rfl 15 (by decide) u_X7 tyX7 tyX7_ok nmX7 fw_X7_47 rfl rfl (ty := (.array .int)) (by decide +kernel) rfl rfl (Nat.le_of_ble_eq_true rfl) dX7_init_103 ?_
  show WI X A 13 454 1 106 _ [] ((h0, .inr (7, [.ref q1, .ref q2, .ref q3, .ref q4, .ref q5, .ref q6, .int 0, .int 0, .ref q7, .ref q8, .ref q9, .ref q10, .ref q11, .ref q12, .int 0, .ref q13, .int 0, .int 0, .int 0, .int 0, .null, .null, .null, .null, .null])) :: (((((((((((([(q1, zI (X.ca 0) 41)] ++ [(q2, zI (X.ca 0) 41)]) ++ [(q3, zI (X.ca 0) 41)]) ++ [(q4, zI (X.ca 0) 41)]) ++ [(q5, zI (X.ca 0) 41)]) ++ [(q6, zI (X.ca 0) 41)]) ++ [(q7, zI (X.ca 0) 3)]) ++ [(q8, zI (X.ca 0) 41)]) ++ [(q9, zI (X.ca 0) 50)]) ++ [(q10, zI (X.ca 0) 50)]) ++ [(q11, zI (X.ca 2) 50)]) ++ [(q12, zI (X.ca 0) 5)]) ++ [(q13, zI (X.ca 0) 9)]))
  refine i_aload K 0 dX7_init_106 rfl rfl ?_
  refine i_bipush (v := 25) K dX7_init_107 (by decide) ?_
  refine i_newL (N := 25) K (by decide) (by decide) (by decide) (by rw [hR.2.2.1]; decide) (by rw [hR.2.2.2]; decide) dX7_init_109 (fun q14 => ?_)
  show WI X A 14 479 1 111 _ [.ref q14, .ref h0] ((h0, .inr (7, [.ref q1, .ref q2, .ref q3, .ref q4, .ref q5, .ref q6, .int 0, .int 0, .ref q7, .ref q8, .ref q9, .ref q10, .ref q11, .ref q12, .int 0, .ref q13, .int 0, .int 0, .int 0, .int 0, .null, .null, .null, .null, .null])) :: ((((((((((((([(q1, zI (X.ca 0) 41)] ++ [(q2, zI (X.ca 0) 41)]) ++ [(q3, zI (X.ca 0) 41)]) ++ [(q4, zI (X.ca 0) 41)]) ++ [(q5, zI (X.ca 0) 41)]) ++ [(q6, zI (X.ca 0) 41)]) ++ [(q7, zI (X.ca 0) 3)]) ++ [(q8, zI (X.ca 0) 41)]) ++ [(q9, zI (X.ca 0) 50)]) ++ [(q10, zI (X.ca 0) 50)]) ++ [(q11, zI (X.ca 2) 50)]) ++ [(q12, zI (X.ca 0) 5)]) ++ [(q13, zI (X.ca 0) 9)]) ++ [(q14, zL (X.ca 1) 25)]))
  refine i_putF K hin (ci := 7) rfl 20 (by decide) u_X7 tyX7 tyX7_ok nmX7 fw_X7_50 rfl rfl (ty := (.array .long)) (by decide +kernel) rfl rfl (Nat.le_of_ble_eq_true rfl) dX7_init_111 ?_
  show WI X A 14 479 1 114 _ [] ((h0, .inr (7, [.ref q1, .ref q2, .ref q3, .ref q4, .ref q5, .ref q6, .int 0, .int 0, .ref q7, .ref q8, .ref q9, .ref q10, .ref q11, .ref q12, .int 0, .ref q13, .int 0, .int 0, .int 0, .int 0, .ref q14, .null, .null, .null, .null])) :: ((((((((((((([(q1, zI (X.ca 0) 41)] ++ [(q2, zI (X.ca 0) 41)]) ++ [(q3, zI (X.ca 0) 41)]) ++ [(q4, zI (X.ca 0) 41)]) ++ [(q5, zI (X.ca 0) 41)]) ++ [(q6, zI (X.ca 0) 41)]) ++ [(q7, zI (X.ca 0) 3)]) ++ [(q8, zI (X.ca 0) 41)]) ++ [(q9, zI (X.ca 0) 50)]) ++ [(q10, zI (X.ca 0) 50)]) ++ [(q11, zI (X.ca 2) 50)]) ++ [(q12, zI (X.ca 0) 5)]) ++ [(q13, zI (X.ca 0) 9)]) ++ [(q14, zL (X.ca 1) 25)]))
  refine i_aload K 0 dX7_init_114 rfl rfl ?_
  refine i_iconst (v := 4) K dX7_init_115 (by decide) ?_
  refine i_newL (N := 4) K (by decide) (by decide) (by decide) (by rw [hR.2.2.1]; decide) (by rw [hR.2.2.2]; decide) dX7_init_116 (fun q15 => ?_)
  show WI X A 15 483 1 118 _ [.ref q15, .ref h0] ((h0, .inr (7, [.ref q1, .ref q2, .ref q3, .ref q4, .ref q5, .ref q6, .int 0, .int 0, .ref q7, .ref q8, .ref q9, .ref q10, .ref q11, .ref q12, .int 0, .ref q13, .int 0, .int 0, .int 0, .int 0, .ref q14, .null, .null, .null, .null])) :: (((((((((((((([(q1, zI (X.ca 0) 41)] ++ [(q2, zI (X.ca 0) 41)]) ++ [(q3, zI (X.ca 0) 41)]) ++ [(q4, zI (X.ca 0) 41)]) ++ [(q5, zI (X.ca 0) 41)]) ++ [(q6, zI (X.ca 0) 41)]) ++ [(q7, zI (X.ca 0) 3)]) ++ [(q8, zI (X.ca 0) 41)]) ++ [(q9, zI (X.ca 0) 50)]) ++ [(q10, zI (X.ca 0) 50)]) ++ [(q11, zI (X.ca 2) 50)]) ++ [(q12, zI (X.ca 0) 5)]) ++ [(q13, zI (X.ca 0) 9)]) ++ [(q14, zL (X.ca 1) 25)]) ++ [(q15, zL (X.ca 1) 4)]))
  refine i_putF K hin (ci := 7) rfl 21 (by decide) u_X7 tyX7 tyX7_ok nmX7 fw_X7_54 rfl rfl (ty := (.array .long)) (by decide +kernel) rfl rfl (Nat.le_of_ble_eq_true rfl) dX7_init_118 ?_
  show WI X A 15 483 1 121 _ [] ((h0, .inr (7, [.ref q1, .ref q2, .ref q3, .ref q4, .ref q5, .ref q6, .int 0, .int 0, .ref q7, .ref q8, .ref q9, .ref q10, .ref q11, .ref q12, .int 0, .ref q13, .int 0, .int 0, .int 0, .int 0, .ref q14, .ref q15, .null, .null, .null])) :: (((((((((((((([(q1, zI (X.ca 0) 41)] ++ [(q2, zI (X.ca 0) 41)]) ++ [(q3, zI (X.ca 0) 41)]) ++ [(q4, zI (X.ca 0) 41)]) ++ [(q5, zI (X.ca 0) 41)]) ++ [(q6, zI (X.ca 0) 41)]) ++ [(q7, zI (X.ca 0) 3)]) ++ [(q8, zI (X.ca 0) 41)]) ++ [(q9, zI (X.ca 0) 50)]) ++ [(q10, zI (X.ca 0) 50)]) ++ [(q11, zI (X.ca 2) 50)]) ++ [(q12, zI (X.ca 0) 5)]) ++ [(q13, zI (X.ca 0) 9)]) ++ [(q14, zL (X.ca 1) 25)]) ++ [(q15, zL (X.ca 1) 4)]))
  refine i_aload K 0 dX7_init_121 rfl rfl ?_
  refine i_iconst (v := 5) K dX7_init_122 (by decide) ?_
  refine i_newI (N := 5) K (by decide) (by decide) (by decide) (by rw [hR.2.2.1]; decide) (by rw [hR.2.2.2]; decide) dX7_init_123 (fun q16 => ?_)
  show WI X A 16 488 1 125 _ [.ref q16, .ref h0] ((h0, .inr (7, [.ref q1, .ref q2, .ref q3, .ref q4, .ref q5, .ref q6, .int 0, .int 0, .ref q7, .ref q8, .ref q9, .ref q10, .ref q11, .ref q12, .int 0, .ref q13, .int 0, .int 0, .int 0, .int 0, .ref q14, .ref q15, .null, .null, .null])) :: ((((((((((((((([(q1, zI (X.ca 0) 41)] ++ [(q2, zI (X.ca 0) 41)]) ++ [(q3, zI (X.ca 0) 41)]) ++ [(q4, zI (X.ca 0) 41)]) ++ [(q5, zI (X.ca 0) 41)]) ++ [(q6, zI (X.ca 0) 41)]) ++ [(q7, zI (X.ca 0) 3)]) ++ [(q8, zI (X.ca 0) 41)]) ++ [(q9, zI (X.ca 0) 50)]) ++ [(q10, zI (X.ca 0) 50)]) ++ [(q11, zI (X.ca 2) 50)]) ++ [(q12, zI (X.ca 0) 5)]) ++ [(q13, zI (X.ca 0) 9)]) ++ [(q14, zL (X.ca 1) 25)]) ++ [(q15, zL (X.ca 1) 4)]) ++ [(q16, zI (X.ca 0) 5)]))
  refine i_putF K hin (ci := 7) rfl 22 (by decide) u_X7 tyX7 tyX7_ok nmX7 fw_X7_57 rfl rfl (ty := (.array .int)) (by decide +kernel) rfl rfl (Nat.le_of_ble_eq_true rfl) dX7_init_125 ?_
  show WI X A 16 488 1 128 _ [] ((h0, .inr (7, [.ref q1, .ref q2, .ref q3, .ref q4, .ref q5, .ref q6, .int 0, .int 0, .ref q7, .ref q8, .ref q9, .ref q10, .ref q11, .ref q12, .int 0, .ref q13, .int 0, .int 0, .int 0, .int 0, .ref q14, .ref q15, .ref q16, .null, .null])) :: ((((((((((((((([(q1, zI (X.ca 0) 41)] ++ [(q2, zI (X.ca 0) 41)]) ++ [(q3, zI (X.ca 0) 41)]) ++ [(q4, zI (X.ca 0) 41)]) ++ [(q5, zI (X.ca 0) 41)]) ++ [(q6, zI (X.ca 0) 41)]) ++ [(q7, zI (X.ca 0) 3)]) ++ [(q8, zI (X.ca 0) 41)]) ++ [(q9, zI (X.ca 0) 50)]) ++ [(q10, zI (X.ca 0) 50)]) ++ [(q11, zI (X.ca 2) 50)]) ++ [(q12, zI (X.ca 0) 5)]) ++ [(q13, zI (X.ca 0) 9)]) ++ [(q14, zL (X.ca 1) 25)]) ++ [(q15, zL (X.ca 1) 4)]) ++ [(q16, zI (X.ca 0) 5)]))
  refine i_aload K 0 dX7_init_128 rfl rfl ?_
  refine i_sipush (v := 490) K dX7_init_129 (by decide) ?_
  refine i_newI (N := 490) K (by decide) (by decide) (by decide) (by rw [hR.2.2.1]; decide) (by rw [hR.2.2.2]; decide) dX7_init_132 (fun q17 => ?_)
  show WI X A 17 978 1 134 _ [.ref q17, .ref h0] ((h0, .inr (7, [.ref q1, .ref q2, .ref q3, .ref q4, .ref q5, .ref q6, .int 0, .int 0, .ref q7, .ref q8, .ref q9, .ref q10, .ref q11, .ref q12, .int 0, .ref q13, .int 0, .int 0, .int 0, .int 0, .ref q14, .ref q15, .ref q16, .null, .null])) :: (((((((((((((((([(q1, zI (X.ca 0) 41)] ++ [(q2, zI (X.ca 0) 41)]) ++ [(q3, zI (X.ca 0) 41)]) ++ [(q4, zI (X.ca 0) 41)]) ++ [(q5, zI (X.ca 0) 41)]) ++ [(q6, zI (X.ca 0) 41)]) ++ [(q7, zI (X.ca 0) 3)]) ++ [(q8, zI (X.ca 0) 41)]) ++ [(q9, zI (X.ca 0) 50)]) ++ [(q10, zI (X.ca 0) 50)]) ++ [(q11, zI (X.ca 2) 50)]) ++ [(q12, zI (X.ca 0) 5)]) ++ [(q13, zI (X.ca 0) 9)]) ++ [(q14, zL (X.ca 1) 25)]) ++ [(q15, zL (X.ca 1) 4)]) ++ [(q16, zI (X.ca 0) 5)]) ++ [(q17, zI (X.ca 0) 490)]))
  refine i_putF K hin (ci := 7) rfl 23 (by decide) u_X7 tyX7 tyX7_ok nmX7 fw_X7_60 rfl rfl (ty := (.array .int)) (by decide +kernel) rfl rfl (Nat.le_of_ble_eq_true rfl) dX7_init_134 ?_
  show WI X A 17 978 1 137 _ [] ((h0, .inr (7, [.ref q1, .ref q2, .ref q3, .ref q4, .ref q5, .ref q6, .int 0, .int 0, .ref q7, .ref q8, .ref q9, .ref q10, .ref q11, .ref q12, .int 0, .ref q13, .int 0, .int 0, .int 0, .int 0, .ref q14, .ref q15, .ref q16, .ref q17, .null])) :: (((((((((((((((([(q1, zI (X.ca 0) 41)] ++ [(q2, zI (X.ca 0) 41)]) ++ [(q3, zI (X.ca 0) 41)]) ++ [(q4, zI (X.ca 0) 41)]) ++ [(q5, zI (X.ca 0) 41)]) ++ [(q6, zI (X.ca 0) 41)]) ++ [(q7, zI (X.ca 0) 3)]) ++ [(q8, zI (X.ca 0) 41)]) ++ [(q9, zI (X.ca 0) 50)]) ++ [(q10, zI (X.ca 0) 50)]) ++ [(q11, zI (X.ca 2) 50)]) ++ [(q12, zI (X.ca 0) 5)]) ++ [(q13, zI (X.ca 0) 9)]) ++ [(q14, zL (X.ca 1) 25)]) ++ [(q15, zL (X.ca 1) 4)]) ++ [(q16, zI (X.ca 0) 5)]) ++ [(q17, zI (X.ca 0) 490)]))
  refine i_aload K 0 dX7_init_137 rfl rfl ?_
  refine i_iconst (v := 2) K dX7_init_138 (by decide) ?_
  refine i_newZ (N := 2) K (by decide) (by decide) (by decide) (by rw [hR.2.2.1]; decide) (by rw [hR.2.2.2]; decide) dX7_init_139 (fun q18 => ?_)
  show WI X A 18 980 1 141 _ [.ref q18, .ref h0] ((h0, .inr (7, [.ref q1, .ref q2, .ref q3, .ref q4, .ref q5, .ref q6, .int 0, .int 0, .ref q7, .ref q8, .ref q9, .ref q10, .ref q11, .ref q12, .int 0, .ref q13, .int 0, .int 0, .int 0, .int 0, .ref q14, .ref q15, .ref q16, .ref q17, .null])) :: ((((((((((((((((([(q1, zI (X.ca 0) 41)] ++ [(q2, zI (X.ca 0) 41)]) ++ [(q3, zI (X.ca 0) 41)]) ++ [(q4, zI (X.ca 0) 41)]) ++ [(q5, zI (X.ca 0) 41)]) ++ [(q6, zI (X.ca 0) 41)]) ++ [(q7, zI (X.ca 0) 3)]) ++ [(q8, zI (X.ca 0) 41)]) ++ [(q9, zI (X.ca 0) 50)]) ++ [(q10, zI (X.ca 0) 50)]) ++ [(q11, zI (X.ca 2) 50)]) ++ [(q12, zI (X.ca 0) 5)]) ++ [(q13, zI (X.ca 0) 9)]) ++ [(q14, zL (X.ca 1) 25)]) ++ [(q15, zL (X.ca 1) 4)]) ++ [(q16, zI (X.ca 0) 5)]) ++ [(q17, zI (X.ca 0) 490)]) ++ [(q18, zI (X.ca 2) 2)]))
  refine i_putF K hin (ci := 7) rfl 24 (by decide) u_X7 tyX7 tyX7_ok nmX7 fw_X7_63 rfl rfl (ty := (.array .boolean)) (by decide +kernel) rfl rfl (Nat.le_of_ble_eq_true rfl) dX7_init_141 ?_
  show WI X A 18 980 1 144 _ [] ((h0, .inr (7, [.ref q1, .ref q2, .ref q3, .ref q4, .ref q5, .ref q6, .int 0, .int 0, .ref q7, .ref q8, .ref q9, .ref q10, .ref q11, .ref q12, .int 0, .ref q13, .int 0, .int 0, .int 0, .int 0, .ref q14, .ref q15, .ref q16, .ref q17, .ref q18])) :: ((((((((((((((((([(q1, zI (X.ca 0) 41)] ++ [(q2, zI (X.ca 0) 41)]) ++ [(q3, zI (X.ca 0) 41)]) ++ [(q4, zI (X.ca 0) 41)]) ++ [(q5, zI (X.ca 0) 41)]) ++ [(q6, zI (X.ca 0) 41)]) ++ [(q7, zI (X.ca 0) 3)]) ++ [(q8, zI (X.ca 0) 41)]) ++ [(q9, zI (X.ca 0) 50)]) ++ [(q10, zI (X.ca 0) 50)]) ++ [(q11, zI (X.ca 2) 50)]) ++ [(q12, zI (X.ca 0) 5)]) ++ [(q13, zI (X.ca 0) 9)]) ++ [(q14, zL (X.ca 1) 25)]) ++ [(q15, zL (X.ca 1) 4)]) ++ [(q16, zI (X.ca 0) 5)]) ++ [(q17, zI (X.ca 0) 490)]) ++ [(q18, zI (X.ca 2) 2)]))
  refine i_aload K 0 dX7_init_144 rfl rfl ?_
  refine i_get K (ci := 7) rfl 8 (by decide) u_X7 fw_X7_28 (v := .ref q7) rfl dX7_init_145 ?_
  refine i_iconst (v := 0) K dX7_init_148 (by decide) ?_
  refine i_bipush (v := 50) K dX7_init_149 (by decide) ?_
  refine i_iast K 7 (n := 3) rfl (by unfold vp_in; decide) dX7_init_151 (ws' := ((h0, .inr (7, [.ref q1, .ref q2, .ref q3, .ref q4, .ref q5, .ref q6, .int 0, .int 0, .ref q7, .ref q8, .ref q9, .ref q10, .ref q11, .ref q12, .int 0, .ref q13, .int 0, .int 0, .int 0, .int 0, .ref q14, .ref q15, .ref q16, .ref q17, .ref q18])) :: ((((((((((((((((([(q1, zI (X.ca 0) 41)] ++ [(q2, zI (X.ca 0) 41)]) ++ [(q3, zI (X.ca 0) 41)]) ++ [(q4, zI (X.ca 0) 41)]) ++ [(q5, zI (X.ca 0) 41)]) ++ [(q6, zI (X.ca 0) 41)]) ++ [(q7, .inl (X.ca 0, 3, .inl (upd (fun _ => 0) 0 50)))]) ++ [(q8, zI (X.ca 0) 41)]) ++ [(q9, zI (X.ca 0) 50)]) ++ [(q10, zI (X.ca 0) 50)]) ++ [(q11, zI (X.ca 2) 50)]) ++ [(q12, zI (X.ca 0) 5)]) ++ [(q13, zI (X.ca 0) 9)]) ++ [(q14, zL (X.ca 1) 25)]) ++ [(q15, zL (X.ca 1) 4)]) ++ [(q16, zI (X.ca 0) 5)]) ++ [(q17, zI (X.ca 0) 490)]) ++ [(q18, zI (X.ca 2) 2)]))) rfl ?_
  refine i_aload K 0 dX7_init_152 rfl rfl ?_
  refine i_get K (ci := 7) rfl 8 (by decide) u_X7 fw_X7_28 (v := .ref q7) rfl dX7_init_153 ?_
  refine i_iconst (v := 1) K dX7_init_156 (by decide) ?_
  refine i_bipush (v := 30) K dX7_init_157 (by decide) ?_
  refine i_iast K 7 (n := 3) rfl (by unfold vp_in; decide) dX7_init_159 (ws' := ((h0, .inr (7, [.ref q1, .ref q2, .ref q3, .ref q4, .ref q5, .ref q6, .int 0, .int 0, .ref q7, .ref q8, .ref q9, .ref q10, .ref q11, .ref q12, .int 0, .ref q13, .int 0, .int 0, .int 0, .int 0, .ref q14, .ref q15, .ref q16, .ref q17, .ref q18])) :: ((((((((((((((((([(q1, zI (X.ca 0) 41)] ++ [(q2, zI (X.ca 0) 41)]) ++ [(q3, zI (X.ca 0) 41)]) ++ [(q4, zI (X.ca 0) 41)]) ++ [(q5, zI (X.ca 0) 41)]) ++ [(q6, zI (X.ca 0) 41)]) ++ [(q7, .inl (X.ca 0, 3, .inl (upd (upd (fun _ => 0) 0 50) 1 30)))]) ++ [(q8, zI (X.ca 0) 41)]) ++ [(q9, zI (X.ca 0) 50)]) ++ [(q10, zI (X.ca 0) 50)]) ++ [(q11, zI (X.ca 2) 50)]) ++ [(q12, zI (X.ca 0) 5)]) ++ [(q13, zI (X.ca 0) 9)]) ++ [(q14, zL (X.ca 1) 25)]) ++ [(q15, zL (X.ca 1) 4)]) ++ [(q16, zI (X.ca 0) 5)]) ++ [(q17, zI (X.ca 0) 490)]) ++ [(q18, zI (X.ca 2) 2)]))) rfl ?_
  refine i_aload K 0 dX7_init_160 rfl rfl ?_
  refine i_get K (ci := 7) rfl 8 (by decide) u_X7 fw_X7_28 (v := .ref q7) rfl dX7_init_161 ?_
  refine i_iconst (v := 2) K dX7_init_164 (by decide) ?_
  refine i_bipush (v := 25) K dX7_init_165 (by decide) ?_
  refine i_iast K 7 (n := 3) rfl (by unfold vp_in; decide) dX7_init_167 (ws' := ((h0, .inr (7, [.ref q1, .ref q2, .ref q3, .ref q4, .ref q5, .ref q6, .int 0, .int 0, .ref q7, .ref q8, .ref q9, .ref q10, .ref q11, .ref q12, .int 0, .ref q13, .int 0, .int 0, .int 0, .int 0, .ref q14, .ref q15, .ref q16, .ref q17, .ref q18])) :: ((((((((((((((((([(q1, zI (X.ca 0) 41)] ++ [(q2, zI (X.ca 0) 41)]) ++ [(q3, zI (X.ca 0) 41)]) ++ [(q4, zI (X.ca 0) 41)]) ++ [(q5, zI (X.ca 0) 41)]) ++ [(q6, zI (X.ca 0) 41)]) ++ [(q7, .inl (X.ca 0, 3, .inl (upd (upd (upd (fun _ => 0) 0 50) 1 30) 2 25)))]) ++ [(q8, zI (X.ca 0) 41)]) ++ [(q9, zI (X.ca 0) 50)]) ++ [(q10, zI (X.ca 0) 50)]) ++ [(q11, zI (X.ca 2) 50)]) ++ [(q12, zI (X.ca 0) 5)]) ++ [(q13, zI (X.ca 0) 9)]) ++ [(q14, zL (X.ca 1) 25)]) ++ [(q15, zL (X.ca 1) 4)]) ++ [(q16, zI (X.ca 0) 5)]) ++ [(q17, zI (X.ca 0) 490)]) ++ [(q18, zI (X.ca 2) 2)]))) rfl ?_
  exact hret 168 _ _ _ _ (fun _ b => [h0, q1, q2, q3, q4, q5, q6, q7, q8, q9, q10, q11, q12, q13, q14, q15, q16, q17, q18].getD b 0) dX7_init_168 rfl rfl rfl rfl
