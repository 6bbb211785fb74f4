set_option maxRecDepth 100000 in
set_option maxHeartbeats 4000000 in
theorem c_X0_init : kd_M kK_X0_init [.ref 0] [.inr (.inr (0, [.null, .null, .null, .int 0, .int 0, .int 0, .int 0, .int 0]))] [.inr (.inr (0, [.ref 1, .ref 2, .ref 3, .int 0, .int 0, .int 0, .int 0, .int 1])), .inl (8, fun _ => 0), .inl (8, fun _ => 0), .inl (8, fun _ => 0)] 3 24 := by
  refine kd_met (ls := [some (.ref 0)]) (show plainName RX0 = true by decide +kernel) rfl (fun _ => rfl) (fun _ => Nat.le_of_ble_eq_true rfl) ?_
  refine kd_aload d_X0_init_0 rfl ?_
  refine kd_objInit d_X0_init_1 wo_X0_3 (Nat.le_of_ble_eq_true rfl) (Nat.le_of_ble_eq_true rfl) ?_
  refine kd_aload d_X0_init_4 rfl ?_
  refine kd_const (v := 8) d_X0_init_5 ?_
  refine kd_newarr (N := 8) d_X0_init_7 kd_wai (by decide) (by decide) (by decide) (by decide +kernel) (by decide) (by decide) ?_
  refine kd_ws (ws' := [.inr (.inr (0, [.null, .null, .null, .int 0, .int 0, .int 0, .int 0, .int 0])), .inl (8, fun _ => 0)]) rfl ?_
  refine kd_put d_X0_init_9 wp_X0_9 rfl (by decide) (fun _ => rfl) (fun _ => rfl) ?_
  refine kd_ws (ws' := [.inr (.inr (0, [.ref 1, .null, .null, .int 0, .int 0, .int 0, .int 0, .int 0])), .inl (8, fun _ => 0)]) rfl ?_
  refine kd_aload d_X0_init_12 rfl ?_
  refine kd_const (v := 8) d_X0_init_13 ?_
  refine kd_newarr (N := 8) d_X0_init_15 kd_wai (by decide) (by decide) (by decide) (by decide +kernel) (by decide) (by decide) ?_
  refine kd_ws (ws' := [.inr (.inr (0, [.ref 1, .null, .null, .int 0, .int 0, .int 0, .int 0, .int 0])), .inl (8, fun _ => 0), .inl (8, fun _ => 0)]) rfl ?_
  refine kd_put d_X0_init_17 wp_X0_15 rfl (by decide) (fun _ => rfl) (fun _ => rfl) ?_
  refine kd_ws (ws' := [.inr (.inr (0, [.ref 1, .ref 2, .null, .int 0, .int 0, .int 0, .int 0, .int 0])), .inl (8, fun _ => 0), .inl (8, fun _ => 0)]) rfl ?_
  refine kd_aload d_X0_init_20 rfl ?_
  refine kd_const (v := 8) d_X0_init_21 ?_
  refine kd_newarr (N := 8) d_X0_init_23 kd_wai (by decide) (by decide) (by decide) (by decide +kernel) (by decide) (by decide) ?_
  refine kd_ws (ws' := [.inr (.inr (0, [.ref 1, .ref 2, .null, .int 0, .int 0, .int 0, .int 0, .int 0])), .inl (8, fun _ => 0), .inl (8, fun _ => 0), .inl (8, fun _ => 0)]) rfl ?_
  refine kd_put d_X0_init_25 wp_X0_18 rfl (by decide) (fun _ => rfl) (fun _ => rfl) ?_
  refine kd_ws (ws' := [.inr (.inr (0, [.ref 1, .ref 2, .ref 3, .int 0, .int 0, .int 0, .int 0, .int 0])), .inl (8, fun _ => 0), .inl (8, fun _ => 0), .inl (8, fun _ => 0)]) rfl ?_
  refine kd_aload d_X0_init_28 rfl ?_
  refine kd_const (v := 1) d_X0_init_29 ?_
  refine kd_put d_X0_init_30 wp_X0_21 rfl (by decide) (fun _ => rfl) (fun _ => rfl) ?_
  refine kd_ws (ws' := [.inr (.inr (0, [.ref 1, .ref 2, .ref 3, .int 0, .int 0, .int 0, .int 0, .int 1])), .inl (8, fun _ => 0), .inl (8, fun _ => 0), .inl (8, fun _ => 0)]) rfl ?_
  exact kd_return d_X0_init_33 rfl (by decide) (by decide)

set_option maxRecDepth 100000 in
set_option maxHeartbeats 4000000 in
theorem c_X1_init : kd_M kK_X1_init [.ref 0] [.inr (.inr (1, [.null, .null, .null, .null, .null, .null, .null, .null, .int 0]))] [.inr (.inr (1, [.ref 1, .ref 2, .ref 3, .ref 4, .ref 5, .ref 6, .ref 7, .ref 8, .int 0])), .inl (8, fun _ => 0), .inl (8, fun _ => 0), .inl (8, fun _ => 0), .inl (8, fun _ => 0), .inl (8, fun _ => 0), .inl (8, fun _ => 0), .inl (8, fun _ => 0), .inl (8, fun _ => 0)] 8 64 := by
  refine kd_met (ls := [some (.ref 0)]) (show plainName RX1 = true by decide +kernel) rfl (fun _ => rfl) (fun _ => Nat.le_of_ble_eq_true rfl) ?_
  refine kd_aload d_X1_init_0 rfl ?_
  refine kd_objInit d_X1_init_1 wo_X1_3 (Nat.le_of_ble_eq_true rfl) (Nat.le_of_ble_eq_true rfl) ?_
  refine kd_aload d_X1_init_4 rfl ?_
  refine kd_const (v := 8) d_X1_init_5 ?_
  refine kd_newarr (N := 8) d_X1_init_7 kd_wai (by decide) (by decide) (by decide) (by decide +kernel) (by decide) (by decide) ?_
  refine kd_ws (ws' := [.inr (.inr (1, [.null, .null, .null, .null, .null, .null, .null, .null, .int 0])), .inl (8, fun _ => 0)]) rfl ?_
  refine kd_put d_X1_init_9 wp_X1_9 rfl (by decide) (fun _ => rfl) (fun _ => rfl) ?_
  refine kd_ws (ws' := [.inr (.inr (1, [.ref 1, .null, .null, .null, .null, .null, .null, .null, .int 0])), .inl (8, fun _ => 0)]) rfl ?_
  refine kd_aload d_X1_init_12 rfl ?_
  refine kd_const (v := 8) d_X1_init_13 ?_
  refine kd_newarr (N := 8) d_X1_init_15 kd_wai (by decide) (by decide) (by decide) (by decide +kernel) (by decide) (by decide) ?_
  refine kd_ws (ws' := [.inr (.inr (1, [.ref 1, .null, .null, .null, .null, .null, .null, .null, .int 0])), .inl (8, fun _ => 0), .inl (8, fun _ => 0)]) rfl ?_
  refine kd_put d_X1_init_17 wp_X1_15 rfl (by decide) (fun _ => rfl) (fun _ => rfl) ?_
  refine kd_ws (ws' := [.inr (.inr (1, [.ref 1, .ref 2, .null, .null, .null, .null, .null, .null, .int 0])), .inl (8, fun _ => 0), .inl (8, fun _ => 0)]) rfl ?_
  refine kd_aload d_X1_init_20 rfl ?_
  refine kd_const (v := 8) d_X1_init_21 ?_
  refine kd_newarr (N := 8) d_X1_init_23 kd_wai (by decide) (by decide) (by decide) (by decide +kernel) (by decide) (by decide) ?_
  refine kd_ws (ws' := [.inr (.inr (1, [.ref 1, .ref 2, .null, .null, .null, .null, .null, .null, .int 0])), .inl (8, fun _ => 0), .inl (8, fun _ => 0), .inl (8, fun _ => 0)]) rfl ?_
  refine kd_put d_X1_init_25 wp_X1_18 rfl (by decide) (fun _ => rfl) (fun _ => rfl) ?_
  refine kd_ws (ws' := [.inr (.inr (1, [.ref 1, .ref 2, .ref 3, .null, .null, .null, .null, .null, .int 0])), .inl (8, fun _ => 0), .inl (8, fun _ => 0), .inl (8, fun _ => 0)]) rfl ?_
  refine kd_aload d_X1_init_28 rfl ?_
  refine kd_const (v := 8) d_X1_init_29 ?_
  refine kd_newarr (N := 8) d_X1_init_31 kd_wai (by decide) (by decide) (by decide) (by decide +kernel) (by decide) (by decide) ?_
  refine kd_ws (ws' := [.inr (.inr (1, [.ref 1, .ref 2, .ref 3, .null, .null, .null, .null, .null, .int 0])), .inl (8, fun _ => 0), .inl (8, fun _ => 0), .inl (8, fun _ => 0), .inl (8, fun _ => 0)]) rfl ?_
  refine kd_put d_X1_init_33 wp_X1_21 rfl (by decide) (fun _ => rfl) (fun _ => rfl) ?_
  refine kd_ws (ws' := [.inr (.inr (1, [.ref 1, .ref 2, .ref 3, .ref 4, .null, .null, .null, .null, .int 0])), .inl (8, fun _ => 0), .inl (8, fun _ => 0), .inl (8, fun _ => 0), .inl (8, fun _ => 0)]) rfl ?_
  refine kd_aload d_X1_init_36 rfl ?_
  refine kd_const (v := 8) d_X1_init_37 ?_
  refine kd_newarr (N := 8) d_X1_init_39 kd_wai (by decide) (by decide) (by decide) (by decide +kernel) (by decide) (by decide) ?_
  refine kd_ws (ws' := [.inr (.inr (1, [.ref 1, .ref 2, .ref 3, .ref 4, .null, .null, .null, .null, .int 0])), .inl (8, fun _ => 0), .inl (8, fun _ => 0), .inl (8, fun _ => 0), .inl (8, fun _ => 0), .inl (8, fun _ => 0)]) rfl ?_
  refine kd_put d_X1_init_41 wp_X1_24 rfl (by decide) (fun _ => rfl) (fun _ => rfl) ?_
  refine kd_ws (ws' := [.inr (.inr (1, [.ref 1, .ref 2, .ref 3, .ref 4, .ref 5, .null, .null, .null, .int 0])), .inl (8, fun _ => 0), .inl (8, fun _ => 0), .inl (8, fun _ => 0), .inl (8, fun _ => 0), .inl (8, fun _ => 0)]) rfl ?_
  refine kd_aload d_X1_init_44 rfl ?_
  refine kd_const (v := 8) d_X1_init_45 ?_
  refine kd_newarr (N := 8) d_X1_init_47 kd_wai (by decide) (by decide) (by decide) (by decide +kernel) (by decide) (by decide) ?_
  refine kd_ws (ws' := [.inr (.inr (1, [.ref 1, .ref 2, .ref 3, .ref 4, .ref 5, .null, .null, .null, .int 0])), .inl (8, fun _ => 0), .inl (8, fun _ => 0), .inl (8, fun _ => 0), .inl (8, fun _ => 0), .inl (8, fun _ => 0), .inl (8, fun _ => 0)]) rfl ?_
  refine kd_put d_X1_init_49 wp_X1_27 rfl (by decide) (fun _ => rfl) (fun _ => rfl) ?_
  refine kd_ws (ws' := [.inr (.inr (1, [.ref 1, .ref 2, .ref 3, .ref 4, .ref 5, .ref 6, .null, .null, .int 0])), .inl (8, fun _ => 0), .inl (8, fun _ => 0), .inl (8, fun _ => 0), .inl (8, fun _ => 0), .inl (8, fun _ => 0), .inl (8, fun _ => 0)]) rfl ?_
  refine kd_aload d_X1_init_52 rfl ?_
  refine kd_const (v := 8) d_X1_init_53 ?_
  refine kd_newarr (N := 8) d_X1_init_55 kd_wai (by decide) (by decide) (by decide) (by decide +kernel) (by decide) (by decide) ?_
  refine kd_ws (ws' := [.inr (.inr (1, [.ref 1, .ref 2, .ref 3, .ref 4, .ref 5, .ref 6, .null, .null, .int 0])), .inl (8, fun _ => 0), .inl (8, fun _ => 0), .inl (8, fun _ => 0), .inl (8, fun _ => 0), .inl (8, fun _ => 0), .inl (8, fun _ => 0), .inl (8, fun _ => 0)]) rfl ?_
  refine kd_put d_X1_init_57 wp_X1_30 rfl (by decide) (fun _ => rfl) (fun _ => rfl) ?_
  refine kd_ws (ws' := [.inr (.inr (1, [.ref 1, .ref 2, .ref 3, .ref 4, .ref 5, .ref 6, .ref 7, .null, .int 0])), .inl (8, fun _ => 0), .inl (8, fun _ => 0), .inl (8, fun _ => 0), .inl (8, fun _ => 0), .inl (8, fun _ => 0), .inl (8, fun _ => 0), .inl (8, fun _ => 0)]) rfl ?_
  refine kd_aload d_X1_init_60 rfl ?_
  refine kd_const (v := 8) d_X1_init_61 ?_
  refine kd_newarr (N := 8) d_X1_init_63 kd_wai (by decide) (by decide) (by decide) (by decide +kernel) (by decide) (by decide) ?_
  refine kd_ws (ws' := [.inr (.inr (1, [.ref 1, .ref 2, .ref 3, .ref 4, .ref 5, .ref 6, .ref 7, .null, .int 0])), .inl (8, fun _ => 0), .inl (8, fun _ => 0), .inl (8, fun _ => 0), .inl (8, fun _ => 0), .inl (8, fun _ => 0), .inl (8, fun _ => 0), .inl (8, fun _ => 0), .inl (8, fun _ => 0)]) rfl ?_
  refine kd_put d_X1_init_65 wp_X1_33 rfl (by decide) (fun _ => rfl) (fun _ => rfl) ?_
  refine kd_ws (ws' := [.inr (.inr (1, [.ref 1, .ref 2, .ref 3, .ref 4, .ref 5, .ref 6, .ref 7, .ref 8, .int 0])), .inl (8, fun _ => 0), .inl (8, fun _ => 0), .inl (8, fun _ => 0), .inl (8, fun _ => 0), .inl (8, fun _ => 0), .inl (8, fun _ => 0), .inl (8, fun _ => 0), .inl (8, fun _ => 0)]) rfl ?_
  exact kd_return d_X1_init_68 rfl (by decide) (by decide)

set_option maxRecDepth 100000 in
set_option maxHeartbeats 4000000 in
theorem c_X2_init : kd_M kK_X2_init [.ref 0] [.inr (.inr (2, [.null, .null, .int 0, .int 0]))] [.inr (.inr (2, [.ref 1, .ref 2, .int 0, .int 0])), .inl (256, fun _ => 0), .inl (256, fun _ => 0)] 2 512 := by
  refine kd_met (ls := [some (.ref 0)]) (show plainName RX2 = true by decide +kernel) rfl (fun _ => rfl) (fun _ => Nat.le_of_ble_eq_true rfl) ?_
  refine kd_aload d_X2_init_0 rfl ?_
  refine kd_objInit d_X2_init_1 wo_X2_3 (Nat.le_of_ble_eq_true rfl) (Nat.le_of_ble_eq_true rfl) ?_
  refine kd_aload d_X2_init_4 rfl ?_
  refine kd_const (v := 256) d_X2_init_5 ?_
  refine kd_newarr (N := 256) d_X2_init_8 kd_wai (by decide) (by decide) (by decide) (by decide +kernel) (by decide) (by decide) ?_
  refine kd_ws (ws' := [.inr (.inr (2, [.null, .null, .int 0, .int 0])), .inl (256, fun _ => 0)]) rfl ?_
  refine kd_put d_X2_init_10 wp_X2_9 rfl (by decide) (fun _ => rfl) (fun _ => rfl) ?_
  refine kd_ws (ws' := [.inr (.inr (2, [.ref 1, .null, .int 0, .int 0])), .inl (256, fun _ => 0)]) rfl ?_
  refine kd_aload d_X2_init_13 rfl ?_
  refine kd_const (v := 256) d_X2_init_14 ?_
  refine kd_newarr (N := 256) d_X2_init_17 kd_wai (by decide) (by decide) (by decide) (by decide +kernel) (by decide) (by decide) ?_
  refine kd_ws (ws' := [.inr (.inr (2, [.ref 1, .null, .int 0, .int 0])), .inl (256, fun _ => 0), .inl (256, fun _ => 0)]) rfl ?_
  refine kd_put d_X2_init_19 wp_X2_15 rfl (by decide) (fun _ => rfl) (fun _ => rfl) ?_
  refine kd_ws (ws' := [.inr (.inr (2, [.ref 1, .ref 2, .int 0, .int 0])), .inl (256, fun _ => 0), .inl (256, fun _ => 0)]) rfl ?_
  exact kd_return d_X2_init_22 rfl (by decide) (by decide)

set_option maxRecDepth 100000 in
set_option maxHeartbeats 4000000 in
theorem c_X3_init : kd_M kK_X3_init [.ref 0] [.inr (.inr (3, [.null, .int 0, .int 0]))] [.inr (.inr (3, [.ref 1, .int (-1), .int 0])), .inl (24, fun _ => 0)] 1 24 := by
  refine kd_met (ls := [some (.ref 0)]) (show plainName RX3 = true by decide +kernel) rfl (fun _ => rfl) (fun _ => Nat.le_of_ble_eq_true rfl) ?_
  refine kd_aload d_X3_init_0 rfl ?_
  refine kd_objInit d_X3_init_1 wo_X3_3 (Nat.le_of_ble_eq_true rfl) (Nat.le_of_ble_eq_true rfl) ?_
  refine kd_aload d_X3_init_4 rfl ?_
  refine kd_const (v := 24) d_X3_init_5 ?_
  refine kd_newarr (N := 24) d_X3_init_7 kd_wai (by decide) (by decide) (by decide) (by decide +kernel) (by decide) (by decide) ?_
  refine kd_ws (ws' := [.inr (.inr (3, [.null, .int 0, .int 0])), .inl (24, fun _ => 0)]) rfl ?_
  refine kd_put d_X3_init_9 wp_X3_9 rfl (by decide) (fun _ => rfl) (fun _ => rfl) ?_
  refine kd_ws (ws' := [.inr (.inr (3, [.ref 1, .int 0, .int 0])), .inl (24, fun _ => 0)]) rfl ?_
  refine kd_aload d_X3_init_12 rfl ?_
  refine kd_const (v := (-1)) d_X3_init_13 ?_
  refine kd_put d_X3_init_14 wp_X3_15 rfl (by decide) (fun _ => rfl) (fun _ => rfl) ?_
  refine kd_ws (ws' := [.inr (.inr (3, [.ref 1, .int (-1), .int 0])), .inl (24, fun _ => 0)]) rfl ?_
  exact kd_return d_X3_init_17 rfl (by decide) (by decide)

set_option maxRecDepth 100000 in
set_option maxHeartbeats 4000000 in
theorem c_X4_init : kd_M kK_X4_init [.ref 0] [.inr (.inr (4, [.null, .int 0, .int 0, .int 0, .int 0, .int 0, .int 0]))] [.inr (.inr (4, [.ref 1, .int 0, .int 0, .int 0, .int 0, .int 0, .int 0])), .inr (.inr (3, [.ref 2, .int (-1), .int 0])), .inl (24, fun _ => 0)] 2 27 := by
  refine kd_met (ls := [some (.ref 0)]) (show plainName RX4 = true by decide +kernel) rfl (fun _ => rfl) (fun _ => Nat.le_of_ble_eq_true rfl) ?_
  refine kd_aload d_X4_init_0 rfl ?_
  refine kd_objInit d_X4_init_1 wo_X4_1 (Nat.le_of_ble_eq_true rfl) (Nat.le_of_ble_eq_true rfl) ?_
  refine kd_aload d_X4_init_4 rfl ?_
  refine kd_new d_X4_init_5 wn_X4_7 (by decide +kernel) (by decide) (by decide) ?_
  refine kd_ws (ws' := [.inr (.inr (4, [.null, .int 0, .int 0, .int 0, .int 0, .int 0, .int 0])), .inr (.inr (3, [.null, .int 0, .int 0]))]) rfl ?_
  refine kd_dup d_X4_init_8 rfl ?_
  refine kd_call (t := 900) (As := []) (As2 := []) (ws' := [.inr (.inr (4, [.null, .int 0, .int 0, .int 0, .int 0, .int 0, .int 0])), .inr (.inr (3, [.ref 2, .int (-1), .int 0])), .inl (24, fun _ => 0)]) d_X4_init_9 wi_X4_9 c_X3_init rfl ⟨rfl, rfl, rfl⟩ (Or.inr rfl) rfl rfl (by decide) (by decide) (by decide +kernel) (by decide +kernel) (by decide +kernel) (by decide +kernel) (Nat.le_of_ble_eq_true rfl) rfl (Nat.le_of_ble_eq_true rfl) (by decide) (by decide) rfl ?_
  refine kd_put d_X4_init_12 wp_X4_10 rfl (by decide) (fun _ => rfl) (fun _ => rfl) ?_
  refine kd_ws (ws' := [.inr (.inr (4, [.ref 1, .int 0, .int 0, .int 0, .int 0, .int 0, .int 0])), .inr (.inr (3, [.ref 2, .int (-1), .int 0])), .inl (24, fun _ => 0)]) rfl ?_
  exact kd_return d_X4_init_15 rfl (by decide) (by decide)

set_option maxRecDepth 100000 in
set_option maxHeartbeats 4000000 in
theorem c_X5_init : kd_M kK_X5_init [.ref 0] [.inr (.inr (5, [.null, .int 0, .null, .int 0, .int 0, .int 0, .int 0, .int 0, .int 0, .int 0]))] [.inr (.inr (5, [.ref 1, .int 0, .ref 2, .int 0, .int 0, .int 0, .int 0, .int 0, .int 0, .int 0])), .inl (96, fun _ => 0), .inl (96, fun _ => 0)] 2 192 := by
  refine kd_met (ls := [some (.ref 0)]) (show plainName RX5 = true by decide +kernel) rfl (fun _ => rfl) (fun _ => Nat.le_of_ble_eq_true rfl) ?_
  refine kd_aload d_X5_init_0 rfl ?_
  refine kd_objInit d_X5_init_1 wo_X5_3 (Nat.le_of_ble_eq_true rfl) (Nat.le_of_ble_eq_true rfl) ?_
  refine kd_aload d_X5_init_4 rfl ?_
  refine kd_const (v := 96) d_X5_init_5 ?_
  refine kd_newarr (N := 96) d_X5_init_7 kd_wai (by decide) (by decide) (by decide) (by decide +kernel) (by decide) (by decide) ?_
  refine kd_ws (ws' := [.inr (.inr (5, [.null, .int 0, .null, .int 0, .int 0, .int 0, .int 0, .int 0, .int 0, .int 0])), .inl (96, fun _ => 0)]) rfl ?_
  refine kd_put d_X5_init_9 wp_X5_9 rfl (by decide) (fun _ => rfl) (fun _ => rfl) ?_
  refine kd_ws (ws' := [.inr (.inr (5, [.ref 1, .int 0, .null, .int 0, .int 0, .int 0, .int 0, .int 0, .int 0, .int 0])), .inl (96, fun _ => 0)]) rfl ?_
  refine kd_aload d_X5_init_12 rfl ?_
  refine kd_const (v := 96) d_X5_init_13 ?_
  refine kd_newarr (N := 96) d_X5_init_15 kd_wai (by decide) (by decide) (by decide) (by decide +kernel) (by decide) (by decide) ?_
  refine kd_ws (ws' := [.inr (.inr (5, [.ref 1, .int 0, .null, .int 0, .int 0, .int 0, .int 0, .int 0, .int 0, .int 0])), .inl (96, fun _ => 0), .inl (96, fun _ => 0)]) rfl ?_
  refine kd_put d_X5_init_17 wp_X5_15 rfl (by decide) (fun _ => rfl) (fun _ => rfl) ?_
  refine kd_ws (ws' := [.inr (.inr (5, [.ref 1, .int 0, .ref 2, .int 0, .int 0, .int 0, .int 0, .int 0, .int 0, .int 0])), .inl (96, fun _ => 0), .inl (96, fun _ => 0)]) rfl ?_
  exact kd_return d_X5_init_20 rfl (by decide) (by decide)

set_option maxRecDepth 100000 in
set_option maxHeartbeats 4000000 in
theorem c_X6_init : kd_M kK_X6_init [.ref 0] [.inr (.inr (6, [.null, .int 0, .int 0, .int 0]))] [.inr (.inr (6, [.ref 1, .int 0, .int 0, .int 0])), .inl (96, fun _ => 0)] 1 96 := by
  refine kd_met (ls := [some (.ref 0)]) (show plainName RX6 = true by decide +kernel) rfl (fun _ => rfl) (fun _ => Nat.le_of_ble_eq_true rfl) ?_
  refine kd_aload d_X6_init_0 rfl ?_
  refine kd_objInit d_X6_init_1 wo_X6_3 (Nat.le_of_ble_eq_true rfl) (Nat.le_of_ble_eq_true rfl) ?_
  refine kd_aload d_X6_init_4 rfl ?_
  refine kd_const (v := 96) d_X6_init_5 ?_
  refine kd_newarr (N := 96) d_X6_init_7 kd_wai (by decide) (by decide) (by decide) (by decide +kernel) (by decide) (by decide) ?_
  refine kd_ws (ws' := [.inr (.inr (6, [.null, .int 0, .int 0, .int 0])), .inl (96, fun _ => 0)]) rfl ?_
  refine kd_put d_X6_init_9 wp_X6_9 rfl (by decide) (fun _ => rfl) (fun _ => rfl) ?_
  refine kd_ws (ws' := [.inr (.inr (6, [.ref 1, .int 0, .int 0, .int 0])), .inl (96, fun _ => 0)]) rfl ?_
  exact kd_return d_X6_init_12 rfl (by decide) (by decide)

set_option maxRecDepth 100000 in
set_option maxHeartbeats 4000000 in
theorem c_X7_init : kd_M kK_X7_init [.ref 0] [.inr (.inr (7, [.null, .null, .null]))] [.inr (.inr (7, [.ref 1, .ref 2, .ref 3])), .inr (.inl (6, [some 4, some 6, some 8, some 10, some 12, some 14, some 16, some 18, some 20, some 22, some 24, some 26, some 28, some 30])), .inl (96, fun _ => 0), .inl (4, fun _ => 0), .inr (.inr (6, [.ref 5, .int 0, .int 0, .int 0])), .inl (96, fun _ => 0), .inr (.inr (6, [.ref 7, .int 0, .int 0, .int 0])), .inl (96, fun _ => 0), .inr (.inr (6, [.ref 9, .int 0, .int 0, .int 0])), .inl (96, fun _ => 0), .inr (.inr (6, [.ref 11, .int 0, .int 0, .int 0])), .inl (96, fun _ => 0), .inr (.inr (6, [.ref 13, .int 0, .int 0, .int 0])), .inl (96, fun _ => 0), .inr (.inr (6, [.ref 15, .int 0, .int 0, .int 0])), .inl (96, fun _ => 0), .inr (.inr (6, [.ref 17, .int 0, .int 0, .int 0])), .inl (96, fun _ => 0), .inr (.inr (6, [.ref 19, .int 0, .int 0, .int 0])), .inl (96, fun _ => 0), .inr (.inr (6, [.ref 21, .int 0, .int 0, .int 0])), .inl (96, fun _ => 0), .inr (.inr (6, [.ref 23, .int 0, .int 0, .int 0])), .inl (96, fun _ => 0), .inr (.inr (6, [.ref 25, .int 0, .int 0, .int 0])), .inl (96, fun _ => 0), .inr (.inr (6, [.ref 27, .int 0, .int 0, .int 0])), .inl (96, fun _ => 0), .inr (.inr (6, [.ref 29, .int 0, .int 0, .int 0])), .inl (96, fun _ => 0), .inr (.inr (6, [.ref 31, .int 0, .int 0, .int 0])), .inl (96, fun _ => 0)] 31 1514 := by
  refine kd_met (ls := [some (.ref 0), none]) (show plainName RX7 = true by decide +kernel) rfl (fun _ => rfl) (fun _ => Nat.le_of_ble_eq_true rfl) ?_
  refine kd_aload d_X7_init_0 rfl ?_
  refine kd_objInit d_X7_init_1 wo_X7_3 (Nat.le_of_ble_eq_true rfl) (Nat.le_of_ble_eq_true rfl) ?_
  refine kd_aload d_X7_init_4 rfl ?_
  refine kd_const (v := 14) d_X7_init_5 ?_
  refine kd_anew (N := 14) (cc := 6) d_X7_init_7 wk_X7_9 (Or.inr (Or.inr (Or.inr ⟨rfl, rfl⟩))) (by decide) (by decide) (by decide) (by decide +kernel) (by decide) (by decide) ?_
  refine kd_ws (ws' := [.inr (.inr (7, [.null, .null, .null])), .inr (.inl (6, [none, none, none, none, none, none, none, none, none, none, none, none, none, none]))]) rfl ?_
  refine kd_put d_X7_init_10 wp_X7_11 rfl (by decide) (fun _ => rfl) (fun _ => rfl) ?_
  refine kd_ws (ws' := [.inr (.inr (7, [.ref 1, .null, .null])), .inr (.inl (6, [none, none, none, none, none, none, none, none, none, none, none, none, none, none]))]) rfl ?_
  refine kd_aload d_X7_init_13 rfl ?_
  refine kd_const (v := 96) d_X7_init_14 ?_
  refine kd_newarr (N := 96) d_X7_init_16 kd_wai (by decide) (by decide) (by decide) (by decide +kernel) (by decide) (by decide) ?_
  refine kd_ws (ws' := [.inr (.inr (7, [.ref 1, .null, .null])), .inr (.inl (6, [none, none, none, none, none, none, none, none, none, none, none, none, none, none])), .inl (96, fun _ => 0)]) rfl ?_
  refine kd_put d_X7_init_18 wp_X7_17 rfl (by decide) (fun _ => rfl) (fun _ => rfl) ?_
  refine kd_ws (ws' := [.inr (.inr (7, [.ref 1, .ref 2, .null])), .inr (.inl (6, [none, none, none, none, none, none, none, none, none, none, none, none, none, none])), .inl (96, fun _ => 0)]) rfl ?_
  refine kd_aload d_X7_init_21 rfl ?_
  refine kd_const (v := 4) d_X7_init_22 ?_
  refine kd_newarr (N := 4) d_X7_init_23 kd_wai (by decide) (by decide) (by decide) (by decide +kernel) (by decide) (by decide) ?_
  refine kd_ws (ws' := [.inr (.inr (7, [.ref 1, .ref 2, .null])), .inr (.inl (6, [none, none, none, none, none, none, none, none, none, none, none, none, none, none])), .inl (96, fun _ => 0), .inl (4, fun _ => 0)]) rfl ?_
  refine kd_put d_X7_init_25 wp_X7_21 rfl (by decide) (fun _ => rfl) (fun _ => rfl) ?_
  refine kd_ws (ws' := [.inr (.inr (7, [.ref 1, .ref 2, .ref 3])), .inr (.inl (6, [none, none, none, none, none, none, none, none, none, none, none, none, none, none])), .inl (96, fun _ => 0), .inl (4, fun _ => 0)]) rfl ?_
  refine kd_const (v := 0) d_X7_init_28 ?_
  refine kd_istore1 d_X7_init_29 (Nat.le_of_ble_eq_true rfl) kv_c1a ?_
  refine kd_iload d_X7_init_30 rfl ?_
  refine kd_const (v := 14) d_X7_init_31 ?_
  refine kd_geF (by decide) d_X7_init_33 ?_
  refine kd_aload d_X7_init_36 rfl ?_
  refine kd_get d_X7_init_37 fl_X7_11 rfl rfl ?_
  refine kd_iload d_X7_init_40 rfl ?_
  refine kd_new d_X7_init_41 wn_X7_9 (by decide +kernel) (by decide) (by decide) ?_
  refine kd_ws (ws' := [.inr (.inr (7, [.ref 1, .ref 2, .ref 3])), .inr (.inl (6, [none, none, none, none, none, none, none, none, none, none, none, none, none, none])), .inl (96, fun _ => 0), .inl (4, fun _ => 0), .inr (.inr (6, [.null, .int 0, .int 0, .int 0]))]) rfl ?_
  refine kd_dup d_X7_init_44 rfl ?_
  refine kd_call (t := 900) (As := []) (As2 := []) (ws' := [.inr (.inr (7, [.ref 1, .ref 2, .ref 3])), .inr (.inl (6, [none, none, none, none, none, none, none, none, none, none, none, none, none, none])), .inl (96, fun _ => 0), .inl (4, fun _ => 0), .inr (.inr (6, [.ref 5, .int 0, .int 0, .int 0])), .inl (96, fun _ => 0)]) d_X7_init_45 wi_X7_24 c_X6_init rfl ⟨rfl, rfl, rfl⟩ (Or.inr rfl) rfl rfl (by decide) (by decide) (by decide +kernel) (by decide +kernel) (by decide +kernel) (by decide +kernel) (Nat.le_of_ble_eq_true rfl) rfl (Nat.le_of_ble_eq_true rfl) (by decide) (by decide) rfl ?_
  refine kd_aastore (j := 0) ⟨by decide, by decide, by decide⟩ (Or.inr (Or.inr (Or.inr rfl))) d_X7_init_48 rfl rfl ?_
  refine kd_ws (ws' := [.inr (.inr (7, [.ref 1, .ref 2, .ref 3])), .inr (.inl (6, [some 4, none, none, none, none, none, none, none, none, none, none, none, none, none])), .inl (96, fun _ => 0), .inl (4, fun _ => 0), .inr (.inr (6, [.ref 5, .int 0, .int 0, .int 0])), .inl (96, fun _ => 0)]) rfl ?_
  refine kd_iinc1 (w := 1) d_X7_init_49 (by decide) (Nat.le_of_ble_eq_true rfl) kv_c1a ?_
  refine kd_goto d_X7_init_52 ?_
  refine kd_iload d_X7_init_30 rfl ?_
  refine kd_const (v := 14) d_X7_init_31 ?_
  refine kd_geF (by decide) d_X7_init_33 ?_
  refine kd_aload d_X7_init_36 rfl ?_
  refine kd_get d_X7_init_37 fl_X7_11 rfl rfl ?_
  refine kd_iload d_X7_init_40 rfl ?_
  refine kd_new d_X7_init_41 wn_X7_9 (by decide +kernel) (by decide) (by decide) ?_
  refine kd_ws (ws' := [.inr (.inr (7, [.ref 1, .ref 2, .ref 3])), .inr (.inl (6, [some 4, none, none, none, none, none, none, none, none, none, none, none, none, none])), .inl (96, fun _ => 0), .inl (4, fun _ => 0), .inr (.inr (6, [.ref 5, .int 0, .int 0, .int 0])), .inl (96, fun _ => 0), .inr (.inr (6, [.null, .int 0, .int 0, .int 0]))]) rfl ?_
  refine kd_dup d_X7_init_44 rfl ?_
  refine kd_call (t := 900) (As := []) (As2 := []) (ws' := [.inr (.inr (7, [.ref 1, .ref 2, .ref 3])), .inr (.inl (6, [some 4, none, none, none, none, none, none, none, none, none, none, none, none, none])), .inl (96, fun _ => 0), .inl (4, fun _ => 0), .inr (.inr (6, [.ref 5, .int 0, .int 0, .int 0])), .inl (96, fun _ => 0), .inr (.inr (6, [.ref 7, .int 0, .int 0, .int 0])), .inl (96, fun _ => 0)]) d_X7_init_45 wi_X7_24 c_X6_init rfl ⟨rfl, rfl, rfl⟩ (Or.inr rfl) rfl rfl (by decide) (by decide) (by decide +kernel) (by decide +kernel) (by decide +kernel) (by decide +kernel) (Nat.le_of_ble_eq_true rfl) rfl (Nat.le_of_ble_eq_true rfl) (by decide) (by decide) rfl ?_
  refine kd_aastore (j := 1) ⟨by decide, by decide, by decide⟩ (Or.inr (Or.inr (Or.inr rfl))) d_X7_init_48 rfl rfl ?_
  refine kd_ws (ws' := [.inr (.inr (7, [.ref 1, .ref 2, .ref 3])), .inr (.inl (6, [some 4, some 6, none, none, none, none, none, none, none, none, none, none, none, none])), .inl (96, fun _ => 0), .inl (4, fun _ => 0), .inr (.inr (6, [.ref 5, .int 0, .int 0, .int 0])), .inl (96, fun _ => 0), .inr (.inr (6, [.ref 7, .int 0, .int 0, .int 0])), .inl (96, fun _ => 0)]) rfl ?_
  refine kd_iinc1 (w := 2) d_X7_init_49 (by decide) (Nat.le_of_ble_eq_true rfl) kv_c1a ?_
  refine kd_goto d_X7_init_52 ?_
  refine kd_iload d_X7_init_30 rfl ?_
  refine kd_const (v := 14) d_X7_init_31 ?_
  refine kd_geF (by decide) d_X7_init_33 ?_
  refine kd_aload d_X7_init_36 rfl ?_
  refine kd_get d_X7_init_37 fl_X7_11 rfl rfl ?_
  refine kd_iload d_X7_init_40 rfl ?_
  refine kd_new d_X7_init_41 wn_X7_9 (by decide +kernel) (by decide) (by decide) ?_
  refine kd_ws (ws' := [.inr (.inr (7, [.ref 1, .ref 2, .ref 3])), .inr (.inl (6, [some 4, some 6, none, none, none, none, none, none, none, none, none, none, none, none])), .inl (96, fun _ => 0), .inl (4, fun _ => 0), .inr (.inr (6, [.ref 5, .int 0, .int 0, .int 0])), .inl (96, fun _ => 0), .inr (.inr (6, [.ref 7, .int 0, .int 0, .int 0])), .inl (96, fun _ => 0), .inr (.inr (6, [.null, .int 0, .int 0, .int 0]))]) rfl ?_
  refine kd_dup d_X7_init_44 rfl ?_
  refine kd_call (t := 900) (As := []) (As2 := []) (ws' := [.inr (.inr (7, [.ref 1, .ref 2, .ref 3])), .inr (.inl (6, [some 4, some 6, none, none, none, none, none, none, none, none, none, none, none, none])), .inl (96, fun _ => 0), .inl (4, fun _ => 0), .inr (.inr (6, [.ref 5, .int 0, .int 0, .int 0])), .inl (96, fun _ => 0), .inr (.inr (6, [.ref 7, .int 0, .int 0, .int 0])), .inl (96, fun _ => 0), .inr (.inr (6, [.ref 9, .int 0, .int 0, .int 0])), .inl (96, fun _ => 0)]) d_X7_init_45 wi_X7_24 c_X6_init rfl ⟨rfl, rfl, rfl⟩ (Or.inr rfl) rfl rfl (by decide) (by decide) (by decide +kernel) (by decide +kernel) (by decide +kernel) (by decide +kernel) (Nat.le_of_ble_eq_true rfl) rfl (Nat.le_of_ble_eq_true rfl) (by decide) (by decide) rfl ?_
  refine kd_aastore (j := 2) ⟨by decide, by decide, by decide⟩ (Or.inr (Or.inr (Or.inr rfl))) d_X7_init_48 rfl rfl ?_
  refine kd_ws (ws' := [.inr (.inr (7, [.ref 1, .ref 2, .ref 3])), .inr (.inl (6, [some 4, some 6, some 8, none, none, none, none, none, none, none, none, none, none, none])), .inl (96, fun _ => 0), .inl (4, fun _ => 0), .inr (.inr (6, [.ref 5, .int 0, .int 0, .int 0])), .inl (96, fun _ => 0), .inr (.inr (6, [.ref 7, .int 0, .int 0, .int 0])), .inl (96, fun _ => 0), .inr (.inr (6, [.ref 9, .int 0, .int 0, .int 0])), .inl (96, fun _ => 0)]) rfl ?_
  refine kd_iinc1 (w := 3) d_X7_init_49 (by decide) (Nat.le_of_ble_eq_true rfl) kv_c1a ?_
  refine kd_goto d_X7_init_52 ?_
  refine kd_iload d_X7_init_30 rfl ?_
  refine kd_const (v := 14) d_X7_init_31 ?_
  refine kd_geF (by decide) d_X7_init_33 ?_
  refine kd_aload d_X7_init_36 rfl ?_
  refine kd_get d_X7_init_37 fl_X7_11 rfl rfl ?_
  refine kd_iload d_X7_init_40 rfl ?_
  refine kd_new d_X7_init_41 wn_X7_9 (by decide +kernel) (by decide) (by decide) ?_
  refine kd_ws (ws' := [.inr (.inr (7, [.ref 1, .ref 2, .ref 3])), .inr (.inl (6, [some 4, some 6, some 8, none, none, none, none, none, none, none, none, none, none, none])), .inl (96, fun _ => 0), .inl (4, fun _ => 0), .inr (.inr (6, [.ref 5, .int 0, .int 0, .int 0])), .inl (96, fun _ => 0), .inr (.inr (6, [.ref 7, .int 0, .int 0, .int 0])), .inl (96, fun _ => 0), .inr (.inr (6, [.ref 9, .int 0, .int 0, .int 0])), .inl (96, fun _ => 0), .inr (.inr (6, [.null, .int 0, .int 0, .int 0]))]) rfl ?_
  refine kd_dup d_X7_init_44 rfl ?_
  refine kd_call (t := 900) (As := []) (As2 := []) (ws' := [.inr (.inr (7, [.ref 1, .ref 2, .ref 3])), .inr (.inl (6, [some 4, some 6, some 8, none, none, none, none, none, none, none, none, none, none, none])), .inl (96, fun _ => 0), .inl (4, fun _ => 0), .inr (.inr (6, [.ref 5, .int 0, .int 0, .int 0])), .inl (96, fun _ => 0), .inr (.inr (6, [.ref 7, .int 0, .int 0, .int 0])), .inl (96, fun _ => 0), .inr (.inr (6, [.ref 9, .int 0, .int 0, .int 0])), .inl (96, fun _ => 0), .inr (.inr (6, [.ref 11, .int 0, .int 0, .int 0])), .inl (96, fun _ => 0)]) d_X7_init_45 wi_X7_24 c_X6_init rfl ⟨rfl, rfl, rfl⟩ (Or.inr rfl) rfl rfl (by decide) (by decide) (by decide +kernel) (by decide +kernel) (by decide +kernel) (by decide +kernel) (Nat.le_of_ble_eq_true rfl) rfl (Nat.le_of_ble_eq_true rfl) (by decide) (by decide) rfl ?_
  refine kd_aastore (j := 3) ⟨by decide, by decide, by decide⟩ (Or.inr (Or.inr (Or.inr rfl))) d_X7_init_48 rfl rfl ?_
  refine kd_ws (ws' := [.inr (.inr (7, [.ref 1, .ref 2, .ref 3])), .inr (.inl (6, [some 4, some 6, some 8, some 10, none, none, none, none, none, none, none, none, none, none])), .inl (96, fun _ => 0), .inl (4, fun _ => 0), .inr (.inr (6, [.ref 5, .int 0, .int 0, .int 0])), .inl (96, fun _ => 0), .inr (.inr (6, [.ref 7, .int 0, .int 0, .int 0])), .inl (96, fun _ => 0), .inr (.inr (6, [.ref 9, .int 0, .int 0, .int 0])), .inl (96, fun _ => 0), .inr (.inr (6, [.ref 11, .int 0, .int 0, .int 0])), .inl (96, fun _ => 0)]) rfl ?_
  refine kd_iinc1 (w := 4) d_X7_init_49 (by decide) (Nat.le_of_ble_eq_true rfl) kv_c1a ?_
  refine kd_goto d_X7_init_52 ?_
  refine kd_iload d_X7_init_30 rfl ?_
  refine kd_const (v := 14) d_X7_init_31 ?_
  refine kd_geF (by decide) d_X7_init_33 ?_
  refine kd_aload d_X7_init_36 rfl ?_
  refine kd_get d_X7_init_37 fl_X7_11 rfl rfl ?_
  refine kd_iload d_X7_init_40 rfl ?_
  refine kd_new d_X7_init_41 wn_X7_9 (by decide +kernel) (by decide) (by decide) ?_
  refine kd_ws (ws' := [.inr (.inr (7, [.ref 1, .ref 2, .ref 3])), .inr (.inl (6, [some 4, some 6, some 8, some 10, none, none, none, none, none, none, none, none, none, none])), .inl (96, fun _ => 0), .inl (4, fun _ => 0), .inr (.inr (6, [.ref 5, .int 0, .int 0, .int 0])), .inl (96, fun _ => 0), .inr (.inr (6, [.ref 7, .int 0, .int 0, .int 0])), .inl (96, fun _ => 0), .inr (.inr (6, [.ref 9, .int 0, .int 0, .int 0])), .inl (96, fun _ => 0), .inr (.inr (6, [.ref 11, .int 0, .int 0, .int 0])), .inl (96, fun _ => 0), .inr (.inr (6, [.null, .int 0, .int 0, .int 0]))]) rfl ?_
  refine kd_dup d_X7_init_44 rfl ?_
  refine kd_call (t := 900) (As := []) (As2 := []) (ws' := [.inr (.inr (7, [.ref 1, .ref 2, .ref 3])), .inr (.inl (6, [some 4, some 6, some 8, some 10, none, none, none, none, none, none, none, none, none, none])), .inl (96, fun _ => 0), .inl (4, fun _ => 0), .inr (.inr (6, [.ref 5, .int 0, .int 0, .int 0])), .inl (96, fun _ => 0), .inr (.inr (6, [.ref 7, .int 0, .int 0, .int 0])), .inl (96, fun _ => 0), .inr (.inr (6, [.ref 9, .int 0, .int 0, .int 0])), .inl (96, fun _ => 0), .inr (.inr (6, [.ref 11, .int 0, .int 0, .int 0])), .inl (96, fun _ => 0), .inr (.inr (6, [.ref 13, .int 0, .int 0, .int 0])), .inl (96, fun _ => 0)]) d_X7_init_45 wi_X7_24 c_X6_init rfl ⟨rfl, rfl, rfl⟩ (Or.inr rfl) rfl rfl (by decide) (by decide) (by decide +kernel) (by decide +kernel) (by decide +kernel) (by decide +kernel) (Nat.le_of_ble_eq_true rfl) rfl (Nat.le_of_ble_eq_true rfl) (by decide) (by decide) rfl ?_
  refine kd_aastore (j := 4) ⟨by decide, by decide, by decide⟩ (Or.inr (Or.inr (Or.inr rfl))) d_X7_init_48 rfl rfl ?_
  refine kd_ws (ws' := [.inr (.inr (7, [.ref 1, .ref 2, .ref 3])), .inr (.inl (6, [some 4, some 6, some 8, some 10, some 12, none, none, none, none, none, none, none, none, none])), .inl (96, fun _ => 0), .inl (4, fun _ => 0), .inr (.inr (6, [.ref 5, .int 0, .int 0, .int 0])), .inl (96, fun _ => 0), .inr (.inr (6, [.ref 7, .int 0, .int 0, .int 0])), .inl (96, fun _ => 0), .inr (.inr (6, [.ref 9, .int 0, .int 0, .int 0])), .inl (96, fun _ => 0), .inr (.inr (6, [.ref 11, .int 0, .int 0, .int 0])), .inl (96, fun _ => 0), .inr (.inr (6, [.ref 13, .int 0, .int 0, .int 0])), .inl (96, fun _ => 0)]) rfl ?_
  refine kd_iinc1 (w := 5) d_X7_init_49 (by decide) (Nat.le_of_ble_eq_true rfl) kv_c1a ?_
  refine kd_goto d_X7_init_52 ?_
  refine kd_iload d_X7_init_30 rfl ?_
  refine kd_const (v := 14) d_X7_init_31 ?_
  refine kd_geF (by decide) d_X7_init_33 ?_
  refine kd_aload d_X7_init_36 rfl ?_
  refine kd_get d_X7_init_37 fl_X7_11 rfl rfl ?_
  refine kd_iload d_X7_init_40 rfl ?_
  refine kd_new d_X7_init_41 wn_X7_9 (by decide +kernel) (by decide) (by decide) ?_
  refine kd_ws (ws' := [.inr (.inr (7, [.ref 1, .ref 2, .ref 3])), .inr (.inl (6, [some 4, some 6, some 8, some 10, some 12, none, none, none, none, none, none, none, none, none])), .inl (96, fun _ => 0), .inl (4, fun _ => 0), .inr (.inr (6, [.ref 5, .int 0, .int 0, .int 0])), .inl (96, fun _ => 0), .inr (.inr (6, [.ref 7, .int 0, .int 0, .int 0])), .inl (96, fun _ => 0), .inr (.inr (6, [.ref 9, .int 0, .int 0, .int 0])), .inl (96, fun _ => 0), .inr (.inr (6, [.ref 11, .int 0, .int 0, .int 0])), .inl (96, fun _ => 0), .inr (.inr (6, [.ref 13, .int 0, .int 0, .int 0])), .inl (96, fun _ => 0), .inr (.inr (6, [.null, .int 0, .int 0, .int 0]))]) rfl ?_
  refine kd_dup d_X7_init_44 rfl ?_
  refine kd_call (t := 900) (As := []) (As2 := []) (ws' := [.inr (.inr (7, [.ref 1, .ref 2, .ref 3])), .inr (.inl (6, [some 4, some 6, some 8, some 10, some 12, none, none, none, none, none, none, none, none, none])), .inl (96, fun _ => 0), .inl (4, fun _ => 0), .inr (.inr (6, [.ref 5, .int 0, .int 0, .int 0])), .inl (96, fun _ => 0), .inr (.inr (6, [.ref 7, .int 0, .int 0, .int 0])), .inl (96, fun _ => 0), .inr (.inr (6, [.ref 9, .int 0, .int 0, .int 0])), .inl (96, fun _ => 0), .inr (.inr (6, [.ref 11, .int 0, .int 0, .int 0])), .inl (96, fun _ => 0), .inr (.inr (6, [.ref 13, .int 0, .int 0, .int 0])), .inl (96, fun _ => 0), .inr (.inr (6, [.ref 15, .int 0, .int 0, .int 0])), .inl (96, fun _ => 0)]) d_X7_init_45 wi_X7_24 c_X6_init rfl ⟨rfl, rfl, rfl⟩ (Or.inr rfl) rfl rfl (by decide) (by decide) (by decide +kernel) (by decide +kernel) (by decide +kernel) (by decide +kernel) (Nat.le_of_ble_eq_true rfl) rfl (Nat.le_of_ble_eq_true rfl) (by decide) (by decide) rfl ?_
  refine kd_aastore (j := 5) ⟨by decide, by decide, by decide⟩ (Or.inr (Or.inr (Or.inr rfl))) d_X7_init_48 rfl rfl ?_
  refine kd_ws (ws' := [.inr (.inr (7, [.ref 1, .ref 2, .ref 3])), .inr (.inl (6, [some 4, some 6, some 8, some 10, some 12, some 14, none, none, none, none, none, none, none, none])), .inl (96, fun _ => 0), .inl (4, fun _ => 0), .inr (.inr (6, [.ref 5, .int 0, .int 0, .int 0])), .inl (96, fun _ => 0), .inr (.inr (6, [.ref 7, .int 0, .int 0, .int 0])), .inl (96, fun _ => 0), .inr (.inr (6, [.ref 9, .int 0, .int 0, .int 0])), .inl (96, fun _ => 0), .inr (.inr (6, [.ref 11, .int 0, .int 0, .int 0])), .inl (96, fun _ => 0), .inr (.inr (6, [.ref 13, .int 0, .int 0, .int 0])), .inl (96, fun _ => 0), .inr (.inr (6, [.ref 15, .int 0, .int 0, .int 0])), .inl (96, fun _ => 0)]) rfl ?_
  refine kd_iinc1 (w := 6) d_X7_init_49 (by decide) (Nat.le_of_ble_eq_true rfl) kv_c1a ?_
  refine kd_goto d_X7_init_52 ?_
  refine kd_iload d_X7_init_30 rfl ?_
  refine kd_const (v := 14) d_X7_init_31 ?_
  refine kd_geF (by decide) d_X7_init_33 ?_
  refine kd_aload d_X7_init_36 rfl ?_
  refine kd_get d_X7_init_37 fl_X7_11 rfl rfl ?_
  refine kd_iload d_X7_init_40 rfl ?_
  refine kd_new d_X7_init_41 wn_X7_9 (by decide +kernel) (by decide) (by decide) ?_
  refine kd_ws (ws' := [.inr (.inr (7, [.ref 1, .ref 2, .ref 3])), .inr (.inl (6, [some 4, some 6, some 8, some 10, some 12, some 14, none, none, none, none, none, none, none, none])), .inl (96, fun _ => 0), .inl (4, fun _ => 0), .inr (.inr (6, [.ref 5, .int 0, .int 0, .int 0])), .inl (96, fun _ => 0), .inr (.inr (6, [.ref 7, .int 0, .int 0, .int 0])), .inl (96, fun _ => 0), .inr (.inr (6, [.ref 9, .int 0, .int 0, .int 0])), .inl (96, fun _ => 0), .inr (.inr (6, [.ref 11, .int 0, .int 0, .int 0])), .inl (96, fun _ => 0), .inr (.inr (6, [.ref 13, .int 0, .int 0, .int 0])), .inl (96, fun _ => 0), .inr (.inr (6, [.ref 15, .int 0, .int 0, .int 0])), .inl (96, fun _ => 0), .inr (.inr (6, [.null, .int 0, .int 0, .int 0]))]) rfl ?_
  refine kd_dup d_X7_init_44 rfl ?_
  refine kd_call (t := 900) (As := []) (As2 := []) (ws' := [.inr (.inr (7, [.ref 1, .ref 2, .ref 3])), .inr (.inl (6, [some 4, some 6, some 8, some 10, some 12, some 14, none, none, none, none, none, none, none, none])), .inl (96, fun _ => 0), .inl (4, fun _ => 0), .inr (.inr (6, [.ref 5, .int 0, .int 0, .int 0])), .inl (96, fun _ => 0), .inr (.inr (6, [.ref 7, .int 0, .int 0, .int 0])), .inl (96, fun _ => 0), .inr (.inr (6, [.ref 9, .int 0, .int 0, .int 0])), .inl (96, fun _ => 0), .inr (.inr (6, [.ref 11, .int 0, .int 0, .int 0])), .inl (96, fun _ => 0), .inr (.inr (6, [.ref 13, .int 0, .int 0, .int 0])), .inl (96, fun _ => 0), .inr (.inr (6, [.ref 15, .int 0, .int 0, .int 0])), .inl (96, fun _ => 0), .inr (.inr (6, [.ref 17, .int 0, .int 0, .int 0])), .inl (96, fun _ => 0)]) d_X7_init_45 wi_X7_24 c_X6_init rfl ⟨rfl, rfl, rfl⟩ (Or.inr rfl) rfl rfl (by decide) (by decide) (by decide +kernel) (by decide +kernel) (by decide +kernel) (by decide +kernel) (Nat.le_of_ble_eq_true rfl) rfl (Nat.le_of_ble_eq_true rfl) (by decide) (by decide) rfl ?_
  refine kd_aastore (j := 6) ⟨by decide, by decide, by decide⟩ (Or.inr (Or.inr (Or.inr rfl))) d_X7_init_48 rfl rfl ?_
  refine kd_ws (ws' := [.inr (.inr (7, [.ref 1, .ref 2, .ref 3])), .inr (.inl (6, [some 4, some 6, some 8, some 10, some 12, some 14, some 16, none, none, none, none, none, none, none])), .inl (96, fun _ => 0), .inl (4, fun _ => 0), .inr (.inr (6, [.ref 5, .int 0, .int 0, .int 0])), .inl (96, fun _ => 0), .inr (.inr (6, [.ref 7, .int 0, .int 0, .int 0])), .inl (96, fun _ => 0), .inr (.inr (6, [.ref 9, .int 0, .int 0, .int 0])), .inl (96, fun _ => 0), .inr (.inr (6, [.ref 11, .int 0, .int 0, .int 0])), .inl (96, fun _ => 0), .inr (.inr (6, [.ref 13, .int 0, .int 0, .int 0])), .inl (96, fun _ => 0), .inr (.inr (6, [.ref 15, .int 0, .int 0, .int 0])), .inl (96, fun _ => 0), .inr (.inr (6, [.ref 17, .int 0, .int 0, .int 0])), .inl (96, fun _ => 0)]) rfl ?_
  refine kd_iinc1 (w := 7) d_X7_init_49 (by decide) (Nat.le_of_ble_eq_true rfl) kv_c1a ?_
  refine kd_goto d_X7_init_52 ?_
  refine kd_iload d_X7_init_30 rfl ?_
  refine kd_const (v := 14) d_X7_init_31 ?_
  refine kd_geF (by decide) d_X7_init_33 ?_
  refine kd_aload d_X7_init_36 rfl ?_
  refine kd_get d_X7_init_37 fl_X7_11 rfl rfl ?_
  refine kd_iload d_X7_init_40 rfl ?_
  refine kd_new d_X7_init_41 wn_X7_9 (by decide +kernel) (by decide) (by decide) ?_
  refine kd_ws (ws' := [.inr (.inr (7, [.ref 1, .ref 2, .ref 3])), .inr (.inl (6, [some 4, some 6, some 8, some 10, some 12, some 14, some 16, none, none, none, none, none, none, none])), .inl (96, fun _ => 0), .inl (4, fun _ => 0), .inr (.inr (6, [.ref 5, .int 0, .int 0, .int 0])), .inl (96, fun _ => 0), .inr (.inr (6, [.ref 7, .int 0, .int 0, .int 0])), .inl (96, fun _ => 0), .inr (.inr (6, [.ref 9, .int 0, .int 0, .int 0])), .inl (96, fun _ => 0), .inr (.inr (6, [.ref 11, .int 0, .int 0, .int 0])), .inl (96, fun _ => 0), .inr (.inr (6, [.ref 13, .int 0, .int 0, .int 0])), .inl (96, fun _ => 0), .inr (.inr (6, [.ref 15, .int 0, .int 0, .int 0])), .inl (96, fun _ => 0), .inr (.inr (6, [.ref 17, .int 0, .int 0, .int 0])), .inl (96, fun _ => 0), .inr (.inr (6, [.null, .int 0, .int 0, .int 0]))]) rfl ?_
  refine kd_dup d_X7_init_44 rfl ?_
  refine kd_call (t := 900) (As := []) (As2 := []) (ws' := [.inr (.inr (7, [.ref 1, .ref 2, .ref 3])), .inr (.inl (6, [some 4, some 6, some 8, some 10, some 12, some 14, some 16, none, none, none, none, none, none, none])), .inl (96, fun _ => 0), .inl (4, fun _ => 0), .inr (.inr (6, [.ref 5, .int 0, .int 0, .int 0])), .inl (96, fun _ => 0), .inr (.inr (6, [.ref 7, .int 0, .int 0, .int 0])), .inl (96, fun _ => 0), .inr (.inr (6, [.ref 9, .int 0, .int 0, .int 0])), .inl (96, fun _ => 0), .inr (.inr (6, [.ref 11, .int 0, .int 0, .int 0])), .inl (96, fun _ => 0), .inr (.inr (6, [.ref 13, .int 0, .int 0, .int 0])), .inl (96, fun _ => 0), .inr (.inr (6, [.ref 15, .int 0, .int 0, .int 0])), .inl (96, fun _ => 0), .inr (.inr (6, [.ref 17, .int 0, .int 0, .int 0])), .inl (96, fun _ => 0), .inr (.inr (6, [.ref 19, .int 0, .int 0, .int 0])), .inl (96, fun _ => 0)]) d_X7_init_45 wi_X7_24 c_X6_init rfl ⟨rfl, rfl, rfl⟩ (Or.inr rfl) rfl rfl (by decide) (by decide) (by decide +kernel) (by decide +kernel) (by decide +kernel) (by decide +kernel) (Nat.le_of_ble_eq_true rfl) rfl (Nat.le_of_ble_eq_true rfl) (by decide) (by decide) rfl ?_
  refine kd_aastore (j := 7) ⟨by decide, by decide, by decide⟩ (Or.inr (Or.inr (Or.inr rfl))) d_X7_init_48 rfl rfl ?_
  refine kd_ws (ws' := [.inr (.inr (7, [.ref 1, .ref 2, .ref 3])), .inr (.inl (6, [some 4, some 6, some 8, some 10, some 12, some 14, some 16, some 18, none, none, none, none, none, none])), .inl (96, fun _ => 0), .inl (4, fun _ => 0), .inr (.inr (6, [.ref 5, .int 0, .int 0, .int 0])), .inl (96, fun _ => 0), .inr (.inr (6, [.ref 7, .int 0, .int 0, .int 0])), .inl (96, fun _ => 0), .inr (.inr (6, [.ref 9, .int 0, .int 0, .int 0])), .inl (96, fun _ => 0), .inr (.inr (6, [.ref 11, .int 0, .int 0, .int 0])), .inl (96, fun _ => 0), .inr (.inr (6, [.ref 13, .int 0, .int 0, .int 0])), .inl (96, fun _ => 0), .inr (.inr (6, [.ref 15, .int 0, .int 0, .int 0])), .inl (96, fun _ => 0), .inr (.inr (6, [.ref 17, .int 0, .int 0, .int 0])), .inl (96, fun _ => 0), .inr (.inr (6, [.ref 19, .int 0, .int 0, .int 0])), .inl (96, fun _ => 0)]) rfl ?_
  refine kd_iinc1 (w := 8) d_X7_init_49 (by decide) (Nat.le_of_ble_eq_true rfl) kv_c1a ?_
  refine kd_goto d_X7_init_52 ?_
  refine kd_iload d_X7_init_30 rfl ?_
  refine kd_const (v := 14) d_X7_init_31 ?_
  refine kd_geF (by decide) d_X7_init_33 ?_
  refine kd_aload d_X7_init_36 rfl ?_
  refine kd_get d_X7_init_37 fl_X7_11 rfl rfl ?_
  refine kd_iload d_X7_init_40 rfl ?_
  refine kd_new d_X7_init_41 wn_X7_9 (by decide +kernel) (by decide) (by decide) ?_
  refine kd_ws (ws' := [.inr (.inr (7, [.ref 1, .ref 2, .ref 3])), .inr (.inl (6, [some 4, some 6, some 8, some 10, some 12, some 14, some 16, some 18, none, none, none, none, none, none])), .inl (96, fun _ => 0), .inl (4, fun _ => 0), .inr (.inr (6, [.ref 5, .int 0, .int 0, .int 0])), .inl (96, fun _ => 0), .inr (.inr (6, [.ref 7, .int 0, .int 0, .int 0])), .inl (96, fun _ => 0), .inr (.inr (6, [.ref 9, .int 0, .int 0, .int 0])), .inl (96, fun _ => 0), .inr (.inr (6, [.ref 11, .int 0, .int 0, .int 0])), .inl (96, fun _ => 0), .inr (.inr (6, [.ref 13, .int 0, .int 0, .int 0])), .inl (96, fun _ => 0), .inr (.inr (6, [.ref 15, .int 0, .int 0, .int 0])), .inl (96, fun _ => 0), .inr (.inr (6, [.ref 17, .int 0, .int 0, .int 0])), .inl (96, fun _ => 0), .inr (.inr (6, [.ref 19, .int 0, .int 0, .int 0])), .inl (96, fun _ => 0), .inr (.inr (6, [.null, .int 0, .int 0, .int 0]))]) rfl ?_
  refine kd_dup d_X7_init_44 rfl ?_
  refine kd_call (t := 900) (As := []) (As2 := []) (ws' := [.inr (.inr (7, [.ref 1, .ref 2, .ref 3])), .inr (.inl (6, [some 4, some 6, some 8, some 10, some 12, some 14, some 16, some 18, none, none, none, none, none, none])), .inl (96, fun _ => 0), .inl (4, fun _ => 0), .inr (.inr (6, [.ref 5, .int 0, .int 0, .int 0])), .inl (96, fun _ => 0), .inr (.inr (6, [.ref 7, .int 0, .int 0, .int 0])), .inl (96, fun _ => 0), .inr (.inr (6, [.ref 9, .int 0, .int 0, .int 0])), .inl (96, fun _ => 0), .inr (.inr (6, [.ref 11, .int 0, .int 0, .int 0])), .inl (96, fun _ => 0), .inr (.inr (6, [.ref 13, .int 0, .int 0, .int 0])), .inl (96, fun _ => 0), .inr (.inr (6, [.ref 15, .int 0, .int 0, .int 0])), .inl (96, fun _ => 0), .inr (.inr (6, [.ref 17, .int 0, .int 0, .int 0])), .inl (96, fun _ => 0), .inr (.inr (6, [.ref 19, .int 0, .int 0, .int 0])), .inl (96, fun _ => 0), .inr (.inr (6, [.ref 21, .int 0, .int 0, .int 0])), .inl (96, fun _ => 0)]) d_X7_init_45 wi_X7_24 c_X6_init rfl ⟨rfl, rfl, rfl⟩ (Or.inr rfl) rfl rfl (by decide) (by decide) (by decide +kernel) (by decide +kernel) (by decide +kernel) (by decide +kernel) (Nat.le_of_ble_eq_true rfl) rfl (Nat.le_of_ble_eq_true rfl) (by decide) (by decide) rfl ?_
  refine kd_aastore (j := 8) ⟨by decide, by decide, by decide⟩ (Or.inr (Or.inr (Or.inr rfl))) d_X7_init_48 rfl rfl ?_
  refine kd_ws (ws' := [.inr (.inr (7, [.ref 1, .ref 2, .ref 3])), .inr (.inl (6, [some 4, some 6, some 8, some 10, some 12, some 14, some 16, some 18, some 20, none, none, none, none, none])), .inl (96, fun _ => 0), .inl (4, fun _ => 0), .inr (.inr (6, [.ref 5, .int 0, .int 0, .int 0])), .inl (96, fun _ => 0), .inr (.inr (6, [.ref 7, .int 0, .int 0, .int 0])), .inl (96, fun _ => 0), .inr (.inr (6, [.ref 9, .int 0, .int 0, .int 0])), .inl (96, fun _ => 0), .inr (.inr (6, [.ref 11, .int 0, .int 0, .int 0])), .inl (96, fun _ => 0), .inr (.inr (6, [.ref 13, .int 0, .int 0, .int 0])), .inl (96, fun _ => 0), .inr (.inr (6, [.ref 15, .int 0, .int 0, .int 0])), .inl (96, fun _ => 0), .inr (.inr (6, [.ref 17, .int 0, .int 0, .int 0])), .inl (96, fun _ => 0), .inr (.inr (6, [.ref 19, .int 0, .int 0, .int 0])), .inl (96, fun _ => 0), .inr (.inr (6, [.ref 21, .int 0, .int 0, .int 0])), .inl (96, fun _ => 0)]) rfl ?_
  refine kd_iinc1 (w := 9) d_X7_init_49 (by decide) (Nat.le_of_ble_eq_true rfl) kv_c1a ?_
  refine kd_goto d_X7_init_52 ?_
  refine kd_iload d_X7_init_30 rfl ?_
  refine kd_const (v := 14) d_X7_init_31 ?_
  refine kd_geF (by decide) d_X7_init_33 ?_
  refine kd_aload d_X7_init_36 rfl ?_
  refine kd_get d_X7_init_37 fl_X7_11 rfl rfl ?_
  refine kd_iload d_X7_init_40 rfl ?_
  refine kd_new d_X7_init_41 wn_X7_9 (by decide +kernel) (by decide) (by decide) ?_
  refine kd_ws (ws' := [.inr (.inr (7, [.ref 1, .ref 2, .ref 3])), .inr (.inl (6, [some 4, some 6, some 8, some 10, some 12, some 14, some 16, some 18, some 20, none, none, none, none, none])), .inl (96, fun _ => 0), .inl (4, fun _ => 0), .inr (.inr (6, [.ref 5, .int 0, .int 0, .int 0])), .inl (96, fun _ => 0), .inr (.inr (6, [.ref 7, .int 0, .int 0, .int 0])), .inl (96, fun _ => 0), .inr (.inr (6, [.ref 9, .int 0, .int 0, .int 0])), .inl (96, fun _ => 0), .inr (.inr (6, [.ref 11, .int 0, .int 0, .int 0])), .inl (96, fun _ => 0), .inr (.inr (6, [.ref 13, .int 0, .int 0, .int 0])), .inl (96, fun _ => 0), .inr (.inr (6, [.ref 15, .int 0, .int 0, .int 0])), .inl (96, fun _ => 0), .inr (.inr (6, [.ref 17, .int 0, .int 0, .int 0])), .inl (96, fun _ => 0), .inr (.inr (6, [.ref 19, .int 0, .int 0, .int 0])), .inl (96, fun _ => 0), .inr (.inr (6, [.ref 21, .int 0, .int 0, .int 0])), .inl (96, fun _ => 0), .inr (.inr (6, [.null, .int 0, .int 0, .int 0]))]) rfl ?_
  refine kd_dup d_X7_init_44 rfl ?_
  refine kd_call (t := 900) (As := []) (As2 := []) (ws' := [.inr (.inr (7, [.ref 1, .ref 2, .ref 3])), .inr (.inl (6, [some 4, some 6, some 8, some 10, some 12, some 14, some 16, some 18, some 20, none, none, none, none, none])), .inl (96, fun _ => 0), .inl (4, fun _ => 0), .inr (.inr (6, [.ref 5, .int 0, .int 0, .int 0])), .inl (96, fun _ => 0), .inr (.inr (6, [.ref 7, .int 0, .int 0, .int 0])), .inl (96, fun _ => 0), .inr (.inr (6, [.ref 9, .int 0, .int 0, .int 0])), .inl (96, fun _ => 0), .inr (.inr (6, [.ref 11, .int 0, .int 0, .int 0])), .inl (96, fun _ => 0), .inr (.inr (6, [.ref 13, .int 0, .int 0, .int 0])), .inl (96, fun _ => 0), .inr (.inr (6, [.ref 15, .int 0, .int 0, .int 0])), .inl (96, fun _ => 0), .inr (.inr (6, [.ref 17, .int 0, .int 0, .int 0])), .inl (96, fun _ => 0), .inr (.inr (6, [.ref 19, .int 0, .int 0, .int 0])), .inl (96, fun _ => 0), .inr (.inr (6, [.ref 21, .int 0, .int 0, .int 0])), .inl (96, fun _ => 0), .inr (.inr (6, [.ref 23, .int 0, .int 0, .int 0])), .inl (96, fun _ => 0)]) d_X7_init_45 wi_X7_24 c_X6_init rfl ⟨rfl, rfl, rfl⟩ (Or.inr rfl) rfl rfl (by decide) (by decide) (by decide +kernel) (by decide +kernel) (by decide +kernel) (by decide +kernel) (Nat.le_of_ble_eq_true rfl) rfl (Nat.le_of_ble_eq_true rfl) (by decide) (by decide) rfl ?_
  refine kd_aastore (j := 9) ⟨by decide, by decide, by decide⟩ (Or.inr (Or.inr (Or.inr rfl))) d_X7_init_48 rfl rfl ?_
  refine kd_ws (ws' := [.inr (.inr (7, [.ref 1, .ref 2, .ref 3])), .inr (.inl (6, [some 4, some 6, some 8, some 10, some 12, some 14, some 16, some 18, some 20, some 22, none, none, none, none])), .inl (96, fun _ => 0), .inl (4, fun _ => 0), .inr (.inr (6, [.ref 5, .int 0, .int 0, .int 0])), .inl (96, fun _ => 0), .inr (.inr (6, [.ref 7, .int 0, .int 0, .int 0])), .inl (96, fun _ => 0), .inr (.inr (6, [.ref 9, .int 0, .int 0, .int 0])), .inl (96, fun _ => 0), .inr (.inr (6, [.ref 11, .int 0, .int 0, .int 0])), .inl (96, fun _ => 0), .inr (.inr (6, [.ref 13, .int 0, .int 0, .int 0])), .inl (96, fun _ => 0), .inr (.inr (6, [.ref 15, .int 0, .int 0, .int 0])), .inl (96, fun _ => 0), .inr (.inr (6, [.ref 17, .int 0, .int 0, .int 0])), .inl (96, fun _ => 0), .inr (.inr (6, [.ref 19, .int 0, .int 0, .int 0])), .inl (96, fun _ => 0), .inr (.inr (6, [.ref 21, .int 0, .int 0, .int 0])), .inl (96, fun _ => 0), .inr (.inr (6, [.ref 23, .int 0, .int 0, .int 0])), .inl (96, fun _ => 0)]) rfl ?_
  refine kd_iinc1 (w := 10) d_X7_init_49 (by decide) (Nat.le_of_ble_eq_true rfl) kv_c1a ?_
  refine kd_goto d_X7_init_52 ?_
  refine kd_iload d_X7_init_30 rfl ?_
  refine kd_const (v := 14) d_X7_init_31 ?_
  refine kd_geF (by decide) d_X7_init_33 ?_
  refine kd_aload d_X7_init_36 rfl ?_
  refine kd_get d_X7_init_37 fl_X7_11 rfl rfl ?_
  refine kd_iload d_X7_init_40 rfl ?_
  refine kd_new d_X7_init_41 wn_X7_9 (by decide +kernel) (by decide) (by decide) ?_
  refine kd_ws (ws' := [.inr (.inr (7, [.ref 1, .ref 2, .ref 3])), .inr (.inl (6, [some 4, some 6, some 8, some 10, some 12, some 14, some 16, some 18, some 20, some 22, none, none, none, none])), .inl (96, fun _ => 0), .inl (4, fun _ => 0), .inr (.inr (6, [.ref 5, .int 0, .int 0, .int 0])), .inl (96, fun _ => 0), .inr (.inr (6, [.ref 7, .int 0, .int 0, .int 0])), .inl (96, fun _ => 0), .inr (.inr (6, [.ref 9, .int 0, .int 0, .int 0])), .inl (96, fun _ => 0), .inr (.inr (6, [.ref 11, .int 0, .int 0, .int 0])), .inl (96, fun _ => 0), .inr (.inr (6, [.ref 13, .int 0, .int 0, .int 0])), .inl (96, fun _ => 0), .inr (.inr (6, [.ref 15, .int 0, .int 0, .int 0])), .inl (96, fun _ => 0), .inr (.inr (6, [.ref 17, .int 0, .int 0, .int 0])), .inl (96, fun _ => 0), .inr (.inr (6, [.ref 19, .int 0, .int 0, .int 0])), .inl (96, fun _ => 0), .inr (.inr (6, [.ref 21, .int 0, .int 0, .int 0])), .inl (96, fun _ => 0), .inr (.inr (6, [.ref 23, .int 0, .int 0, .int 0])), .inl (96, fun _ => 0), .inr (.inr (6, [.null, .int 0, .int 0, .int 0]))]) rfl ?_
  refine kd_dup d_X7_init_44 rfl ?_
  refine kd_call (t := 900) (As := []) (As2 := []) (ws' := [.inr (.inr (7, [.ref 1, .ref 2, .ref 3])), .inr (.inl (6, [some 4, some 6, some 8, some 10, some 12, some 14, some 16, some 18, some 20, some 22, none, none, none, none])), .inl (96, fun _ => 0), .inl (4, fun _ => 0), .inr (.inr (6, [.ref 5, .int 0, .int 0, .int 0])), .inl (96, fun _ => 0), .inr (.inr (6, [.ref 7, .int 0, .int 0, .int 0])), .inl (96, fun _ => 0), .inr (.inr (6, [.ref 9, .int 0, .int 0, .int 0])), .inl (96, fun _ => 0), .inr (.inr (6, [.ref 11, .int 0, .int 0, .int 0])), .inl (96, fun _ => 0), .inr (.inr (6, [.ref 13, .int 0, .int 0, .int 0])), .inl (96, fun _ => 0), .inr (.inr (6, [.ref 15, .int 0, .int 0, .int 0])), .inl (96, fun _ => 0), .inr (.inr (6, [.ref 17, .int 0, .int 0, .int 0])), .inl (96, fun _ => 0), .inr (.inr (6, [.ref 19, .int 0, .int 0, .int 0])), .inl (96, fun _ => 0), .inr (.inr (6, [.ref 21, .int 0, .int 0, .int 0])), .inl (96, fun _ => 0), .inr (.inr (6, [.ref 23, .int 0, .int 0, .int 0])), .inl (96, fun _ => 0), .inr (.inr (6, [.ref 25, .int 0, .int 0, .int 0])), .inl (96, fun _ => 0)]) d_X7_init_45 wi_X7_24 c_X6_init rfl ⟨rfl, rfl, rfl⟩ (Or.inr rfl) rfl rfl (by decide) (by decide) (by decide +kernel) (by decide +kernel) (by decide +kernel) (by decide +kernel) (Nat.le_of_ble_eq_true rfl) rfl (Nat.le_of_ble_eq_true rfl) (by decide) (by decide) rfl ?_
  refine kd_aastore (j := 10) ⟨by decide, by decide, by decide⟩ (Or.inr (Or.inr (Or.inr rfl))) d_X7_init_48 rfl rfl ?_
  refine kd_ws (ws' := [.inr (.inr (7, [.ref 1, .ref 2, .ref 3])), .inr (.inl (6, [some 4, some 6, some 8, some 10, some 12, some 14, some 16, some 18, some 20, some 22, some 24, none, none, none])), .inl (96, fun _ => 0), .inl (4, fun _ => 0), .inr (.inr (6, [.ref 5, .int 0, .int 0, .int 0])), .inl (96, fun _ => 0), .inr (.inr (6, [.ref 7, .int 0, .int 0, .int 0])), .inl (96, fun _ => 0), .inr (.inr (6, [.ref 9, .int 0, .int 0, .int 0])), .inl (96, fun _ => 0), .inr (.inr (6, [.ref 11, .int 0, .int 0, .int 0])), .inl (96, fun _ => 0), .inr (.inr (6, [.ref 13, .int 0, .int 0, .int 0])), .inl (96, fun _ => 0), .inr (.inr (6, [.ref 15, .int 0, .int 0, .int 0])), .inl (96, fun _ => 0), .inr (.inr (6, [.ref 17, .int 0, .int 0, .int 0])), .inl (96, fun _ => 0), .inr (.inr (6, [.ref 19, .int 0, .int 0, .int 0])), .inl (96, fun _ => 0), .inr (.inr (6, [.ref 21, .int 0, .int 0, .int 0])), .inl (96, fun _ => 0), .inr (.inr (6, [.ref 23, .int 0, .int 0, .int 0])), .inl (96, fun _ => 0), .inr (.inr (6, [.ref 25, .int 0, .int 0, .int 0])), .inl (96, fun _ => 0)]) rfl ?_
  refine kd_iinc1 (w := 11) d_X7_init_49 (by decide) (Nat.le_of_ble_eq_true rfl) kv_c1a ?_
  refine kd_goto d_X7_init_52 ?_
  refine kd_iload d_X7_init_30 rfl ?_
  refine kd_const (v := 14) d_X7_init_31 ?_
  refine kd_geF (by decide) d_X7_init_33 ?_
  refine kd_aload d_X7_init_36 rfl ?_
  refine kd_get d_X7_init_37 fl_X7_11 rfl rfl ?_
  refine kd_iload d_X7_init_40 rfl ?_
  refine kd_new d_X7_init_41 wn_X7_9 (by decide +kernel) (by decide) (by decide) ?_
  refine kd_ws (ws' := [.inr (.inr (7, [.ref 1, .ref 2, .ref 3])), .inr (.inl (6, [some 4, some 6, some 8, some 10, some 12, some 14, some 16, some 18, some 20, some 22, some 24, none, none, none])), .inl (96, fun _ => 0), .inl (4, fun _ => 0), .inr (.inr (6, [.ref 5, .int 0, .int 0, .int 0])), .inl (96, fun _ => 0), .inr (.inr (6, [.ref 7, .int 0, .int 0, .int 0])), .inl (96, fun _ => 0), .inr (.inr (6, [.ref 9, .int 0, .int 0, .int 0])), .inl (96, fun _ => 0), .inr (.inr (6, [.ref 11, .int 0, .int 0, .int 0])), .inl (96, fun _ => 0), .inr (.inr (6, [.ref 13, .int 0, .int 0, .int 0])), .inl (96, fun _ => 0), .inr (.inr (6, [.ref 15, .int 0, .int 0, .int 0])), .inl (96, fun _ => 0), .inr (.inr (6, [.ref 17, .int 0, .int 0, .int 0])), .inl (96, fun _ => 0), .inr (.inr (6, [.ref 19, .int 0, .int 0, .int 0])), .inl (96, fun _ => 0), .inr (.inr (6, [.ref 21, .int 0, .int 0, .int 0])), .inl (96, fun _ => 0), .inr (.inr (6, [.ref 23, .int 0, .int 0, .int 0])), .inl (96, fun _ => 0), .inr (.inr (6, [.ref 25, .int 0, .int 0, .int 0])), .inl (96, fun _ => 0), .inr (.inr (6, [.null, .int 0, .int 0, .int 0]))]) rfl ?_
  refine kd_dup d_X7_init_44 rfl ?_
  refine kd_call (t := 900) (As := []) (As2 := []) (ws' := [.inr (.inr (7, [.ref 1, .ref 2, .ref 3])), .inr (.inl (6, [some 4, some 6, some 8, some 10, some 12, some 14, some 16, some 18, some 20, some 22, some 24, none, none, none])), .inl (96, fun _ => 0), .inl (4, fun _ => 0), .inr (.inr (6, [.ref 5, .int 0, .int 0, .int 0])), .inl (96, fun _ => 0), .inr (.inr (6, [.ref 7, .int 0, .int 0, .int 0])), .inl (96, fun _ => 0), .inr (.inr (6, [.ref 9, .int 0, .int 0, .int 0])), .inl (96, fun _ => 0), .inr (.inr (6, [.ref 11, .int 0, .int 0, .int 0])), .inl (96, fun _ => 0), .inr (.inr (6, [.ref 13, .int 0, .int 0, .int 0])), .inl (96, fun _ => 0), .inr (.inr (6, [.ref 15, .int 0, .int 0, .int 0])), .inl (96, fun _ => 0), .inr (.inr (6, [.ref 17, .int 0, .int 0, .int 0])), .inl (96, fun _ => 0), .inr (.inr (6, [.ref 19, .int 0, .int 0, .int 0])), .inl (96, fun _ => 0), .inr (.inr (6, [.ref 21, .int 0, .int 0, .int 0])), .inl (96, fun _ => 0), .inr (.inr (6, [.ref 23, .int 0, .int 0, .int 0])), .inl (96, fun _ => 0), .inr (.inr (6, [.ref 25, .int 0, .int 0, .int 0])), .inl (96, fun _ => 0), .inr (.inr (6, [.ref 27, .int 0, .int 0, .int 0])), .inl (96, fun _ => 0)]) d_X7_init_45 wi_X7_24 c_X6_init rfl ⟨rfl, rfl, rfl⟩ (Or.inr rfl) rfl rfl (by decide) (by decide) (by decide +kernel) (by decide +kernel) (by decide +kernel) (by decide +kernel) (Nat.le_of_ble_eq_true rfl) rfl (Nat.le_of_ble_eq_true rfl) (by decide) (by decide) rfl ?_
  refine kd_aastore (j := 11) ⟨by decide, by decide, by decide⟩ (Or.inr (Or.inr (Or.inr rfl))) d_X7_init_48 rfl rfl ?_
  refine kd_ws (ws' := [.inr (.inr (7, [.ref 1, .ref 2, .ref 3])), .inr (.inl (6, [some 4, some 6, some 8, some 10, some 12, some 14, some 16, some 18, some 20, some 22, some 24, some 26, none, none])), .inl (96, fun _ => 0), .inl (4, fun _ => 0), .inr (.inr (6, [.ref 5, .int 0, .int 0, .int 0])), .inl (96, fun _ => 0), .inr (.inr (6, [.ref 7, .int 0, .int 0, .int 0])), .inl (96, fun _ => 0), .inr (.inr (6, [.ref 9, .int 0, .int 0, .int 0])), .inl (96, fun _ => 0), .inr (.inr (6, [.ref 11, .int 0, .int 0, .int 0])), .inl (96, fun _ => 0), .inr (.inr (6, [.ref 13, .int 0, .int 0, .int 0])), .inl (96, fun _ => 0), .inr (.inr (6, [.ref 15, .int 0, .int 0, .int 0])), .inl (96, fun _ => 0), .inr (.inr (6, [.ref 17, .int 0, .int 0, .int 0])), .inl (96, fun _ => 0), .inr (.inr (6, [.ref 19, .int 0, .int 0, .int 0])), .inl (96, fun _ => 0), .inr (.inr (6, [.ref 21, .int 0, .int 0, .int 0])), .inl (96, fun _ => 0), .inr (.inr (6, [.ref 23, .int 0, .int 0, .int 0])), .inl (96, fun _ => 0), .inr (.inr (6, [.ref 25, .int 0, .int 0, .int 0])), .inl (96, fun _ => 0), .inr (.inr (6, [.ref 27, .int 0, .int 0, .int 0])), .inl (96, fun _ => 0)]) rfl ?_
  refine kd_iinc1 (w := 12) d_X7_init_49 (by decide) (Nat.le_of_ble_eq_true rfl) kv_c1a ?_
  refine kd_goto d_X7_init_52 ?_
  refine kd_iload d_X7_init_30 rfl ?_
  refine kd_const (v := 14) d_X7_init_31 ?_
  refine kd_geF (by decide) d_X7_init_33 ?_
  refine kd_aload d_X7_init_36 rfl ?_
  refine kd_get d_X7_init_37 fl_X7_11 rfl rfl ?_
  refine kd_iload d_X7_init_40 rfl ?_
  refine kd_new d_X7_init_41 wn_X7_9 (by decide +kernel) (by decide) (by decide) ?_
  refine kd_ws (ws' := [.inr (.inr (7, [.ref 1, .ref 2, .ref 3])), .inr (.inl (6, [some 4, some 6, some 8, some 10, some 12, some 14, some 16, some 18, some 20, some 22, some 24, some 26, none, none])), .inl (96, fun _ => 0), .inl (4, fun _ => 0), .inr (.inr (6, [.ref 5, .int 0, .int 0, .int 0])), .inl (96, fun _ => 0), .inr (.inr (6, [.ref 7, .int 0, .int 0, .int 0])), .inl (96, fun _ => 0), .inr (.inr (6, [.ref 9, .int 0, .int 0, .int 0])), .inl (96, fun _ => 0), .inr (.inr (6, [.ref 11, .int 0, .int 0, .int 0])), .inl (96, fun _ => 0), .inr (.inr (6, [.ref 13, .int 0, .int 0, .int 0])), .inl (96, fun _ => 0), .inr (.inr (6, [.ref 15, .int 0, .int 0, .int 0])), .inl (96, fun _ => 0), .inr (.inr (6, [.ref 17, .int 0, .int 0, .int 0])), .inl (96, fun _ => 0), .inr (.inr (6, [.ref 19, .int 0, .int 0, .int 0])), .inl (96, fun _ => 0), .inr (.inr (6, [.ref 21, .int 0, .int 0, .int 0])), .inl (96, fun _ => 0), .inr (.inr (6, [.ref 23, .int 0, .int 0, .int 0])), .inl (96, fun _ => 0), .inr (.inr (6, [.ref 25, .int 0, .int 0, .int 0])), .inl (96, fun _ => 0), .inr (.inr (6, [.ref 27, .int 0, .int 0, .int 0])), .inl (96, fun _ => 0), .inr (.inr (6, [.null, .int 0, .int 0, .int 0]))]) rfl ?_
  refine kd_dup d_X7_init_44 rfl ?_
  refine kd_call (t := 900) (As := []) (As2 := []) (ws' := [.inr (.inr (7, [.ref 1, .ref 2, .ref 3])), .inr (.inl (6, [some 4, some 6, some 8, some 10, some 12, some 14, some 16, some 18, some 20, some 22, some 24, some 26, none, none])), .inl (96, fun _ => 0), .inl (4, fun _ => 0), .inr (.inr (6, [.ref 5, .int 0, .int 0, .int 0])), .inl (96, fun _ => 0), .inr (.inr (6, [.ref 7, .int 0, .int 0, .int 0])), .inl (96, fun _ => 0), .inr (.inr (6, [.ref 9, .int 0, .int 0, .int 0])), .inl (96, fun _ => 0), .inr (.inr (6, [.ref 11, .int 0, .int 0, .int 0])), .inl (96, fun _ => 0), .inr (.inr (6, [.ref 13, .int 0, .int 0, .int 0])), .inl (96, fun _ => 0), .inr (.inr (6, [.ref 15, .int 0, .int 0, .int 0])), .inl (96, fun _ => 0), .inr (.inr (6, [.ref 17, .int 0, .int 0, .int 0])), .inl (96, fun _ => 0), .inr (.inr (6, [.ref 19, .int 0, .int 0, .int 0])), .inl (96, fun _ => 0), .inr (.inr (6, [.ref 21, .int 0, .int 0, .int 0])), .inl (96, fun _ => 0), .inr (.inr (6, [.ref 23, .int 0, .int 0, .int 0])), .inl (96, fun _ => 0), .inr (.inr (6, [.ref 25, .int 0, .int 0, .int 0])), .inl (96, fun _ => 0), .inr (.inr (6, [.ref 27, .int 0, .int 0, .int 0])), .inl (96, fun _ => 0), .inr (.inr (6, [.ref 29, .int 0, .int 0, .int 0])), .inl (96, fun _ => 0)]) d_X7_init_45 wi_X7_24 c_X6_init rfl ⟨rfl, rfl, rfl⟩ (Or.inr rfl) rfl rfl (by decide) (by decide) (by decide +kernel) (by decide +kernel) (by decide +kernel) (by decide +kernel) (Nat.le_of_ble_eq_true rfl) rfl (Nat.le_of_ble_eq_true rfl) (by decide) (by decide) rfl ?_
  refine kd_aastore (j := 12) ⟨by decide, by decide, by decide⟩ (Or.inr (Or.inr (Or.inr rfl))) d_X7_init_48 rfl rfl ?_
  refine kd_ws (ws' := [.inr (.inr (7, [.ref 1, .ref 2, .ref 3])), .inr (.inl (6, [some 4, some 6, some 8, some 10, some 12, some 14, some 16, some 18, some 20, some 22, some 24, some 26, some 28, none])), .inl (96, fun _ => 0), .inl (4, fun _ => 0), .inr (.inr (6, [.ref 5, .int 0, .int 0, .int 0])), .inl (96, fun _ => 0), .inr (.inr (6, [.ref 7, .int 0, .int 0, .int 0])), .inl (96, fun _ => 0), .inr (.inr (6, [.ref 9, .int 0, .int 0, .int 0])), .inl (96, fun _ => 0), .inr (.inr (6, [.ref 11, .int 0, .int 0, .int 0])), .inl (96, fun _ => 0), .inr (.inr (6, [.ref 13, .int 0, .int 0, .int 0])), .inl (96, fun _ => 0), .inr (.inr (6, [.ref 15, .int 0, .int 0, .int 0])), .inl (96, fun _ => 0), .inr (.inr (6, [.ref 17, .int 0, .int 0, .int 0])), .inl (96, fun _ => 0), .inr (.inr (6, [.ref 19, .int 0, .int 0, .int 0])), .inl (96, fun _ => 0), .inr (.inr (6, [.ref 21, .int 0, .int 0, .int 0])), .inl (96, fun _ => 0), .inr (.inr (6, [.ref 23, .int 0, .int 0, .int 0])), .inl (96, fun _ => 0), .inr (.inr (6, [.ref 25, .int 0, .int 0, .int 0])), .inl (96, fun _ => 0), .inr (.inr (6, [.ref 27, .int 0, .int 0, .int 0])), .inl (96, fun _ => 0), .inr (.inr (6, [.ref 29, .int 0, .int 0, .int 0])), .inl (96, fun _ => 0)]) rfl ?_
  refine kd_iinc1 (w := 13) d_X7_init_49 (by decide) (Nat.le_of_ble_eq_true rfl) kv_c1a ?_
  refine kd_goto d_X7_init_52 ?_
  refine kd_iload d_X7_init_30 rfl ?_
  refine kd_const (v := 14) d_X7_init_31 ?_
  refine kd_geF (by decide) d_X7_init_33 ?_
  refine kd_aload d_X7_init_36 rfl ?_
  refine kd_get d_X7_init_37 fl_X7_11 rfl rfl ?_
  refine kd_iload d_X7_init_40 rfl ?_
  refine kd_new d_X7_init_41 wn_X7_9 (by decide +kernel) (by decide) (by decide) ?_
  refine kd_ws (ws' := [.inr (.inr (7, [.ref 1, .ref 2, .ref 3])), .inr (.inl (6, [some 4, some 6, some 8, some 10, some 12, some 14, some 16, some 18, some 20, some 22, some 24, some 26, some 28, none])), .inl (96, fun _ => 0), .inl (4, fun _ => 0), .inr (.inr (6, [.ref 5, .int 0, .int 0, .int 0])), .inl (96, fun _ => 0), .inr (.inr (6, [.ref 7, .int 0, .int 0, .int 0])), .inl (96, fun _ => 0), .inr (.inr (6, [.ref 9, .int 0, .int 0, .int 0])), .inl (96, fun _ => 0), .inr (.inr (6, [.ref 11, .int 0, .int 0, .int 0])), .inl (96, fun _ => 0), .inr (.inr (6, [.ref 13, .int 0, .int 0, .int 0])), .inl (96, fun _ => 0), .inr (.inr (6, [.ref 15, .int 0, .int 0, .int 0])), .inl (96, fun _ => 0), .inr (.inr (6, [.ref 17, .int 0, .int 0, .int 0])), .inl (96, fun _ => 0), .inr (.inr (6, [.ref 19, .int 0, .int 0, .int 0])), .inl (96, fun _ => 0), .inr (.inr (6, [.ref 21, .int 0, .int 0, .int 0])), .inl (96, fun _ => 0), .inr (.inr (6, [.ref 23, .int 0, .int 0, .int 0])), .inl (96, fun _ => 0), .inr (.inr (6, [.ref 25, .int 0, .int 0, .int 0])), .inl (96, fun _ => 0), .inr (.inr (6, [.ref 27, .int 0, .int 0, .int 0])), .inl (96, fun _ => 0), .inr (.inr (6, [.ref 29, .int 0, .int 0, .int 0])), .inl (96, fun _ => 0), .inr (.inr (6, [.null, .int 0, .int 0, .int 0]))]) rfl ?_
  refine kd_dup d_X7_init_44 rfl ?_
  refine kd_call (t := 900) (As := []) (As2 := []) (ws' := [.inr (.inr (7, [.ref 1, .ref 2, .ref 3])), .inr (.inl (6, [some 4, some 6, some 8, some 10, some 12, some 14, some 16, some 18, some 20, some 22, some 24, some 26, some 28, none])), .inl (96, fun _ => 0), .inl (4, fun _ => 0), .inr (.inr (6, [.ref 5, .int 0, .int 0, .int 0])), .inl (96, fun _ => 0), .inr (.inr (6, [.ref 7, .int 0, .int 0, .int 0])), .inl (96, fun _ => 0), .inr (.inr (6, [.ref 9, .int 0, .int 0, .int 0])), .inl (96, fun _ => 0), .inr (.inr (6, [.ref 11, .int 0, .int 0, .int 0])), .inl (96, fun _ => 0), .inr (.inr (6, [.ref 13, .int 0, .int 0, .int 0])), .inl (96, fun _ => 0), .inr (.inr (6, [.ref 15, .int 0, .int 0, .int 0])), .inl (96, fun _ => 0), .inr (.inr (6, [.ref 17, .int 0, .int 0, .int 0])), .inl (96, fun _ => 0), .inr (.inr (6, [.ref 19, .int 0, .int 0, .int 0])), .inl (96, fun _ => 0), .inr (.inr (6, [.ref 21, .int 0, .int 0, .int 0])), .inl (96, fun _ => 0), .inr (.inr (6, [.ref 23, .int 0, .int 0, .int 0])), .inl (96, fun _ => 0), .inr (.inr (6, [.ref 25, .int 0, .int 0, .int 0])), .inl (96, fun _ => 0), .inr (.inr (6, [.ref 27, .int 0, .int 0, .int 0])), .inl (96, fun _ => 0), .inr (.inr (6, [.ref 29, .int 0, .int 0, .int 0])), .inl (96, fun _ => 0), .inr (.inr (6, [.ref 31, .int 0, .int 0, .int 0])), .inl (96, fun _ => 0)]) d_X7_init_45 wi_X7_24 c_X6_init rfl ⟨rfl, rfl, rfl⟩ (Or.inr rfl) rfl rfl (by decide) (by decide) (by decide +kernel) (by decide +kernel) (by decide +kernel) (by decide +kernel) (Nat.le_of_ble_eq_true rfl) rfl (Nat.le_of_ble_eq_true rfl) (by decide) (by decide) rfl ?_
  refine kd_aastore (j := 13) ⟨by decide, by decide, by decide⟩ (Or.inr (Or.inr (Or.inr rfl))) d_X7_init_48 rfl rfl ?_
  refine kd_ws (ws' := [.inr (.inr (7, [.ref 1, .ref 2, .ref 3])), .inr (.inl (6, [some 4, some 6, some 8, some 10, some 12, some 14, some 16, some 18, some 20, some 22, some 24, some 26, some 28, some 30])), .inl (96, fun _ => 0), .inl (4, fun _ => 0), .inr (.inr (6, [.ref 5, .int 0, .int 0, .int 0])), .inl (96, fun _ => 0), .inr (.inr (6, [.ref 7, .int 0, .int 0, .int 0])), .inl (96, fun _ => 0), .inr (.inr (6, [.ref 9, .int 0, .int 0, .int 0])), .inl (96, fun _ => 0), .inr (.inr (6, [.ref 11, .int 0, .int 0, .int 0])), .inl (96, fun _ => 0), .inr (.inr (6, [.ref 13, .int 0, .int 0, .int 0])), .inl (96, fun _ => 0), .inr (.inr (6, [.ref 15, .int 0, .int 0, .int 0])), .inl (96, fun _ => 0), .inr (.inr (6, [.ref 17, .int 0, .int 0, .int 0])), .inl (96, fun _ => 0), .inr (.inr (6, [.ref 19, .int 0, .int 0, .int 0])), .inl (96, fun _ => 0), .inr (.inr (6, [.ref 21, .int 0, .int 0, .int 0])), .inl (96, fun _ => 0), .inr (.inr (6, [.ref 23, .int 0, .int 0, .int 0])), .inl (96, fun _ => 0), .inr (.inr (6, [.ref 25, .int 0, .int 0, .int 0])), .inl (96, fun _ => 0), .inr (.inr (6, [.ref 27, .int 0, .int 0, .int 0])), .inl (96, fun _ => 0), .inr (.inr (6, [.ref 29, .int 0, .int 0, .int 0])), .inl (96, fun _ => 0), .inr (.inr (6, [.ref 31, .int 0, .int 0, .int 0])), .inl (96, fun _ => 0)]) rfl ?_
  refine kd_iinc1 (w := 14) d_X7_init_49 (by decide) (Nat.le_of_ble_eq_true rfl) kv_c1a ?_
  refine kd_goto d_X7_init_52 ?_
  refine kd_iload d_X7_init_30 rfl ?_
  refine kd_const (v := 14) d_X7_init_31 ?_
  refine kd_geT (by decide) d_X7_init_33 ?_
  exact kd_return d_X7_init_55 rfl (by decide) (by decide)

set_option maxRecDepth 100000 in
set_option maxHeartbeats 4000000 in
theorem c_X8_init : kd_M kK_X8_init [.ref 0, .ref 900] [.inr (.inr (8, [.null, .null, .null, .null, .null, .int 0, .int 0, .int 0, .int 0, .int 0]))] [.inr (.inr (8, [.ref 900, .ref 1, .ref 10, .ref 14, .ref 15, .int 0, .int 0, .int 12, .int 0, .int 0])), .inr (.inr (1, [.ref 2, .ref 3, .ref 4, .ref 5, .ref 6, .ref 7, .ref 8, .ref 9, .int 0])), .inl (8, fun _ => 0), .inl (8, fun _ => 0), .inl (8, fun _ => 0), .inl (8, fun _ => 0), .inl (8, fun _ => 0), .inl (8, fun _ => 0), .inl (8, fun _ => 0), .inl (8, fun _ => 0), .inr (.inr (0, [.ref 11, .ref 12, .ref 13, .int 0, .int 0, .int 0, .int 0, .int 1])), .inl (8, fun _ => 0), .inl (8, fun _ => 0), .inl (8, fun _ => 0), .inl (24, fun _ => 0), .inl (3, upd (upd (upd (fun _ => 0) 0 (-1000000005)) 1 (-1000000005)) 2 (-1000000005))] 15 132 := by
  refine kd_met (ls := [some (.ref 0), some (.ref 900)]) (show plainName RX8 = true by decide +kernel) rfl (fun _ => rfl) (fun _ => Nat.le_of_ble_eq_true rfl) ?_
  refine kd_aload d_X8_init_0 rfl ?_
  refine kd_objInit d_X8_init_1 wo_X8_3 (Nat.le_of_ble_eq_true rfl) (Nat.le_of_ble_eq_true rfl) ?_
  refine kd_aload d_X8_init_4 rfl ?_
  refine kd_new d_X8_init_5 wn_X8_9 (by decide +kernel) (by decide) (by decide) ?_
  refine kd_ws (ws' := [.inr (.inr (8, [.null, .null, .null, .null, .null, .int 0, .int 0, .int 0, .int 0, .int 0])), .inr (.inr (1, [.null, .null, .null, .null, .null, .null, .null, .null, .int 0]))]) rfl ?_
  refine kd_dup d_X8_init_8 rfl ?_
  refine kd_call (t := 900) (As := []) (As2 := []) (ws' := [.inr (.inr (8, [.null, .null, .null, .null, .null, .int 0, .int 0, .int 0, .int 0, .int 0])), .inr (.inr (1, [.ref 2, .ref 3, .ref 4, .ref 5, .ref 6, .ref 7, .ref 8, .ref 9, .int 0])), .inl (8, fun _ => 0), .inl (8, fun _ => 0), .inl (8, fun _ => 0), .inl (8, fun _ => 0), .inl (8, fun _ => 0), .inl (8, fun _ => 0), .inl (8, fun _ => 0), .inl (8, fun _ => 0)]) d_X8_init_9 wi_X8_11 c_X1_init rfl ⟨rfl, rfl, rfl⟩ (Or.inr rfl) rfl rfl (by decide) (by decide) (by decide +kernel) (by decide +kernel) (by decide +kernel) (by decide +kernel) (Nat.le_of_ble_eq_true rfl) rfl (Nat.le_of_ble_eq_true rfl) (by decide) (by decide) rfl ?_
  refine kd_put d_X8_init_12 wp_X8_12 rfl (by decide) (fun _ => rfl) (fun _ => rfl) ?_
  refine kd_ws (ws' := [.inr (.inr (8, [.null, .ref 1, .null, .null, .null, .int 0, .int 0, .int 0, .int 0, .int 0])), .inr (.inr (1, [.ref 2, .ref 3, .ref 4, .ref 5, .ref 6, .ref 7, .ref 8, .ref 9, .int 0])), .inl (8, fun _ => 0), .inl (8, fun _ => 0), .inl (8, fun _ => 0), .inl (8, fun _ => 0), .inl (8, fun _ => 0), .inl (8, fun _ => 0), .inl (8, fun _ => 0), .inl (8, fun _ => 0)]) rfl ?_
  refine kd_aload d_X8_init_15 rfl ?_
  refine kd_new d_X8_init_16 wn_X8_18 (by decide +kernel) (by decide) (by decide) ?_
  refine kd_ws (ws' := [.inr (.inr (8, [.null, .ref 1, .null, .null, .null, .int 0, .int 0, .int 0, .int 0, .int 0])), .inr (.inr (1, [.ref 2, .ref 3, .ref 4, .ref 5, .ref 6, .ref 7, .ref 8, .ref 9, .int 0])), .inl (8, fun _ => 0), .inl (8, fun _ => 0), .inl (8, fun _ => 0), .inl (8, fun _ => 0), .inl (8, fun _ => 0), .inl (8, fun _ => 0), .inl (8, fun _ => 0), .inl (8, fun _ => 0), .inr (.inr (0, [.null, .null, .null, .int 0, .int 0, .int 0, .int 0, .int 0]))]) rfl ?_
  refine kd_dup d_X8_init_19 rfl ?_
  refine kd_call (t := 900) (As := []) (As2 := []) (ws' := [.inr (.inr (8, [.null, .ref 1, .null, .null, .null, .int 0, .int 0, .int 0, .int 0, .int 0])), .inr (.inr (1, [.ref 2, .ref 3, .ref 4, .ref 5, .ref 6, .ref 7, .ref 8, .ref 9, .int 0])), .inl (8, fun _ => 0), .inl (8, fun _ => 0), .inl (8, fun _ => 0), .inl (8, fun _ => 0), .inl (8, fun _ => 0), .inl (8, fun _ => 0), .inl (8, fun _ => 0), .inl (8, fun _ => 0), .inr (.inr (0, [.ref 11, .ref 12, .ref 13, .int 0, .int 0, .int 0, .int 0, .int 1])), .inl (8, fun _ => 0), .inl (8, fun _ => 0), .inl (8, fun _ => 0)]) d_X8_init_20 wi_X8_20 c_X0_init rfl ⟨rfl, rfl, rfl⟩ (Or.inr rfl) rfl rfl (by decide) (by decide) (by decide +kernel) (by decide +kernel) (by decide +kernel) (by decide +kernel) (Nat.le_of_ble_eq_true rfl) rfl (Nat.le_of_ble_eq_true rfl) (by decide) (by decide) rfl ?_
  refine kd_put d_X8_init_23 wp_X8_21 rfl (by decide) (fun _ => rfl) (fun _ => rfl) ?_
  refine kd_ws (ws' := [.inr (.inr (8, [.null, .ref 1, .ref 10, .null, .null, .int 0, .int 0, .int 0, .int 0, .int 0])), .inr (.inr (1, [.ref 2, .ref 3, .ref 4, .ref 5, .ref 6, .ref 7, .ref 8, .ref 9, .int 0])), .inl (8, fun _ => 0), .inl (8, fun _ => 0), .inl (8, fun _ => 0), .inl (8, fun _ => 0), .inl (8, fun _ => 0), .inl (8, fun _ => 0), .inl (8, fun _ => 0), .inl (8, fun _ => 0), .inr (.inr (0, [.ref 11, .ref 12, .ref 13, .int 0, .int 0, .int 0, .int 0, .int 1])), .inl (8, fun _ => 0), .inl (8, fun _ => 0), .inl (8, fun _ => 0)]) rfl ?_
  refine kd_aload d_X8_init_26 rfl ?_
  refine kd_const (v := 24) d_X8_init_27 ?_
  refine kd_newarr (N := 24) d_X8_init_29 kd_wai (by decide) (by decide) (by decide) (by decide +kernel) (by decide) (by decide) ?_
  refine kd_ws (ws' := [.inr (.inr (8, [.null, .ref 1, .ref 10, .null, .null, .int 0, .int 0, .int 0, .int 0, .int 0])), .inr (.inr (1, [.ref 2, .ref 3, .ref 4, .ref 5, .ref 6, .ref 7, .ref 8, .ref 9, .int 0])), .inl (8, fun _ => 0), .inl (8, fun _ => 0), .inl (8, fun _ => 0), .inl (8, fun _ => 0), .inl (8, fun _ => 0), .inl (8, fun _ => 0), .inl (8, fun _ => 0), .inl (8, fun _ => 0), .inr (.inr (0, [.ref 11, .ref 12, .ref 13, .int 0, .int 0, .int 0, .int 0, .int 1])), .inl (8, fun _ => 0), .inl (8, fun _ => 0), .inl (8, fun _ => 0), .inl (24, fun _ => 0)]) rfl ?_
  refine kd_put d_X8_init_31 wp_X8_25 rfl (by decide) (fun _ => rfl) (fun _ => rfl) ?_
  refine kd_ws (ws' := [.inr (.inr (8, [.null, .ref 1, .ref 10, .ref 14, .null, .int 0, .int 0, .int 0, .int 0, .int 0])), .inr (.inr (1, [.ref 2, .ref 3, .ref 4, .ref 5, .ref 6, .ref 7, .ref 8, .ref 9, .int 0])), .inl (8, fun _ => 0), .inl (8, fun _ => 0), .inl (8, fun _ => 0), .inl (8, fun _ => 0), .inl (8, fun _ => 0), .inl (8, fun _ => 0), .inl (8, fun _ => 0), .inl (8, fun _ => 0), .inr (.inr (0, [.ref 11, .ref 12, .ref 13, .int 0, .int 0, .int 0, .int 0, .int 1])), .inl (8, fun _ => 0), .inl (8, fun _ => 0), .inl (8, fun _ => 0), .inl (24, fun _ => 0)]) rfl ?_
  refine kd_aload d_X8_init_34 rfl ?_
  refine kd_const (v := 3) d_X8_init_35 ?_
  refine kd_newarr (N := 3) d_X8_init_36 kd_wai (by decide) (by decide) (by decide) (by decide +kernel) (by decide) (by decide) ?_
  refine kd_ws (ws' := [.inr (.inr (8, [.null, .ref 1, .ref 10, .ref 14, .null, .int 0, .int 0, .int 0, .int 0, .int 0])), .inr (.inr (1, [.ref 2, .ref 3, .ref 4, .ref 5, .ref 6, .ref 7, .ref 8, .ref 9, .int 0])), .inl (8, fun _ => 0), .inl (8, fun _ => 0), .inl (8, fun _ => 0), .inl (8, fun _ => 0), .inl (8, fun _ => 0), .inl (8, fun _ => 0), .inl (8, fun _ => 0), .inl (8, fun _ => 0), .inr (.inr (0, [.ref 11, .ref 12, .ref 13, .int 0, .int 0, .int 0, .int 0, .int 1])), .inl (8, fun _ => 0), .inl (8, fun _ => 0), .inl (8, fun _ => 0), .inl (24, fun _ => 0), .inl (3, fun _ => 0)]) rfl ?_
  refine kd_dup d_X8_init_38 rfl ?_
  refine kd_const (v := 0) d_X8_init_39 ?_
  refine kd_const (v := (-1000000005)) d_X8_init_40 ?_
  refine kd_iastore (j := 0) ⟨by decide, by decide, by decide⟩ d_X8_init_42 rfl ?_
  refine kd_ws (ws' := [.inr (.inr (8, [.null, .ref 1, .ref 10, .ref 14, .null, .int 0, .int 0, .int 0, .int 0, .int 0])), .inr (.inr (1, [.ref 2, .ref 3, .ref 4, .ref 5, .ref 6, .ref 7, .ref 8, .ref 9, .int 0])), .inl (8, fun _ => 0), .inl (8, fun _ => 0), .inl (8, fun _ => 0), .inl (8, fun _ => 0), .inl (8, fun _ => 0), .inl (8, fun _ => 0), .inl (8, fun _ => 0), .inl (8, fun _ => 0), .inr (.inr (0, [.ref 11, .ref 12, .ref 13, .int 0, .int 0, .int 0, .int 0, .int 1])), .inl (8, fun _ => 0), .inl (8, fun _ => 0), .inl (8, fun _ => 0), .inl (24, fun _ => 0), .inl (3, upd (fun _ => 0) 0 (-1000000005))]) rfl ?_
  refine kd_dup d_X8_init_43 rfl ?_
  refine kd_const (v := 1) d_X8_init_44 ?_
  refine kd_const (v := (-1000000005)) d_X8_init_45 ?_
  refine kd_iastore (j := 1) ⟨by decide, by decide, by decide⟩ d_X8_init_47 rfl ?_
  refine kd_ws (ws' := [.inr (.inr (8, [.null, .ref 1, .ref 10, .ref 14, .null, .int 0, .int 0, .int 0, .int 0, .int 0])), .inr (.inr (1, [.ref 2, .ref 3, .ref 4, .ref 5, .ref 6, .ref 7, .ref 8, .ref 9, .int 0])), .inl (8, fun _ => 0), .inl (8, fun _ => 0), .inl (8, fun _ => 0), .inl (8, fun _ => 0), .inl (8, fun _ => 0), .inl (8, fun _ => 0), .inl (8, fun _ => 0), .inl (8, fun _ => 0), .inr (.inr (0, [.ref 11, .ref 12, .ref 13, .int 0, .int 0, .int 0, .int 0, .int 1])), .inl (8, fun _ => 0), .inl (8, fun _ => 0), .inl (8, fun _ => 0), .inl (24, fun _ => 0), .inl (3, upd (upd (fun _ => 0) 0 (-1000000005)) 1 (-1000000005))]) rfl ?_
  refine kd_dup d_X8_init_48 rfl ?_
  refine kd_const (v := 2) d_X8_init_49 ?_
  refine kd_const (v := (-1000000005)) d_X8_init_50 ?_
  refine kd_iastore (j := 2) ⟨by decide, by decide, by decide⟩ d_X8_init_52 rfl ?_
  refine kd_ws (ws' := [.inr (.inr (8, [.null, .ref 1, .ref 10, .ref 14, .null, .int 0, .int 0, .int 0, .int 0, .int 0])), .inr (.inr (1, [.ref 2, .ref 3, .ref 4, .ref 5, .ref 6, .ref 7, .ref 8, .ref 9, .int 0])), .inl (8, fun _ => 0), .inl (8, fun _ => 0), .inl (8, fun _ => 0), .inl (8, fun _ => 0), .inl (8, fun _ => 0), .inl (8, fun _ => 0), .inl (8, fun _ => 0), .inl (8, fun _ => 0), .inr (.inr (0, [.ref 11, .ref 12, .ref 13, .int 0, .int 0, .int 0, .int 0, .int 1])), .inl (8, fun _ => 0), .inl (8, fun _ => 0), .inl (8, fun _ => 0), .inl (24, fun _ => 0), .inl (3, upd (upd (upd (fun _ => 0) 0 (-1000000005)) 1 (-1000000005)) 2 (-1000000005))]) rfl ?_
  refine kd_put d_X8_init_53 wp_X8_30 rfl (by decide) (fun _ => rfl) (fun _ => rfl) ?_
  refine kd_ws (ws' := [.inr (.inr (8, [.null, .ref 1, .ref 10, .ref 14, .ref 15, .int 0, .int 0, .int 0, .int 0, .int 0])), .inr (.inr (1, [.ref 2, .ref 3, .ref 4, .ref 5, .ref 6, .ref 7, .ref 8, .ref 9, .int 0])), .inl (8, fun _ => 0), .inl (8, fun _ => 0), .inl (8, fun _ => 0), .inl (8, fun _ => 0), .inl (8, fun _ => 0), .inl (8, fun _ => 0), .inl (8, fun _ => 0), .inl (8, fun _ => 0), .inr (.inr (0, [.ref 11, .ref 12, .ref 13, .int 0, .int 0, .int 0, .int 0, .int 1])), .inl (8, fun _ => 0), .inl (8, fun _ => 0), .inl (8, fun _ => 0), .inl (24, fun _ => 0), .inl (3, upd (upd (upd (fun _ => 0) 0 (-1000000005)) 1 (-1000000005)) 2 (-1000000005))]) rfl ?_
  refine kd_aload d_X8_init_56 rfl ?_
  refine kd_const (v := 12) d_X8_init_57 ?_
  refine kd_put d_X8_init_59 wp_X8_33 rfl (by decide) (fun _ => rfl) (fun _ => rfl) ?_
  refine kd_ws (ws' := [.inr (.inr (8, [.null, .ref 1, .ref 10, .ref 14, .ref 15, .int 0, .int 0, .int 12, .int 0, .int 0])), .inr (.inr (1, [.ref 2, .ref 3, .ref 4, .ref 5, .ref 6, .ref 7, .ref 8, .ref 9, .int 0])), .inl (8, fun _ => 0), .inl (8, fun _ => 0), .inl (8, fun _ => 0), .inl (8, fun _ => 0), .inl (8, fun _ => 0), .inl (8, fun _ => 0), .inl (8, fun _ => 0), .inl (8, fun _ => 0), .inr (.inr (0, [.ref 11, .ref 12, .ref 13, .int 0, .int 0, .int 0, .int 0, .int 1])), .inl (8, fun _ => 0), .inl (8, fun _ => 0), .inl (8, fun _ => 0), .inl (24, fun _ => 0), .inl (3, upd (upd (upd (fun _ => 0) 0 (-1000000005)) 1 (-1000000005)) 2 (-1000000005))]) rfl ?_
  refine kd_aload d_X8_init_62 rfl ?_
  refine kd_aload d_X8_init_63 rfl ?_
  refine kd_put d_X8_init_64 wp_X8_37 rfl (by decide) (fun _ => rfl) (fun _ => rfl) ?_
  refine kd_ws (ws' := [.inr (.inr (8, [.ref 900, .ref 1, .ref 10, .ref 14, .ref 15, .int 0, .int 0, .int 12, .int 0, .int 0])), .inr (.inr (1, [.ref 2, .ref 3, .ref 4, .ref 5, .ref 6, .ref 7, .ref 8, .ref 9, .int 0])), .inl (8, fun _ => 0), .inl (8, fun _ => 0), .inl (8, fun _ => 0), .inl (8, fun _ => 0), .inl (8, fun _ => 0), .inl (8, fun _ => 0), .inl (8, fun _ => 0), .inl (8, fun _ => 0), .inr (.inr (0, [.ref 11, .ref 12, .ref 13, .int 0, .int 0, .int 0, .int 0, .int 1])), .inl (8, fun _ => 0), .inl (8, fun _ => 0), .inl (8, fun _ => 0), .inl (24, fun _ => 0), .inl (3, upd (upd (upd (fun _ => 0) 0 (-1000000005)) 1 (-1000000005)) 2 (-1000000005))]) rfl ?_
  exact kd_return d_X8_init_67 rfl (by decide) (by decide)

