/-! constructors, by program (wip/whole/gen/ctor.py) -/
set_option maxRecDepth 100000 in
set_option maxHeartbeats 4000000 in
theorem k_X8_1 (G : tcG) (wp : va_W) (hlen : wp.length = 1) : tc_M G yX8_init cX8_init 1 20 1 200 1 (tc_wa G wp 1 (.inr (8, [.null, .int 0])) 0) (tc_wa G wp 1 (tc_fin G 1) 1) := by
  refine tc_start RX8 (by decide) rfl rfl (fun E C hI hret => ?_)
  refine tc_aload 0 _ 0 C dX8_init_0 rfl rfl ?_
  refine tc_objInit C dX8_init_1 cml_RX8_3 c_oinst c_ocode (by decide) (by decide) (Nat.le_of_ble_eq_true rfl) ?_
  refine tc_aload 0 _ 0 C dX8_init_4 rfl rfl ?_
  refine tc_sipush (200) (by decide) C dX8_init_5 ?_
  refine tc_newa (a0 := (200, .inl fun _ => 0)) (N := 200) 2 0 C dX8_init_8 rfl c_arr_int rfl (fun _ h => by cases h) (fun _ => rfl) (by decide) (by decide) (by decide) (tc_wa_len hlen rfl) (by decide) (by decide) ?_
  refine tcw_seal 2 rfl rfl ?_
  refine tcw_put [.ref (G.2.1 + 2), .int 0] C hI dX8_init_10 cfp_RX8_9 hlen rfl rfl (Nat.le_of_ble_eq_true rfl) rfl ?_
  refine tc_aload 0 _ 0 C dX8_init_13 rfl rfl ?_
  refine tc_iconst (0) (by decide) C dX8_init_14 ?_
  refine tcw_put [.ref (G.2.1 + 2), .int (0)] C hI dX8_init_15 cfp_RX8_15 hlen rfl rfl (Nat.le_of_ble_eq_true rfl) rfl ?_
  have e9 : (.inr (8, [.ref (G.2.1 + 2), .int (0)]) : va_E) = tc_fin G 1 := rfl
  rw [e9]
  exact hret 18 dX8_init_18
set_option maxRecDepth 100000 in
set_option maxHeartbeats 4000000 in
theorem k_X3_3 (G : tcG) (wp : va_W) (hlen : wp.length = 3) : tc_M G yX3_init cX3_init 1 20 0 0 3 (tc_wa G wp 3 (.inr (3, [.int 0, .int 0, .int 0, .int 0, .int 0, .int 0, .int 0])) 0) (tc_wa G wp 3 (tc_fin G 3) 0) := by
  refine tc_start RX3 (by decide) rfl rfl (fun E C hI hret => ?_)
  refine tc_aload 0 _ 0 C dX3_init_0 rfl rfl ?_
  refine tc_objInit C dX3_init_1 cml_RX3_3 c_oinst c_ocode (by decide) (by decide) (Nat.le_of_ble_eq_true rfl) ?_
  refine tc_aload 0 _ 0 C dX3_init_4 rfl rfl ?_
  refine tc_iconst (-1) (by decide) C dX3_init_5 ?_
  refine tcw_put [.int (-1), .int 0, .int 0, .int 0, .int 0, .int 0, .int 0] C hI dX3_init_6 cfp_RX3_9 hlen rfl rfl (Nat.le_of_ble_eq_true rfl) rfl ?_
  refine tc_aload 0 _ 0 C dX3_init_9 rfl rfl ?_
  refine tc_iconst (-1) (by decide) C dX3_init_10 ?_
  refine tcw_put [.int (-1), .int (-1), .int 0, .int 0, .int 0, .int 0, .int 0] C hI dX3_init_11 cfp_RX3_15 hlen rfl rfl (Nat.le_of_ble_eq_true rfl) rfl ?_
  refine tc_aload 0 _ 0 C dX3_init_14 rfl rfl ?_
  refine tc_iconst (-1) (by decide) C dX3_init_15 ?_
  refine tcw_put [.int (-1), .int (-1), .int (-1), .int 0, .int 0, .int 0, .int 0] C hI dX3_init_16 cfp_RX3_18 hlen rfl rfl (Nat.le_of_ble_eq_true rfl) rfl ?_
  have e9 : (.inr (3, [.int (-1), .int (-1), .int (-1), .int 0, .int 0, .int 0, .int 0]) : va_E) = tc_fin G 3 := rfl
  rw [e9]
  exact hret 19 dX3_init_19
set_option maxRecDepth 100000 in
set_option maxHeartbeats 4000000 in
theorem k_X6_4 (G : tcG) (wp : va_W) (hlen : wp.length = 4) : tc_M G yX6_init cX6_init 1 20 33 1992 4 (tc_wa G wp 4 (.inr (6, [.int 0, .int 0, .int 0, .null, .null, .null, .null, .null, .null, .null, .null, .null])) 0) (tc_wa G wp 4 (tc_fin G 4) 33) := by
  refine tc_start RX6 (by decide) rfl rfl (fun E C hI hret => ?_)
  refine tc_aload 0 _ 0 C dX6_init_0 rfl rfl ?_
  refine tc_objInit C dX6_init_1 cml_RX6_3 c_oinst c_ocode (by decide) (by decide) (Nat.le_of_ble_eq_true rfl) ?_
  refine tc_aload 0 _ 0 C dX6_init_4 rfl rfl ?_
  refine tc_iconst (0) (by decide) C dX6_init_5 ?_
  refine tcw_put [.int (0), .int 0, .int 0, .null, .null, .null, .null, .null, .null, .null, .null, .null] C hI dX6_init_6 cfp_RX6_9 hlen rfl rfl (Nat.le_of_ble_eq_true rfl) rfl ?_
  refine tc_aload 0 _ 0 C dX6_init_9 rfl rfl ?_
  refine tc_iconst (0) (by decide) C dX6_init_10 ?_
  refine tcw_put [.int (0), .int (0), .int 0, .null, .null, .null, .null, .null, .null, .null, .null, .null] C hI dX6_init_11 cfp_RX6_15 hlen rfl rfl (Nat.le_of_ble_eq_true rfl) rfl ?_
  refine tc_aload 0 _ 0 C dX6_init_14 rfl rfl ?_
  refine tc_iconst (0) (by decide) C dX6_init_15 ?_
  refine tcw_put [.int (0), .int (0), .int (0), .null, .null, .null, .null, .null, .null, .null, .null, .null] C hI dX6_init_16 cfp_RX6_18 hlen rfl rfl (Nat.le_of_ble_eq_true rfl) rfl ?_
  refine tc_aload 0 _ 0 C dX6_init_19 rfl rfl ?_
  refine tc_bipush (12) (by decide) C dX6_init_20 ?_
  refine tc_newa (a0 := (12, .inl fun _ => 0)) (N := 12) 5 0 C dX6_init_22 rfl c_arr_int rfl (fun _ h => by cases h) (fun _ => rfl) (by decide) (by decide) (by decide) (tc_wa_len hlen rfl) (by decide) (by decide) ?_
  refine tcw_seal 5 rfl rfl ?_
  refine tcw_put [.int (0), .int (0), .int (0), .ref (G.2.1 + 5), .null, .null, .null, .null, .null, .null, .null, .null] C hI dX6_init_24 cfp_RX6_21 hlen rfl rfl (Nat.le_of_ble_eq_true rfl) rfl ?_
  refine tc_aload 0 _ 0 C dX6_init_27 rfl rfl ?_
  refine tc_bipush (12) (by decide) C dX6_init_28 ?_
  refine tc_newa (a0 := (12, .inl fun _ => 0)) (N := 12) 6 0 C dX6_init_30 rfl c_arr_int rfl (fun _ h => by cases h) (fun _ => rfl) (by decide) (by decide) (by decide) (tc_wa_len hlen rfl) (by decide) (by decide) ?_
  refine tcw_seal 6 rfl rfl ?_
  refine tcw_put [.int (0), .int (0), .int (0), .ref (G.2.1 + 5), .ref (G.2.1 + 6), .null, .null, .null, .null, .null, .null, .null] C hI dX6_init_32 cfp_RX6_25 hlen rfl rfl (Nat.le_of_ble_eq_true rfl) rfl ?_
  refine tc_aload 0 _ 0 C dX6_init_35 rfl rfl ?_
  refine tc_bipush (12) (by decide) C dX6_init_36 ?_
  refine tc_bipush (9) (by decide) C dX6_init_38 ?_
  refine tcw_mna (N := 12) (K := 9) 7 rfl C dX6_init_40 ccl_RX6_28 c_arr_int hlen (by decide) (by decide) (by decide) (by decide) (by decide) (by decide) (by decide) (by decide) (by decide) rfl (by decide +kernel) ?_
  refine tcw_put [.int (0), .int (0), .int (0), .ref (G.2.1 + 5), .ref (G.2.1 + 6), .ref (G.2.1 + 7), .null, .null, .null, .null, .null, .null] C hI dX6_init_44 cfp_RX6_30 hlen rfl rfl (Nat.le_of_ble_eq_true rfl) rfl ?_
  refine tc_aload 0 _ 0 C dX6_init_47 rfl rfl ?_
  refine tc_bipush (12) (by decide) C dX6_init_48 ?_
  refine tc_bipush (108) (by decide) C dX6_init_50 ?_
  refine tcw_mna (N := 12) (K := 108) 20 rfl C dX6_init_52 ccl_RX6_28 c_arr_int hlen (by decide) (by decide) (by decide) (by decide) (by decide) (by decide) (by decide) (by decide) (by decide) rfl (by decide +kernel) ?_
  refine tcw_put [.int (0), .int (0), .int (0), .ref (G.2.1 + 5), .ref (G.2.1 + 6), .ref (G.2.1 + 7), .ref (G.2.1 + 20), .null, .null, .null, .null, .null] C hI dX6_init_56 cfp_RX6_33 hlen rfl rfl (Nat.le_of_ble_eq_true rfl) rfl ?_
  refine tc_aload 0 _ 0 C dX6_init_59 rfl rfl ?_
  refine tc_bipush (108) (by decide) C dX6_init_60 ?_
  refine tc_newa (a0 := (108, .inl fun _ => 0)) (N := 108) 33 0 C dX6_init_62 rfl c_arr_int rfl (fun _ h => by cases h) (fun _ => rfl) (by decide) (by decide) (by decide) (tc_wa_len hlen rfl) (by decide) (by decide) ?_
  refine tcw_seal 33 rfl rfl ?_
  refine tcw_put [.int (0), .int (0), .int (0), .ref (G.2.1 + 5), .ref (G.2.1 + 6), .ref (G.2.1 + 7), .ref (G.2.1 + 20), .ref (G.2.1 + 33), .null, .null, .null, .null] C hI dX6_init_64 cfp_RX6_36 hlen rfl rfl (Nat.le_of_ble_eq_true rfl) rfl ?_
  refine tc_aload 0 _ 0 C dX6_init_67 rfl rfl ?_
  refine tc_bipush (108) (by decide) C dX6_init_68 ?_
  refine tc_newa (a0 := (108, .inl fun _ => 0)) (N := 108) 34 0 C dX6_init_70 rfl c_arr_int rfl (fun _ h => by cases h) (fun _ => rfl) (by decide) (by decide) (by decide) (tc_wa_len hlen rfl) (by decide) (by decide) ?_
  refine tcw_seal 34 rfl rfl ?_
  refine tcw_put [.int (0), .int (0), .int (0), .ref (G.2.1 + 5), .ref (G.2.1 + 6), .ref (G.2.1 + 7), .ref (G.2.1 + 20), .ref (G.2.1 + 33), .ref (G.2.1 + 34), .null, .null, .null] C hI dX6_init_72 cfp_RX6_39 hlen rfl rfl (Nat.le_of_ble_eq_true rfl) rfl ?_
  refine tc_aload 0 _ 0 C dX6_init_75 rfl rfl ?_
  refine tc_bipush (108) (by decide) C dX6_init_76 ?_
  refine tc_newa (a0 := (108, .inl fun _ => 0)) (N := 108) 35 0 C dX6_init_78 rfl c_arr_int rfl (fun _ h => by cases h) (fun _ => rfl) (by decide) (by decide) (by decide) (tc_wa_len hlen rfl) (by decide) (by decide) ?_
  refine tcw_seal 35 rfl rfl ?_
  refine tcw_put [.int (0), .int (0), .int (0), .ref (G.2.1 + 5), .ref (G.2.1 + 6), .ref (G.2.1 + 7), .ref (G.2.1 + 20), .ref (G.2.1 + 33), .ref (G.2.1 + 34), .ref (G.2.1 + 35), .null, .null] C hI dX6_init_80 cfp_RX6_42 hlen rfl rfl (Nat.le_of_ble_eq_true rfl) rfl ?_
  refine tc_aload 0 _ 0 C dX6_init_83 rfl rfl ?_
  refine tc_bipush (108) (by decide) C dX6_init_84 ?_
  refine tc_newa (a0 := (108, .inl fun _ => 0)) (N := 108) 36 0 C dX6_init_86 rfl c_arr_int rfl (fun _ h => by cases h) (fun _ => rfl) (by decide) (by decide) (by decide) (tc_wa_len hlen rfl) (by decide) (by decide) ?_
  refine tcw_seal 36 rfl rfl ?_
  refine tcw_put [.int (0), .int (0), .int (0), .ref (G.2.1 + 5), .ref (G.2.1 + 6), .ref (G.2.1 + 7), .ref (G.2.1 + 20), .ref (G.2.1 + 33), .ref (G.2.1 + 34), .ref (G.2.1 + 35), .ref (G.2.1 + 36), .null] C hI dX6_init_88 cfp_RX6_45 hlen rfl rfl (Nat.le_of_ble_eq_true rfl) rfl ?_
  refine tc_aload 0 _ 0 C dX6_init_91 rfl rfl ?_
  refine tc_bipush (108) (by decide) C dX6_init_92 ?_
  refine tc_newa (a0 := (108, .inr (.inl fun _ => 0))) (N := 108) 37 2 C dX6_init_94 rfl c_arr_long rfl (fun _ h => by cases h) (fun _ => rfl) (by decide) (by decide) (by decide) (tc_wa_len hlen rfl) (by decide) (by decide) ?_
  refine tcw_seal 37 rfl rfl ?_
  refine tcw_put [.int (0), .int (0), .int (0), .ref (G.2.1 + 5), .ref (G.2.1 + 6), .ref (G.2.1 + 7), .ref (G.2.1 + 20), .ref (G.2.1 + 33), .ref (G.2.1 + 34), .ref (G.2.1 + 35), .ref (G.2.1 + 36), .ref (G.2.1 + 37)] C hI dX6_init_96 cfp_RX6_48 hlen rfl rfl (Nat.le_of_ble_eq_true rfl) rfl ?_
  have e9 : (.inr (6, [.int (0), .int (0), .int (0), .ref (G.2.1 + 5), .ref (G.2.1 + 6), .ref (G.2.1 + 7), .ref (G.2.1 + 20), .ref (G.2.1 + 33), .ref (G.2.1 + 34), .ref (G.2.1 + 35), .ref (G.2.1 + 36), .ref (G.2.1 + 37)]) : va_E) = tc_fin G 4 := rfl
  rw [e9]
  exact hret 99 dX6_init_99
set_option maxRecDepth 100000 in
set_option maxHeartbeats 4000000 in
theorem k_X1_38 (G : tcG) (wp : va_W) (hlen : wp.length = 38) : tc_M G yX1_init cX1_init 1 20 4 400 38 (tc_wa G wp 38 (.inr (1, [.int 0, .null, .null, .null, .null])) 0) (tc_wa G wp 38 (tc_fin G 38) 4) := by
  refine tc_start RX1 (by decide) rfl rfl (fun E C hI hret => ?_)
  refine tc_aload 0 _ 0 C dX1_init_0 rfl rfl ?_
  refine tc_objInit C dX1_init_1 cml_RX1_3 c_oinst c_ocode (by decide) (by decide) (Nat.le_of_ble_eq_true rfl) ?_
  refine tc_aload 0 _ 0 C dX1_init_4 rfl rfl ?_
  refine tc_iconst (0) (by decide) C dX1_init_5 ?_
  refine tcw_put [.int (0), .null, .null, .null, .null] C hI dX1_init_6 cfp_RX1_9 hlen rfl rfl (Nat.le_of_ble_eq_true rfl) rfl ?_
  refine tc_aload 0 _ 0 C dX1_init_9 rfl rfl ?_
  refine tc_bipush (100) (by decide) C dX1_init_10 ?_
  refine tc_newa (a0 := (100, .inl fun _ => 0)) (N := 100) 39 0 C dX1_init_12 rfl c_arr_int rfl (fun _ h => by cases h) (fun _ => rfl) (by decide) (by decide) (by decide) (tc_wa_len hlen rfl) (by decide) (by decide) ?_
  refine tcw_seal 39 rfl rfl ?_
  refine tcw_put [.int (0), .ref (G.2.1 + 39), .null, .null, .null] C hI dX1_init_14 cfp_RX1_15 hlen rfl rfl (Nat.le_of_ble_eq_true rfl) rfl ?_
  refine tc_aload 0 _ 0 C dX1_init_17 rfl rfl ?_
  refine tc_bipush (100) (by decide) C dX1_init_18 ?_
  refine tc_newa (a0 := (100, .inl fun _ => 0)) (N := 100) 40 0 C dX1_init_20 rfl c_arr_int rfl (fun _ h => by cases h) (fun _ => rfl) (by decide) (by decide) (by decide) (tc_wa_len hlen rfl) (by decide) (by decide) ?_
  refine tcw_seal 40 rfl rfl ?_
  refine tcw_put [.int (0), .ref (G.2.1 + 39), .ref (G.2.1 + 40), .null, .null] C hI dX1_init_22 cfp_RX1_19 hlen rfl rfl (Nat.le_of_ble_eq_true rfl) rfl ?_
  refine tc_aload 0 _ 0 C dX1_init_25 rfl rfl ?_
  refine tc_bipush (100) (by decide) C dX1_init_26 ?_
  refine tc_newa (a0 := (100, .inl fun _ => 0)) (N := 100) 41 0 C dX1_init_28 rfl c_arr_int rfl (fun _ h => by cases h) (fun _ => rfl) (by decide) (by decide) (by decide) (tc_wa_len hlen rfl) (by decide) (by decide) ?_
  refine tcw_seal 41 rfl rfl ?_
  refine tcw_put [.int (0), .ref (G.2.1 + 39), .ref (G.2.1 + 40), .ref (G.2.1 + 41), .null] C hI dX1_init_30 cfp_RX1_22 hlen rfl rfl (Nat.le_of_ble_eq_true rfl) rfl ?_
  refine tc_aload 0 _ 0 C dX1_init_33 rfl rfl ?_
  refine tc_bipush (100) (by decide) C dX1_init_34 ?_
  refine tc_newa (a0 := (100, .inl fun _ => 0)) (N := 100) 42 0 C dX1_init_36 rfl c_arr_int rfl (fun _ h => by cases h) (fun _ => rfl) (by decide) (by decide) (by decide) (tc_wa_len hlen rfl) (by decide) (by decide) ?_
  refine tcw_seal 42 rfl rfl ?_
  refine tcw_put [.int (0), .ref (G.2.1 + 39), .ref (G.2.1 + 40), .ref (G.2.1 + 41), .ref (G.2.1 + 42)] C hI dX1_init_38 cfp_RX1_25 hlen rfl rfl (Nat.le_of_ble_eq_true rfl) rfl ?_
  have e9 : (.inr (1, [.int (0), .ref (G.2.1 + 39), .ref (G.2.1 + 40), .ref (G.2.1 + 41), .ref (G.2.1 + 42)]) : va_E) = tc_fin G 38 := rfl
  rw [e9]
  exact hret 41 dX1_init_41
set_option maxRecDepth 100000 in
set_option maxHeartbeats 4000000 in
theorem k_X0_43 (G : tcG) (wp : va_W) (hlen : wp.length = 43) : tc_M G yX0_init cX0_init 1 20 15 290 43 (tc_wa G wp 43 (.inr (0, [.null, .null, .int 0, .int 0, .int 0])) 0) (tc_wa G wp 43 (tc_fin G 43) 15) := by
  refine tc_start RX0 (by decide) rfl rfl (fun E C hI hret => ?_)
  refine tc_aload 0 _ 0 C dX0_init_0 rfl rfl ?_
  refine tc_objInit C dX0_init_1 cml_RX0_3 c_oinst c_ocode (by decide) (by decide) (Nat.le_of_ble_eq_true rfl) ?_
  refine tc_aload 0 _ 0 C dX0_init_4 rfl rfl ?_
  refine tc_bipush (13) (by decide) C dX0_init_5 ?_
  refine tc_bipush (13) (by decide) C dX0_init_7 ?_
  refine tcw_mna (N := 13) (K := 13) 44 rfl C dX0_init_9 ccl_RX0_9 c_arr_int hlen (by decide) (by decide) (by decide) (by decide) (by decide) (by decide) (by decide) (by decide) (by decide) rfl (by decide +kernel) ?_
  refine tcw_put [.ref (G.2.1 + 44), .null, .int 0, .int 0, .int 0] C hI dX0_init_13 cfp_RX0_11 hlen rfl rfl (Nat.le_of_ble_eq_true rfl) rfl ?_
  refine tc_aload 0 _ 0 C dX0_init_16 rfl rfl ?_
  refine tc_bipush (108) (by decide) C dX0_init_17 ?_
  refine tc_newa (a0 := (108, .inl fun _ => 0)) (N := 108) 58 0 C dX0_init_19 rfl c_arr_int rfl (fun _ h => by cases h) (fun _ => rfl) (by decide) (by decide) (by decide) (tc_wa_len hlen rfl) (by decide) (by decide) ?_
  refine tcw_seal 58 rfl rfl ?_
  refine tcw_put [.ref (G.2.1 + 44), .ref (G.2.1 + 58), .int 0, .int 0, .int 0] C hI dX0_init_21 cfp_RX0_16 hlen rfl rfl (Nat.le_of_ble_eq_true rfl) rfl ?_
  have e9 : (.inr (0, [.ref (G.2.1 + 44), .ref (G.2.1 + 58), .int 0, .int 0, .int 0]) : va_E) = tc_fin G 43 := rfl
  rw [e9]
  exact hret 24 dX0_init_24
set_option maxRecDepth 100000 in
set_option maxHeartbeats 4000000 in
theorem k_X5_59 (G : tcG) (wp : va_W) (hlen : wp.length = 59) : tc_M G yX5_init cX5_init 1 20 20 252 59 (tc_wa G wp 59 (.inr (5, [.null, .null])) 0) (tc_wa G wp 59 (tc_fin G 59) 20) := by
  refine tc_start RX5 (by decide) rfl rfl (fun E C hI hret => ?_)
  refine tc_aload 0 _ 0 C dX5_init_0 rfl rfl ?_
  refine tc_objInit C dX5_init_1 cml_RX5_3 c_oinst c_ocode (by decide) (by decide) (Nat.le_of_ble_eq_true rfl) ?_
  refine tc_aload 0 _ 0 C dX5_init_4 rfl rfl ?_
  refine tc_bipush (9) (by decide) C dX5_init_5 ?_
  refine tc_bipush (13) (by decide) C dX5_init_7 ?_
  refine tcw_mna (N := 9) (K := 13) 60 rfl C dX5_init_9 ccl_RX5_9 c_arr_int hlen (by decide) (by decide) (by decide) (by decide) (by decide) (by decide) (by decide) (by decide) (by decide) rfl (by decide +kernel) ?_
  refine tcw_put [.ref (G.2.1 + 60), .null] C hI dX5_init_13 cfp_RX5_11 hlen rfl rfl (Nat.le_of_ble_eq_true rfl) rfl ?_
  refine tc_aload 0 _ 0 C dX5_init_16 rfl rfl ?_
  refine tc_bipush (9) (by decide) C dX5_init_17 ?_
  refine tc_bipush (13) (by decide) C dX5_init_19 ?_
  refine tcw_mna (N := 9) (K := 13) 70 rfl C dX5_init_21 ccl_RX5_9 c_arr_int hlen (by decide) (by decide) (by decide) (by decide) (by decide) (by decide) (by decide) (by decide) (by decide) rfl (by decide +kernel) ?_
  refine tcw_put [.ref (G.2.1 + 60), .ref (G.2.1 + 70)] C hI dX5_init_25 cfp_RX5_16 hlen rfl rfl (Nat.le_of_ble_eq_true rfl) rfl ?_
  have e9 : (.inr (5, [.ref (G.2.1 + 60), .ref (G.2.1 + 70)]) : va_E) = tc_fin G 59 := rfl
  rw [e9]
  exact hret 28 dX5_init_28
set_option maxRecDepth 100000 in
set_option maxHeartbeats 4000000 in
theorem k_X0_83 (G : tcG) (wp : va_W) (hlen : wp.length = 83) : tc_M G yX0_init cX0_init 1 20 15 290 83 (tc_wa G wp 83 (.inr (0, [.null, .null, .int 0, .int 0, .int 0])) 0) (tc_wa G wp 83 (tc_fin G 83) 15) := by
  refine tc_start RX0 (by decide) rfl rfl (fun E C hI hret => ?_)
  refine tc_aload 0 _ 0 C dX0_init_0 rfl rfl ?_
  refine tc_objInit C dX0_init_1 cml_RX0_3 c_oinst c_ocode (by decide) (by decide) (Nat.le_of_ble_eq_true rfl) ?_
  refine tc_aload 0 _ 0 C dX0_init_4 rfl rfl ?_
  refine tc_bipush (13) (by decide) C dX0_init_5 ?_
  refine tc_bipush (13) (by decide) C dX0_init_7 ?_
  refine tcw_mna (N := 13) (K := 13) 84 rfl C dX0_init_9 ccl_RX0_9 c_arr_int hlen (by decide) (by decide) (by decide) (by decide) (by decide) (by decide) (by decide) (by decide) (by decide) rfl (by decide +kernel) ?_
  refine tcw_put [.ref (G.2.1 + 84), .null, .int 0, .int 0, .int 0] C hI dX0_init_13 cfp_RX0_11 hlen rfl rfl (Nat.le_of_ble_eq_true rfl) rfl ?_
  refine tc_aload 0 _ 0 C dX0_init_16 rfl rfl ?_
  refine tc_bipush (108) (by decide) C dX0_init_17 ?_
  refine tc_newa (a0 := (108, .inl fun _ => 0)) (N := 108) 98 0 C dX0_init_19 rfl c_arr_int rfl (fun _ h => by cases h) (fun _ => rfl) (by decide) (by decide) (by decide) (tc_wa_len hlen rfl) (by decide) (by decide) ?_
  refine tcw_seal 98 rfl rfl ?_
  refine tcw_put [.ref (G.2.1 + 84), .ref (G.2.1 + 98), .int 0, .int 0, .int 0] C hI dX0_init_21 cfp_RX0_16 hlen rfl rfl (Nat.le_of_ble_eq_true rfl) rfl ?_
  have e9 : (.inr (0, [.ref (G.2.1 + 84), .ref (G.2.1 + 98), .int 0, .int 0, .int 0]) : va_E) = tc_fin G 83 := rfl
  rw [e9]
  exact hret 24 dX0_init_24
set_option maxRecDepth 100000 in
set_option maxHeartbeats 4000000 in
theorem k_X5_99 (G : tcG) (wp : va_W) (hlen : wp.length = 99) : tc_M G yX5_init cX5_init 1 20 20 252 99 (tc_wa G wp 99 (.inr (5, [.null, .null])) 0) (tc_wa G wp 99 (tc_fin G 99) 20) := by
  refine tc_start RX5 (by decide) rfl rfl (fun E C hI hret => ?_)
  refine tc_aload 0 _ 0 C dX5_init_0 rfl rfl ?_
  refine tc_objInit C dX5_init_1 cml_RX5_3 c_oinst c_ocode (by decide) (by decide) (Nat.le_of_ble_eq_true rfl) ?_
  refine tc_aload 0 _ 0 C dX5_init_4 rfl rfl ?_
  refine tc_bipush (9) (by decide) C dX5_init_5 ?_
  refine tc_bipush (13) (by decide) C dX5_init_7 ?_
  refine tcw_mna (N := 9) (K := 13) 100 rfl C dX5_init_9 ccl_RX5_9 c_arr_int hlen (by decide) (by decide) (by decide) (by decide) (by decide) (by decide) (by decide) (by decide) (by decide) rfl (by decide +kernel) ?_
  refine tcw_put [.ref (G.2.1 + 100), .null] C hI dX5_init_13 cfp_RX5_11 hlen rfl rfl (Nat.le_of_ble_eq_true rfl) rfl ?_
  refine tc_aload 0 _ 0 C dX5_init_16 rfl rfl ?_
  refine tc_bipush (9) (by decide) C dX5_init_17 ?_
  refine tc_bipush (13) (by decide) C dX5_init_19 ?_
  refine tcw_mna (N := 9) (K := 13) 110 rfl C dX5_init_21 ccl_RX5_9 c_arr_int hlen (by decide) (by decide) (by decide) (by decide) (by decide) (by decide) (by decide) (by decide) (by decide) rfl (by decide +kernel) ?_
  refine tcw_put [.ref (G.2.1 + 100), .ref (G.2.1 + 110)] C hI dX5_init_25 cfp_RX5_16 hlen rfl rfl (Nat.le_of_ble_eq_true rfl) rfl ?_
  have e9 : (.inr (5, [.ref (G.2.1 + 100), .ref (G.2.1 + 110)]) : va_E) = tc_fin G 99 := rfl
  rw [e9]
  exact hret 28 dX5_init_28
