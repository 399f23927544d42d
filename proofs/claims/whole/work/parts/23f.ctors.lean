/-! constructors, by program (wip/whole/gen/ctor.py) -/
set_option maxRecDepth 100000 in
set_option maxHeartbeats 4000000 in
theorem k_X2_80 (G : tcG) (wp : va_W) (hlen : wp.length = 80) : tc_M G yX2_init cX2_init 2 40 39 567 80 (tc_wa G wp 80 (.inr (2, [.null, .null, .null, .null])) 0) (tc_wa G wp 80 (tc_fin G 80) 39) := by
  refine tc_start RX2 (by decide) rfl rfl (fun E C hI hret => ?_)
  refine tc_aload 0 _ 0 C dX2_init_0 rfl rfl ?_
  refine tc_objInit C dX2_init_1 cml_RX2_3 c_oinst c_ocode (by decide) (by decide) (Nat.le_of_ble_eq_true rfl) ?_
  refine tc_aload 0 _ 0 C dX2_init_4 rfl rfl ?_
  refine tc_bipush (9) (by decide) C dX2_init_5 ?_
  refine tc_newa (a0 := (9, .inl fun _ => 0)) (N := 9) 81 0 C dX2_init_7 rfl c_arr_int rfl (fun _ h => by cases h) (fun _ => rfl) (by decide) (by decide) (by decide) (tc_wa_len hlen rfl) (by decide) (by decide) ?_
  refine tcw_seal 81 rfl rfl ?_
  refine tcw_put [.ref (G.2.1 + 81), .null, .null, .null] C hI dX2_init_9 cfp_RX2_9 hlen rfl rfl (Nat.le_of_ble_eq_true rfl) rfl ?_
  refine tc_aload 0 _ 0 C dX2_init_12 rfl rfl ?_
  refine tc_bipush (9) (by decide) C dX2_init_13 ?_
  refine tc_newa (a0 := (9, .inl fun _ => 0)) (N := 9) 82 0 C dX2_init_15 rfl c_arr_int rfl (fun _ h => by cases h) (fun _ => rfl) (by decide) (by decide) (by decide) (tc_wa_len hlen rfl) (by decide) (by decide) ?_
  refine tcw_seal 82 rfl rfl ?_
  refine tcw_put [.ref (G.2.1 + 81), .ref (G.2.1 + 82), .null, .null] C hI dX2_init_17 cfp_RX2_15 hlen rfl rfl (Nat.le_of_ble_eq_true rfl) rfl ?_
  refine tc_aload 0 _ 0 C dX2_init_20 rfl rfl ?_
  refine tc_new 83 C dX2_init_21 cfn_RX2_18 (tc_wa_len hlen rfl) (by decide) (by decide) ?_
  refine tc_dup C dX2_init_24 ?_
  refine tcw_callN (mc := 15) (ms := 290) (f0 := 1) (l0 := 20) 83 rfl C dX2_init_25 (List.mem_of_getElem? (i := 7) rfl) clc_X0 hlen (fun wp h => k_X0_83 G wp h) (by decide) (Nat.le_of_ble_eq_true rfl) (by decide) (by decide) ?_
  refine tcw_put [.ref (G.2.1 + 81), .ref (G.2.1 + 82), .ref (G.2.1 + 83), .null] C hI dX2_init_28 cfp_RX2_21 hlen rfl rfl (Nat.le_of_ble_eq_true rfl) rfl ?_
  refine tc_aload 0 _ 0 C dX2_init_31 rfl rfl ?_
  refine tc_new 99 C dX2_init_32 cfn_RX2_25 (tc_wa_len hlen rfl) (by decide) (by decide) ?_
  refine tc_dup C dX2_init_35 ?_
  refine tcw_callN (mc := 20) (ms := 252) (f0 := 1) (l0 := 20) 99 rfl C dX2_init_36 (List.mem_of_getElem? (i := 8) rfl) clc_X5 hlen (fun wp h => k_X5_99 G wp h) (by decide) (Nat.le_of_ble_eq_true rfl) (by decide) (by decide) ?_
  refine tcw_put [.ref (G.2.1 + 81), .ref (G.2.1 + 82), .ref (G.2.1 + 83), .ref (G.2.1 + 99)] C hI dX2_init_39 cfp_RX2_28 hlen rfl rfl (Nat.le_of_ble_eq_true rfl) rfl ?_
  have e9 : (.inr (2, [.ref (G.2.1 + 81), .ref (G.2.1 + 82), .ref (G.2.1 + 83), .ref (G.2.1 + 99)]) : va_E) = tc_fin G 80 := rfl
  rw [e9]
  exact hret 42 dX2_init_42
set_option maxRecDepth 100000 in
set_option maxHeartbeats 4000000 in
theorem k_X4_120 (G : tcG) (wp : va_W) (hlen : wp.length = 120) : tc_M G yX4_init cX4_init 1 20 3 35 120 (tc_wa G wp 120 (.inr (4, [.null, .null, .null])) 0) (tc_wa G wp 120 (tc_fin G 120) 3) := by
  refine tc_start RX4 (by decide) rfl rfl (fun E C hI hret => ?_)
  refine tc_aload 0 _ 0 C dX4_init_0 rfl rfl ?_
  refine tc_objInit C dX4_init_1 cml_RX4_3 c_oinst c_ocode (by decide) (by decide) (Nat.le_of_ble_eq_true rfl) ?_
  refine tc_aload 0 _ 0 C dX4_init_4 rfl rfl ?_
  refine tc_bipush (12) (by decide) C dX4_init_5 ?_
  refine tc_newa (a0 := (12, .inl fun _ => 0)) (N := 12) 121 0 C dX4_init_7 rfl c_arr_int rfl (fun _ h => by cases h) (fun _ => rfl) (by decide) (by decide) (by decide) (tc_wa_len hlen rfl) (by decide) (by decide) ?_
  refine tcw_seal 121 rfl rfl ?_
  refine tcw_put [.ref (G.2.1 + 121), .null, .null] C hI dX4_init_9 cfp_RX4_9 hlen rfl rfl (Nat.le_of_ble_eq_true rfl) rfl ?_
  refine tc_aload 0 _ 0 C dX4_init_12 rfl rfl ?_
  refine tc_bipush (12) (by decide) C dX4_init_13 ?_
  refine tc_newa (a0 := (12, .inl fun _ => 0)) (N := 12) 122 0 C dX4_init_15 rfl c_arr_int rfl (fun _ h => by cases h) (fun _ => rfl) (by decide) (by decide) (by decide) (tc_wa_len hlen rfl) (by decide) (by decide) ?_
  refine tcw_seal 122 rfl rfl ?_
  refine tcw_put [.ref (G.2.1 + 121), .ref (G.2.1 + 122), .null] C hI dX4_init_17 cfp_RX4_15 hlen rfl rfl (Nat.le_of_ble_eq_true rfl) rfl ?_
  refine tc_aload 0 _ 0 C dX4_init_20 rfl rfl ?_
  refine tc_bipush (11) (by decide) C dX4_init_21 ?_
  refine tc_newa (a0 := (11, .inl fun _ => 0)) (N := 11) 123 0 C dX4_init_23 rfl c_arr_int rfl (fun _ h => by cases h) (fun _ => rfl) (by decide) (by decide) (by decide) (tc_wa_len hlen rfl) (by decide) (by decide) ?_
  refine tcw_seal 123 rfl rfl ?_
  refine tcw_put [.ref (G.2.1 + 121), .ref (G.2.1 + 122), .ref (G.2.1 + 123)] C hI dX4_init_25 cfp_RX4_18 hlen rfl rfl (Nat.le_of_ble_eq_true rfl) rfl ?_
  have e9 : (.inr (4, [.ref (G.2.1 + 121), .ref (G.2.1 + 122), .ref (G.2.1 + 123)]) : va_E) = tc_fin G 120 := rfl
  rw [e9]
  exact hret 28 dX4_init_28
set_option maxRecDepth 100000 in
set_option maxHeartbeats 4000000 in
theorem k_X7_124 (G : tcG) (wp : va_W) (hlen : wp.length = 124) : tc_M G yX7_init cX7_init 1 20 7 252 124 (tc_wa G wp 124 (.inr (7, [.null, .null, .null])) 0) (tc_wa G wp 124 (tc_fin G 124) 7) := by
  refine tc_start RX7 (by decide) rfl rfl (fun E C hI hret => ?_)
  refine tc_aload 0 _ 0 C dX7_init_0 rfl rfl ?_
  refine tc_objInit C dX7_init_1 cml_RX7_3 c_oinst c_ocode (by decide) (by decide) (Nat.le_of_ble_eq_true rfl) ?_
  refine tc_aload 0 _ 0 C dX7_init_4 rfl rfl ?_
  refine tc_iconst (4) (by decide) C dX7_init_5 ?_
  refine tc_newa (a0 := (4, .inl fun _ => 0)) (N := 4) 125 0 C dX7_init_6 rfl c_arr_int rfl (fun _ h => by cases h) (fun _ => rfl) (by decide) (by decide) (by decide) (tc_wa_len hlen rfl) (by decide) (by decide) ?_
  refine tc_dup C dX7_init_8 ?_
  refine tc_iconst (0) (by decide) C dX7_init_9 ?_
  refine tc_iconst (-1) (by decide) C dX7_init_10 ?_
  refine tcw_iast 125 0 rfl (by decide) C dX7_init_11 hlen (by unfold vp_in; decide) ?_
  refine tc_dup C dX7_init_12 ?_
  refine tc_iconst (1) (by decide) C dX7_init_13 ?_
  refine tc_iconst (-1) (by decide) C dX7_init_14 ?_
  refine tcw_iast 125 1 rfl (by decide) C dX7_init_15 hlen (by unfold vp_in; decide) ?_
  refine tc_dup C dX7_init_16 ?_
  refine tc_iconst (2) (by decide) C dX7_init_17 ?_
  refine tc_iconst (-1) (by decide) C dX7_init_18 ?_
  refine tcw_iast 125 2 rfl (by decide) C dX7_init_19 hlen (by unfold vp_in; decide) ?_
  refine tc_dup C dX7_init_20 ?_
  refine tc_iconst (3) (by decide) C dX7_init_21 ?_
  refine tc_iconst (-1) (by decide) C dX7_init_22 ?_
  refine tcw_iast 125 3 rfl (by decide) C dX7_init_23 hlen (by unfold vp_in; decide) ?_
  refine tcw_seal 125 rfl rfl ?_
  refine tcw_put [.ref (G.2.1 + 125), .null, .null] C hI dX7_init_24 cfp_RX7_9 hlen rfl rfl (Nat.le_of_ble_eq_true rfl) rfl ?_
  refine tc_aload 0 _ 0 C dX7_init_27 rfl rfl ?_
  refine tc_iconst (4) (by decide) C dX7_init_28 ?_
  refine tc_newa (a0 := (4, .inl fun _ => 0)) (N := 4) 126 0 C dX7_init_29 rfl c_arr_int rfl (fun _ h => by cases h) (fun _ => rfl) (by decide) (by decide) (by decide) (tc_wa_len hlen rfl) (by decide) (by decide) ?_
  refine tcw_seal 126 rfl rfl ?_
  refine tcw_put [.ref (G.2.1 + 125), .ref (G.2.1 + 126), .null] C hI dX7_init_31 cfp_RX7_15 hlen rfl rfl (Nat.le_of_ble_eq_true rfl) rfl ?_
  refine tc_aload 0 _ 0 C dX7_init_34 rfl rfl ?_
  refine tc_iconst (4) (by decide) C dX7_init_35 ?_
  refine tc_bipush (60) (by decide) C dX7_init_36 ?_
  refine tcw_mna (N := 4) (K := 60) 127 rfl C dX7_init_38 ccl_RX7_18 c_arr_int hlen (by decide) (by decide) (by decide) (by decide) (by decide) (by decide) (by decide) (by decide) (by decide) rfl (by decide +kernel) ?_
  refine tcw_put [.ref (G.2.1 + 125), .ref (G.2.1 + 126), .ref (G.2.1 + 127)] C hI dX7_init_42 cfp_RX7_20 hlen rfl rfl (Nat.le_of_ble_eq_true rfl) rfl ?_
  have e9 : (.inr (7, [.ref (G.2.1 + 125), .ref (G.2.1 + 126), .ref (G.2.1 + 127)]) : va_E) = tc_fin G 124 := rfl
  rw [e9]
  exact hret 45 dX7_init_45
set_option maxRecDepth 100000 in
set_option maxHeartbeats 4000000 in
theorem k_X9_0 (G : tcG) (wp : va_W) (hlen : wp.length = 0) : tc_M G yX9_init cX9_init 3 60 132 4035 0 (tc_wa G wp 0 (.inr (9, [.null, .null, .null, .null, .null, .null, .null, .null, .null, .null, .int 0, .int 0, .int 0, .int 0, .int 0, .int 0, .int 0])) 0) (tc_wa G wp 0 (tc_fin G 0) 132) := by
  refine tc_start RX9 (by decide) rfl rfl (fun E C hI hret => ?_)
  refine tc_aload 0 _ 0 C dX9_init_0 rfl rfl ?_
  refine tc_objInit C dX9_init_1 cml_RX9_3 c_oinst c_ocode (by decide) (by decide) (Nat.le_of_ble_eq_true rfl) ?_
  refine tc_aload 0 _ 0 C dX9_init_4 rfl rfl ?_
  refine tc_new 1 C dX9_init_5 cfn_RX9_9 (tc_wa_len hlen rfl) (by decide) (by decide) ?_
  refine tc_dup C dX9_init_8 ?_
  refine tcw_callN (mc := 1) (ms := 200) (f0 := 1) (l0 := 20) 1 rfl C dX9_init_9 (List.mem_of_getElem? (i := 0) rfl) clc_X8 hlen (fun wp h => k_X8_1 G wp h) (by decide) (Nat.le_of_ble_eq_true rfl) (by decide) (by decide) ?_
  refine tcw_put [.ref (G.2.1 + 1), .null, .null, .null, .null, .null, .null, .null, .null, .null, .int 0, .int 0, .int 0, .int 0, .int 0, .int 0, .int 0] C hI dX9_init_12 cfp_RX9_12 hlen rfl rfl (Nat.le_of_ble_eq_true rfl) rfl ?_
  refine tc_aload 0 _ 0 C dX9_init_15 rfl rfl ?_
  refine tc_new 3 C dX9_init_16 cfn_RX9_16 (tc_wa_len hlen rfl) (by decide) (by decide) ?_
  refine tc_dup C dX9_init_19 ?_
  refine tcw_callN (mc := 0) (ms := 0) (f0 := 1) (l0 := 20) 3 rfl C dX9_init_20 (List.mem_of_getElem? (i := 1) rfl) clc_X3 hlen (fun wp h => k_X3_3 G wp h) (by decide) (Nat.le_of_ble_eq_true rfl) (by decide) (by decide) ?_
  refine tcw_put [.ref (G.2.1 + 1), .ref (G.2.1 + 3), .null, .null, .null, .null, .null, .null, .null, .null, .int 0, .int 0, .int 0, .int 0, .int 0, .int 0, .int 0] C hI dX9_init_23 cfp_RX9_19 hlen rfl rfl (Nat.le_of_ble_eq_true rfl) rfl ?_
  refine tc_aload 0 _ 0 C dX9_init_26 rfl rfl ?_
  refine tc_new 4 C dX9_init_27 cfn_RX9_23 (tc_wa_len hlen rfl) (by decide) (by decide) ?_
  refine tc_dup C dX9_init_30 ?_
  refine tcw_callN (mc := 33) (ms := 1992) (f0 := 1) (l0 := 20) 4 rfl C dX9_init_31 (List.mem_of_getElem? (i := 2) rfl) clc_X6 hlen (fun wp h => k_X6_4 G wp h) (by decide) (Nat.le_of_ble_eq_true rfl) (by decide) (by decide) ?_
  refine tcw_put [.ref (G.2.1 + 1), .ref (G.2.1 + 3), .ref (G.2.1 + 4), .null, .null, .null, .null, .null, .null, .null, .int 0, .int 0, .int 0, .int 0, .int 0, .int 0, .int 0] C hI dX9_init_34 cfp_RX9_26 hlen rfl rfl (Nat.le_of_ble_eq_true rfl) rfl ?_
  refine tc_aload 0 _ 0 C dX9_init_37 rfl rfl ?_
  refine tc_new 38 C dX9_init_38 cfn_RX9_30 (tc_wa_len hlen rfl) (by decide) (by decide) ?_
  refine tc_dup C dX9_init_41 ?_
  refine tcw_callN (mc := 4) (ms := 400) (f0 := 1) (l0 := 20) 38 rfl C dX9_init_42 (List.mem_of_getElem? (i := 3) rfl) clc_X1 hlen (fun wp h => k_X1_38 G wp h) (by decide) (Nat.le_of_ble_eq_true rfl) (by decide) (by decide) ?_
  refine tcw_put [.ref (G.2.1 + 1), .ref (G.2.1 + 3), .ref (G.2.1 + 4), .ref (G.2.1 + 38), .null, .null, .null, .null, .null, .null, .int 0, .int 0, .int 0, .int 0, .int 0, .int 0, .int 0] C hI dX9_init_45 cfp_RX9_33 hlen rfl rfl (Nat.le_of_ble_eq_true rfl) rfl ?_
  refine tc_aload 0 _ 0 C dX9_init_48 rfl rfl ?_
  refine tc_new 43 C dX9_init_49 cfn_RX9_37 (tc_wa_len hlen rfl) (by decide) (by decide) ?_
  refine tc_dup C dX9_init_52 ?_
  refine tcw_callN (mc := 15) (ms := 290) (f0 := 1) (l0 := 20) 43 rfl C dX9_init_53 (List.mem_of_getElem? (i := 4) rfl) clc_X0 hlen (fun wp h => k_X0_43 G wp h) (by decide) (Nat.le_of_ble_eq_true rfl) (by decide) (by decide) ?_
  refine tcw_put [.ref (G.2.1 + 1), .ref (G.2.1 + 3), .ref (G.2.1 + 4), .ref (G.2.1 + 38), .ref (G.2.1 + 43), .null, .null, .null, .null, .null, .int 0, .int 0, .int 0, .int 0, .int 0, .int 0, .int 0] C hI dX9_init_56 cfp_RX9_40 hlen rfl rfl (Nat.le_of_ble_eq_true rfl) rfl ?_
  refine tc_aload 0 _ 0 C dX9_init_59 rfl rfl ?_
  refine tc_new 59 C dX9_init_60 cfn_RX9_44 (tc_wa_len hlen rfl) (by decide) (by decide) ?_
  refine tc_dup C dX9_init_63 ?_
  refine tcw_callN (mc := 20) (ms := 252) (f0 := 1) (l0 := 20) 59 rfl C dX9_init_64 (List.mem_of_getElem? (i := 5) rfl) clc_X5 hlen (fun wp h => k_X5_59 G wp h) (by decide) (Nat.le_of_ble_eq_true rfl) (by decide) (by decide) ?_
  refine tcw_put [.ref (G.2.1 + 1), .ref (G.2.1 + 3), .ref (G.2.1 + 4), .ref (G.2.1 + 38), .ref (G.2.1 + 43), .ref (G.2.1 + 59), .null, .null, .null, .null, .int 0, .int 0, .int 0, .int 0, .int 0, .int 0, .int 0] C hI dX9_init_67 cfp_RX9_47 hlen rfl rfl (Nat.le_of_ble_eq_true rfl) rfl ?_
  refine tc_aload 0 _ 0 C dX9_init_70 rfl rfl ?_
  refine tc_new 80 C dX9_init_71 cfn_RX9_51 (tc_wa_len hlen rfl) (by decide) (by decide) ?_
  refine tc_dup C dX9_init_74 ?_
  refine tcw_callN (mc := 39) (ms := 567) (f0 := 2) (l0 := 40) 80 rfl C dX9_init_75 (List.mem_of_getElem? (i := 6) rfl) clc_X2 hlen (fun wp h => k_X2_80 G wp h) (by decide) (Nat.le_of_ble_eq_true rfl) (by decide) (by decide) ?_
  refine tcw_put [.ref (G.2.1 + 1), .ref (G.2.1 + 3), .ref (G.2.1 + 4), .ref (G.2.1 + 38), .ref (G.2.1 + 43), .ref (G.2.1 + 59), .ref (G.2.1 + 80), .null, .null, .null, .int 0, .int 0, .int 0, .int 0, .int 0, .int 0, .int 0] C hI dX9_init_78 cfp_RX9_54 hlen rfl rfl (Nat.le_of_ble_eq_true rfl) rfl ?_
  refine tc_aload 0 _ 0 C dX9_init_81 rfl rfl ?_
  refine tc_new 120 C dX9_init_82 cfn_RX9_58 (tc_wa_len hlen rfl) (by decide) (by decide) ?_
  refine tc_dup C dX9_init_85 ?_
  refine tcw_callN (mc := 3) (ms := 35) (f0 := 1) (l0 := 20) 120 rfl C dX9_init_86 (List.mem_of_getElem? (i := 9) rfl) clc_X4 hlen (fun wp h => k_X4_120 G wp h) (by decide) (Nat.le_of_ble_eq_true rfl) (by decide) (by decide) ?_
  refine tcw_put [.ref (G.2.1 + 1), .ref (G.2.1 + 3), .ref (G.2.1 + 4), .ref (G.2.1 + 38), .ref (G.2.1 + 43), .ref (G.2.1 + 59), .ref (G.2.1 + 80), .ref (G.2.1 + 120), .null, .null, .int 0, .int 0, .int 0, .int 0, .int 0, .int 0, .int 0] C hI dX9_init_89 cfp_RX9_61 hlen rfl rfl (Nat.le_of_ble_eq_true rfl) rfl ?_
  refine tc_aload 0 _ 0 C dX9_init_92 rfl rfl ?_
  refine tc_new 124 C dX9_init_93 cfn_RX9_65 (tc_wa_len hlen rfl) (by decide) (by decide) ?_
  refine tc_dup C dX9_init_96 ?_
  refine tcw_callN (mc := 7) (ms := 252) (f0 := 1) (l0 := 20) 124 rfl C dX9_init_97 (List.mem_of_getElem? (i := 10) rfl) clc_X7 hlen (fun wp h => k_X7_124 G wp h) (by decide) (Nat.le_of_ble_eq_true rfl) (by decide) (by decide) ?_
  refine tcw_put [.ref (G.2.1 + 1), .ref (G.2.1 + 3), .ref (G.2.1 + 4), .ref (G.2.1 + 38), .ref (G.2.1 + 43), .ref (G.2.1 + 59), .ref (G.2.1 + 80), .ref (G.2.1 + 120), .ref (G.2.1 + 124), .null, .int 0, .int 0, .int 0, .int 0, .int 0, .int 0, .int 0] C hI dX9_init_100 cfp_RX9_68 hlen rfl rfl (Nat.le_of_ble_eq_true rfl) rfl ?_
  refine tc_aload 0 _ 0 C dX9_init_103 rfl rfl ?_
  refine tc_iconst (4) (by decide) C dX9_init_104 ?_
  refine tc_newa (a0 := (4, .inl fun _ => 0)) (N := 4) 132 0 C dX9_init_105 rfl c_arr_int rfl (fun _ h => by cases h) (fun _ => rfl) (by decide) (by decide) (by decide) (tc_wa_len hlen rfl) (by decide) (by decide) ?_
  refine tc_dup C dX9_init_107 ?_
  refine tc_iconst (0) (by decide) C dX9_init_108 ?_
  refine tc_iconst (0) (by decide) C dX9_init_109 ?_
  refine tcw_iast 132 0 rfl (by decide) C dX9_init_110 hlen (by unfold vp_in; decide) ?_
  refine tc_dup C dX9_init_111 ?_
  refine tc_iconst (1) (by decide) C dX9_init_112 ?_
  refine tc_iconst (3) (by decide) C dX9_init_113 ?_
  refine tcw_iast 132 1 rfl (by decide) C dX9_init_114 hlen (by unfold vp_in; decide) ?_
  refine tc_dup C dX9_init_115 ?_
  refine tc_iconst (2) (by decide) C dX9_init_116 ?_
  refine tc_iconst (2) (by decide) C dX9_init_117 ?_
  refine tcw_iast 132 2 rfl (by decide) C dX9_init_118 hlen (by unfold vp_in; decide) ?_
  refine tc_dup C dX9_init_119 ?_
  refine tc_iconst (3) (by decide) C dX9_init_120 ?_
  refine tc_iconst (2) (by decide) C dX9_init_121 ?_
  refine tcw_iast 132 3 rfl (by decide) C dX9_init_122 hlen (by unfold vp_in; decide) ?_
  refine tcw_seal 132 rfl rfl ?_
  refine tcw_put [.ref (G.2.1 + 1), .ref (G.2.1 + 3), .ref (G.2.1 + 4), .ref (G.2.1 + 38), .ref (G.2.1 + 43), .ref (G.2.1 + 59), .ref (G.2.1 + 80), .ref (G.2.1 + 120), .ref (G.2.1 + 124), .ref (G.2.1 + 132), .int 0, .int 0, .int 0, .int 0, .int 0, .int 0, .int 0] C hI dX9_init_123 cfp_RX9_72 hlen rfl rfl (Nat.le_of_ble_eq_true rfl) rfl ?_
  refine tc_aload 0 _ 0 C dX9_init_126 rfl rfl ?_
  refine tc_iconst (0) (by decide) C dX9_init_127 ?_
  refine tcw_put [.ref (G.2.1 + 1), .ref (G.2.1 + 3), .ref (G.2.1 + 4), .ref (G.2.1 + 38), .ref (G.2.1 + 43), .ref (G.2.1 + 59), .ref (G.2.1 + 80), .ref (G.2.1 + 120), .ref (G.2.1 + 124), .ref (G.2.1 + 132), .int (0), .int 0, .int 0, .int 0, .int 0, .int 0, .int 0] C hI dX9_init_128 cfp_RX9_76 hlen rfl rfl (Nat.le_of_ble_eq_true rfl) rfl ?_
  refine tc_aload 0 _ 0 C dX9_init_131 rfl rfl ?_
  refine tc_iconst (0) (by decide) C dX9_init_132 ?_
  refine tcw_put [.ref (G.2.1 + 1), .ref (G.2.1 + 3), .ref (G.2.1 + 4), .ref (G.2.1 + 38), .ref (G.2.1 + 43), .ref (G.2.1 + 59), .ref (G.2.1 + 80), .ref (G.2.1 + 120), .ref (G.2.1 + 124), .ref (G.2.1 + 132), .int (0), .int (0), .int 0, .int 0, .int 0, .int 0, .int 0] C hI dX9_init_133 cfp_RX9_80 hlen rfl rfl (Nat.le_of_ble_eq_true rfl) rfl ?_
  refine tc_aload 0 _ 0 C dX9_init_136 rfl rfl ?_
  refine tc_iconst (0) (by decide) C dX9_init_137 ?_
  refine tcw_put [.ref (G.2.1 + 1), .ref (G.2.1 + 3), .ref (G.2.1 + 4), .ref (G.2.1 + 38), .ref (G.2.1 + 43), .ref (G.2.1 + 59), .ref (G.2.1 + 80), .ref (G.2.1 + 120), .ref (G.2.1 + 124), .ref (G.2.1 + 132), .int (0), .int (0), .int (0), .int 0, .int 0, .int 0, .int 0] C hI dX9_init_138 cfp_RX9_83 hlen rfl rfl (Nat.le_of_ble_eq_true rfl) rfl ?_
  refine tc_aload 0 _ 0 C dX9_init_141 rfl rfl ?_
  refine tc_iconst (0) (by decide) C dX9_init_142 ?_
  refine tcw_put [.ref (G.2.1 + 1), .ref (G.2.1 + 3), .ref (G.2.1 + 4), .ref (G.2.1 + 38), .ref (G.2.1 + 43), .ref (G.2.1 + 59), .ref (G.2.1 + 80), .ref (G.2.1 + 120), .ref (G.2.1 + 124), .ref (G.2.1 + 132), .int (0), .int (0), .int (0), .int (0), .int 0, .int 0, .int 0] C hI dX9_init_143 cfp_RX9_87 hlen rfl rfl (Nat.le_of_ble_eq_true rfl) rfl ?_
  refine tc_aload 0 _ 0 C dX9_init_146 rfl rfl ?_
  refine tc_iconst (0) (by decide) C dX9_init_147 ?_
  refine tcw_put [.ref (G.2.1 + 1), .ref (G.2.1 + 3), .ref (G.2.1 + 4), .ref (G.2.1 + 38), .ref (G.2.1 + 43), .ref (G.2.1 + 59), .ref (G.2.1 + 80), .ref (G.2.1 + 120), .ref (G.2.1 + 124), .ref (G.2.1 + 132), .int (0), .int (0), .int (0), .int (0), .int (0), .int 0, .int 0] C hI dX9_init_148 cfp_RX9_90 hlen rfl rfl (Nat.le_of_ble_eq_true rfl) rfl ?_
  refine tc_aload 0 _ 0 C dX9_init_151 rfl rfl ?_
  refine tc_iconst (0) (by decide) C dX9_init_152 ?_
  refine tcw_put [.ref (G.2.1 + 1), .ref (G.2.1 + 3), .ref (G.2.1 + 4), .ref (G.2.1 + 38), .ref (G.2.1 + 43), .ref (G.2.1 + 59), .ref (G.2.1 + 80), .ref (G.2.1 + 120), .ref (G.2.1 + 124), .ref (G.2.1 + 132), .int (0), .int (0), .int (0), .int (0), .int (0), .int (0), .int 0] C hI dX9_init_153 cfp_RX9_93 hlen rfl rfl (Nat.le_of_ble_eq_true rfl) rfl ?_
  refine tc_aload 0 _ 0 C dX9_init_156 rfl rfl ?_
  refine tc_iconst (0) (by decide) C dX9_init_157 ?_
  refine tcw_put [.ref (G.2.1 + 1), .ref (G.2.1 + 3), .ref (G.2.1 + 4), .ref (G.2.1 + 38), .ref (G.2.1 + 43), .ref (G.2.1 + 59), .ref (G.2.1 + 80), .ref (G.2.1 + 120), .ref (G.2.1 + 124), .ref (G.2.1 + 132), .int (0), .int (0), .int (0), .int (0), .int (0), .int (0), .int (0)] C hI dX9_init_158 cfp_RX9_96 hlen rfl rfl (Nat.le_of_ble_eq_true rfl) rfl ?_
  have e9 : (.inr (9, [.ref (G.2.1 + 1), .ref (G.2.1 + 3), .ref (G.2.1 + 4), .ref (G.2.1 + 38), .ref (G.2.1 + 43), .ref (G.2.1 + 59), .ref (G.2.1 + 80), .ref (G.2.1 + 120), .ref (G.2.1 + 124), .ref (G.2.1 + 132), .int (0), .int (0), .int (0), .int (0), .int (0), .int (0), .int (0)]) : va_E) = tc_fin G 0 := rfl
  rw [e9]
  exact hret 161 dX9_init_161
set_option maxRecDepth 100000 in
set_option maxHeartbeats 4000000 in
theorem k_X10_133 (G : tcG) (wp : va_W) (hlen : wp.length = 133) : tc_M G yX10_init cX10_init 1 20 22 3353 133 (tc_wa G wp 133 (.inr (10, [.int 0, .null, .null, .int 0, .int 0, .int 0, .int 0, .int 0, .int 0, .int 0, .null, .null, .null, .null, .null, .null, .null, .null, .int 0, .int 0, .int 0, .int 0, .int 0, .null, .null, .null, .null, .null, .null, .null, .int 0, .null, .null, .null, .null, .null, .int 0])) 0) ((tc_wa G wp 133 (tc_fin G 133) 22).set 135 (G.2.1 + 135, .inl (G.2.2.1 0, 4, .inl (upd (upd (upd (fun _ => 0) 1 3) 2 2) 3 2)))) := by
  refine tc_start RX10 (by decide) rfl rfl (fun E C hI hret => ?_)
  refine tc_aload 0 _ 0 C dX10_init_0 rfl rfl ?_
  refine tc_objInit C dX10_init_1 cml_RX10_1 c_oinst c_ocode (by decide) (by decide) (Nat.le_of_ble_eq_true rfl) ?_
  refine tc_aload 0 _ 0 C dX10_init_4 rfl rfl ?_
  refine tc_sipush (200) (by decide) C dX10_init_5 ?_
  refine tc_newa (a0 := (200, .inl fun _ => 0)) (N := 200) 134 0 C dX10_init_8 rfl c_arr_int rfl (fun _ h => by cases h) (fun _ => rfl) (by decide) (by decide) (by decide) (tc_wa_len hlen rfl) (by decide) (by decide) ?_
  refine tcw_seal 134 rfl rfl ?_
  refine tcw_put [.int 0, .ref (G.2.1 + 134), .null, .int 0, .int 0, .int 0, .int 0, .int 0, .int 0, .int 0, .null, .null, .null, .null, .null, .null, .null, .null, .int 0, .int 0, .int 0, .int 0, .int 0, .null, .null, .null, .null, .null, .null, .null, .int 0, .null, .null, .null, .null, .null, .int 0] C hI dX10_init_10 cfp_RX10_7 hlen rfl rfl (Nat.le_of_ble_eq_true rfl) rfl ?_
  refine tc_aload 0 _ 0 C dX10_init_13 rfl rfl ?_
  refine tc_iconst (4) (by decide) C dX10_init_14 ?_
  refine tc_newa (a0 := (4, .inl fun _ => 0)) (N := 4) 135 0 C dX10_init_15 rfl c_arr_int rfl (fun _ h => by cases h) (fun _ => rfl) (by decide) (by decide) (by decide) (tc_wa_len hlen rfl) (by decide) (by decide) ?_
  refine tcw_seal 135 rfl rfl ?_
  refine tcw_put [.int 0, .ref (G.2.1 + 134), .ref (G.2.1 + 135), .int 0, .int 0, .int 0, .int 0, .int 0, .int 0, .int 0, .null, .null, .null, .null, .null, .null, .null, .null, .int 0, .int 0, .int 0, .int 0, .int 0, .null, .null, .null, .null, .null, .null, .null, .int 0, .null, .null, .null, .null, .null, .int 0] C hI dX10_init_17 cfp_RX10_13 hlen rfl rfl (Nat.le_of_ble_eq_true rfl) rfl ?_
  refine tc_aload 0 _ 0 C dX10_init_20 rfl rfl ?_
  refine tc_bipush (110) (by decide) C dX10_init_21 ?_
  refine tc_newa (a0 := (110, .inl fun _ => 0)) (N := 110) 136 0 C dX10_init_23 rfl c_arr_int rfl (fun _ h => by cases h) (fun _ => rfl) (by decide) (by decide) (by decide) (tc_wa_len hlen rfl) (by decide) (by decide) ?_
  refine tcw_seal 136 rfl rfl ?_
  refine tcw_put [.int 0, .ref (G.2.1 + 134), .ref (G.2.1 + 135), .int 0, .int 0, .int 0, .int 0, .int 0, .int 0, .int 0, .ref (G.2.1 + 136), .null, .null, .null, .null, .null, .null, .null, .int 0, .int 0, .int 0, .int 0, .int 0, .null, .null, .null, .null, .null, .null, .null, .int 0, .null, .null, .null, .null, .null, .int 0] C hI dX10_init_25 cfp_RX10_16 hlen rfl rfl (Nat.le_of_ble_eq_true rfl) rfl ?_
  refine tc_aload 0 _ 0 C dX10_init_28 rfl rfl ?_
  refine tc_bipush (110) (by decide) C dX10_init_29 ?_
  refine tc_newa (a0 := (110, .inl fun _ => 0)) (N := 110) 137 0 C dX10_init_31 rfl c_arr_int rfl (fun _ h => by cases h) (fun _ => rfl) (by decide) (by decide) (by decide) (tc_wa_len hlen rfl) (by decide) (by decide) ?_
  refine tcw_seal 137 rfl rfl ?_
  refine tcw_put [.int 0, .ref (G.2.1 + 134), .ref (G.2.1 + 135), .int 0, .int 0, .int 0, .int 0, .int 0, .int 0, .int 0, .ref (G.2.1 + 136), .ref (G.2.1 + 137), .null, .null, .null, .null, .null, .null, .int 0, .int 0, .int 0, .int 0, .int 0, .null, .null, .null, .null, .null, .null, .null, .int 0, .null, .null, .null, .null, .null, .int 0] C hI dX10_init_33 cfp_RX10_19 hlen rfl rfl (Nat.le_of_ble_eq_true rfl) rfl ?_
  refine tc_aload 0 _ 0 C dX10_init_36 rfl rfl ?_
  refine tc_bipush (110) (by decide) C dX10_init_37 ?_
  refine tc_newa (a0 := (110, .inl fun _ => 0)) (N := 110) 138 0 C dX10_init_39 rfl c_arr_int rfl (fun _ h => by cases h) (fun _ => rfl) (by decide) (by decide) (by decide) (tc_wa_len hlen rfl) (by decide) (by decide) ?_
  refine tcw_seal 138 rfl rfl ?_
  refine tcw_put [.int 0, .ref (G.2.1 + 134), .ref (G.2.1 + 135), .int 0, .int 0, .int 0, .int 0, .int 0, .int 0, .int 0, .ref (G.2.1 + 136), .ref (G.2.1 + 137), .ref (G.2.1 + 138), .null, .null, .null, .null, .null, .int 0, .int 0, .int 0, .int 0, .int 0, .null, .null, .null, .null, .null, .null, .null, .int 0, .null, .null, .null, .null, .null, .int 0] C hI dX10_init_41 cfp_RX10_22 hlen rfl rfl (Nat.le_of_ble_eq_true rfl) rfl ?_
  refine tc_aload 0 _ 0 C dX10_init_44 rfl rfl ?_
  refine tc_bipush (110) (by decide) C dX10_init_45 ?_
  refine tc_newa (a0 := (110, .inl fun _ => 0)) (N := 110) 139 0 C dX10_init_47 rfl c_arr_int rfl (fun _ h => by cases h) (fun _ => rfl) (by decide) (by decide) (by decide) (tc_wa_len hlen rfl) (by decide) (by decide) ?_
  refine tcw_seal 139 rfl rfl ?_
  refine tcw_put [.int 0, .ref (G.2.1 + 134), .ref (G.2.1 + 135), .int 0, .int 0, .int 0, .int 0, .int 0, .int 0, .int 0, .ref (G.2.1 + 136), .ref (G.2.1 + 137), .ref (G.2.1 + 138), .ref (G.2.1 + 139), .null, .null, .null, .null, .int 0, .int 0, .int 0, .int 0, .int 0, .null, .null, .null, .null, .null, .null, .null, .int 0, .null, .null, .null, .null, .null, .int 0] C hI dX10_init_49 cfp_RX10_25 hlen rfl rfl (Nat.le_of_ble_eq_true rfl) rfl ?_
  refine tc_aload 0 _ 0 C dX10_init_52 rfl rfl ?_
  refine tc_bipush (110) (by decide) C dX10_init_53 ?_
  refine tc_newa (a0 := (110, .inl fun _ => 0)) (N := 110) 140 0 C dX10_init_55 rfl c_arr_int rfl (fun _ h => by cases h) (fun _ => rfl) (by decide) (by decide) (by decide) (tc_wa_len hlen rfl) (by decide) (by decide) ?_
  refine tcw_seal 140 rfl rfl ?_
  refine tcw_put [.int 0, .ref (G.2.1 + 134), .ref (G.2.1 + 135), .int 0, .int 0, .int 0, .int 0, .int 0, .int 0, .int 0, .ref (G.2.1 + 136), .ref (G.2.1 + 137), .ref (G.2.1 + 138), .ref (G.2.1 + 139), .ref (G.2.1 + 140), .null, .null, .null, .int 0, .int 0, .int 0, .int 0, .int 0, .null, .null, .null, .null, .null, .null, .null, .int 0, .null, .null, .null, .null, .null, .int 0] C hI dX10_init_57 cfp_RX10_28 hlen rfl rfl (Nat.le_of_ble_eq_true rfl) rfl ?_
  refine tc_aload 0 _ 0 C dX10_init_60 rfl rfl ?_
  refine tc_bipush (110) (by decide) C dX10_init_61 ?_
  refine tc_newa (a0 := (110, .inl fun _ => 0)) (N := 110) 141 0 C dX10_init_63 rfl c_arr_int rfl (fun _ h => by cases h) (fun _ => rfl) (by decide) (by decide) (by decide) (tc_wa_len hlen rfl) (by decide) (by decide) ?_
  refine tcw_seal 141 rfl rfl ?_
  refine tcw_put [.int 0, .ref (G.2.1 + 134), .ref (G.2.1 + 135), .int 0, .int 0, .int 0, .int 0, .int 0, .int 0, .int 0, .ref (G.2.1 + 136), .ref (G.2.1 + 137), .ref (G.2.1 + 138), .ref (G.2.1 + 139), .ref (G.2.1 + 140), .ref (G.2.1 + 141), .null, .null, .int 0, .int 0, .int 0, .int 0, .int 0, .null, .null, .null, .null, .null, .null, .null, .int 0, .null, .null, .null, .null, .null, .int 0] C hI dX10_init_65 cfp_RX10_31 hlen rfl rfl (Nat.le_of_ble_eq_true rfl) rfl ?_
  refine tc_aload 0 _ 0 C dX10_init_68 rfl rfl ?_
  refine tc_bipush (14) (by decide) C dX10_init_69 ?_
  refine tc_newa (a0 := (14, .inl fun _ => 0)) (N := 14) 142 0 C dX10_init_71 rfl c_arr_int rfl (fun _ h => by cases h) (fun _ => rfl) (by decide) (by decide) (by decide) (tc_wa_len hlen rfl) (by decide) (by decide) ?_
  refine tcw_seal 142 rfl rfl ?_
  refine tcw_put [.int 0, .ref (G.2.1 + 134), .ref (G.2.1 + 135), .int 0, .int 0, .int 0, .int 0, .int 0, .int 0, .int 0, .ref (G.2.1 + 136), .ref (G.2.1 + 137), .ref (G.2.1 + 138), .ref (G.2.1 + 139), .ref (G.2.1 + 140), .ref (G.2.1 + 141), .ref (G.2.1 + 142), .null, .int 0, .int 0, .int 0, .int 0, .int 0, .null, .null, .null, .null, .null, .null, .null, .int 0, .null, .null, .null, .null, .null, .int 0] C hI dX10_init_73 cfp_RX10_34 hlen rfl rfl (Nat.le_of_ble_eq_true rfl) rfl ?_
  refine tc_aload 0 _ 0 C dX10_init_76 rfl rfl ?_
  refine tc_sipush (1320) (by decide) C dX10_init_77 ?_
  refine tc_newa (a0 := (1320, .inl fun _ => 0)) (N := 1320) 143 0 C dX10_init_80 rfl c_arr_int rfl (fun _ h => by cases h) (fun _ => rfl) (by decide) (by decide) (by decide) (tc_wa_len hlen rfl) (by decide) (by decide) ?_
  refine tcw_seal 143 rfl rfl ?_
  refine tcw_put [.int 0, .ref (G.2.1 + 134), .ref (G.2.1 + 135), .int 0, .int 0, .int 0, .int 0, .int 0, .int 0, .int 0, .ref (G.2.1 + 136), .ref (G.2.1 + 137), .ref (G.2.1 + 138), .ref (G.2.1 + 139), .ref (G.2.1 + 140), .ref (G.2.1 + 141), .ref (G.2.1 + 142), .ref (G.2.1 + 143), .int 0, .int 0, .int 0, .int 0, .int 0, .null, .null, .null, .null, .null, .null, .null, .int 0, .null, .null, .null, .null, .null, .int 0] C hI dX10_init_82 cfp_RX10_37 hlen rfl rfl (Nat.le_of_ble_eq_true rfl) rfl ?_
  refine tc_aload 0 _ 0 C dX10_init_85 rfl rfl ?_
  refine tc_bipush (110) (by decide) C dX10_init_86 ?_
  refine tc_newa (a0 := (110, .inl fun _ => 0)) (N := 110) 144 0 C dX10_init_88 rfl c_arr_int rfl (fun _ h => by cases h) (fun _ => rfl) (by decide) (by decide) (by decide) (tc_wa_len hlen rfl) (by decide) (by decide) ?_
  refine tcw_seal 144 rfl rfl ?_
  refine tcw_put [.int 0, .ref (G.2.1 + 134), .ref (G.2.1 + 135), .int 0, .int 0, .int 0, .int 0, .int 0, .int 0, .int 0, .ref (G.2.1 + 136), .ref (G.2.1 + 137), .ref (G.2.1 + 138), .ref (G.2.1 + 139), .ref (G.2.1 + 140), .ref (G.2.1 + 141), .ref (G.2.1 + 142), .ref (G.2.1 + 143), .int 0, .int 0, .int 0, .int 0, .int 0, .ref (G.2.1 + 144), .null, .null, .null, .null, .null, .null, .int 0, .null, .null, .null, .null, .null, .int 0] C hI dX10_init_90 cfp_RX10_40 hlen rfl rfl (Nat.le_of_ble_eq_true rfl) rfl ?_
  refine tc_aload 0 _ 0 C dX10_init_93 rfl rfl ?_
  refine tc_bipush (110) (by decide) C dX10_init_94 ?_
  refine tc_newa (a0 := (110, .inl fun _ => 0)) (N := 110) 145 0 C dX10_init_96 rfl c_arr_int rfl (fun _ h => by cases h) (fun _ => rfl) (by decide) (by decide) (by decide) (tc_wa_len hlen rfl) (by decide) (by decide) ?_
  refine tcw_seal 145 rfl rfl ?_
  refine tcw_put [.int 0, .ref (G.2.1 + 134), .ref (G.2.1 + 135), .int 0, .int 0, .int 0, .int 0, .int 0, .int 0, .int 0, .ref (G.2.1 + 136), .ref (G.2.1 + 137), .ref (G.2.1 + 138), .ref (G.2.1 + 139), .ref (G.2.1 + 140), .ref (G.2.1 + 141), .ref (G.2.1 + 142), .ref (G.2.1 + 143), .int 0, .int 0, .int 0, .int 0, .int 0, .ref (G.2.1 + 144), .ref (G.2.1 + 145), .null, .null, .null, .null, .null, .int 0, .null, .null, .null, .null, .null, .int 0] C hI dX10_init_98 cfp_RX10_43 hlen rfl rfl (Nat.le_of_ble_eq_true rfl) rfl ?_
  refine tc_aload 0 _ 0 C dX10_init_101 rfl rfl ?_
  refine tc_bipush (110) (by decide) C dX10_init_102 ?_
  refine tc_newa (a0 := (110, .inl fun _ => 0)) (N := 110) 146 0 C dX10_init_104 rfl c_arr_int rfl (fun _ h => by cases h) (fun _ => rfl) (by decide) (by decide) (by decide) (tc_wa_len hlen rfl) (by decide) (by decide) ?_
  refine tcw_seal 146 rfl rfl ?_
  refine tcw_put [.int 0, .ref (G.2.1 + 134), .ref (G.2.1 + 135), .int 0, .int 0, .int 0, .int 0, .int 0, .int 0, .int 0, .ref (G.2.1 + 136), .ref (G.2.1 + 137), .ref (G.2.1 + 138), .ref (G.2.1 + 139), .ref (G.2.1 + 140), .ref (G.2.1 + 141), .ref (G.2.1 + 142), .ref (G.2.1 + 143), .int 0, .int 0, .int 0, .int 0, .int 0, .ref (G.2.1 + 144), .ref (G.2.1 + 145), .ref (G.2.1 + 146), .null, .null, .null, .null, .int 0, .null, .null, .null, .null, .null, .int 0] C hI dX10_init_106 cfp_RX10_46 hlen rfl rfl (Nat.le_of_ble_eq_true rfl) rfl ?_
  refine tc_aload 0 _ 0 C dX10_init_109 rfl rfl ?_
  refine tc_bipush (110) (by decide) C dX10_init_110 ?_
  refine tc_newa (a0 := (110, .inl fun _ => 0)) (N := 110) 147 0 C dX10_init_112 rfl c_arr_int rfl (fun _ h => by cases h) (fun _ => rfl) (by decide) (by decide) (by decide) (tc_wa_len hlen rfl) (by decide) (by decide) ?_
  refine tcw_seal 147 rfl rfl ?_
  refine tcw_put [.int 0, .ref (G.2.1 + 134), .ref (G.2.1 + 135), .int 0, .int 0, .int 0, .int 0, .int 0, .int 0, .int 0, .ref (G.2.1 + 136), .ref (G.2.1 + 137), .ref (G.2.1 + 138), .ref (G.2.1 + 139), .ref (G.2.1 + 140), .ref (G.2.1 + 141), .ref (G.2.1 + 142), .ref (G.2.1 + 143), .int 0, .int 0, .int 0, .int 0, .int 0, .ref (G.2.1 + 144), .ref (G.2.1 + 145), .ref (G.2.1 + 146), .ref (G.2.1 + 147), .null, .null, .null, .int 0, .null, .null, .null, .null, .null, .int 0] C hI dX10_init_114 cfp_RX10_49 hlen rfl rfl (Nat.le_of_ble_eq_true rfl) rfl ?_
  refine tc_aload 0 _ 0 C dX10_init_117 rfl rfl ?_
  refine tc_sipush (169) (by decide) C dX10_init_118 ?_
  refine tc_newa (a0 := (169, .inl fun _ => 0)) (N := 169) 148 0 C dX10_init_121 rfl c_arr_int rfl (fun _ h => by cases h) (fun _ => rfl) (by decide) (by decide) (by decide) (tc_wa_len hlen rfl) (by decide) (by decide) ?_
  refine tcw_seal 148 rfl rfl ?_
  refine tcw_put [.int 0, .ref (G.2.1 + 134), .ref (G.2.1 + 135), .int 0, .int 0, .int 0, .int 0, .int 0, .int 0, .int 0, .ref (G.2.1 + 136), .ref (G.2.1 + 137), .ref (G.2.1 + 138), .ref (G.2.1 + 139), .ref (G.2.1 + 140), .ref (G.2.1 + 141), .ref (G.2.1 + 142), .ref (G.2.1 + 143), .int 0, .int 0, .int 0, .int 0, .int 0, .ref (G.2.1 + 144), .ref (G.2.1 + 145), .ref (G.2.1 + 146), .ref (G.2.1 + 147), .ref (G.2.1 + 148), .null, .null, .int 0, .null, .null, .null, .null, .null, .int 0] C hI dX10_init_123 cfp_RX10_52 hlen rfl rfl (Nat.le_of_ble_eq_true rfl) rfl ?_
  refine tc_aload 0 _ 0 C dX10_init_126 rfl rfl ?_
  refine tc_bipush (117) (by decide) C dX10_init_127 ?_
  refine tc_newa (a0 := (117, .inl fun _ => 0)) (N := 117) 149 0 C dX10_init_129 rfl c_arr_int rfl (fun _ h => by cases h) (fun _ => rfl) (by decide) (by decide) (by decide) (tc_wa_len hlen rfl) (by decide) (by decide) ?_
  refine tcw_seal 149 rfl rfl ?_
  refine tcw_put [.int 0, .ref (G.2.1 + 134), .ref (G.2.1 + 135), .int 0, .int 0, .int 0, .int 0, .int 0, .int 0, .int 0, .ref (G.2.1 + 136), .ref (G.2.1 + 137), .ref (G.2.1 + 138), .ref (G.2.1 + 139), .ref (G.2.1 + 140), .ref (G.2.1 + 141), .ref (G.2.1 + 142), .ref (G.2.1 + 143), .int 0, .int 0, .int 0, .int 0, .int 0, .ref (G.2.1 + 144), .ref (G.2.1 + 145), .ref (G.2.1 + 146), .ref (G.2.1 + 147), .ref (G.2.1 + 148), .ref (G.2.1 + 149), .null, .int 0, .null, .null, .null, .null, .null, .int 0] C hI dX10_init_131 cfp_RX10_55 hlen rfl rfl (Nat.le_of_ble_eq_true rfl) rfl ?_
  refine tc_aload 0 _ 0 C dX10_init_134 rfl rfl ?_
  refine tc_bipush (117) (by decide) C dX10_init_135 ?_
  refine tc_newa (a0 := (117, .inl fun _ => 0)) (N := 117) 150 0 C dX10_init_137 rfl c_arr_int rfl (fun _ h => by cases h) (fun _ => rfl) (by decide) (by decide) (by decide) (tc_wa_len hlen rfl) (by decide) (by decide) ?_
  refine tcw_seal 150 rfl rfl ?_
  refine tcw_put [.int 0, .ref (G.2.1 + 134), .ref (G.2.1 + 135), .int 0, .int 0, .int 0, .int 0, .int 0, .int 0, .int 0, .ref (G.2.1 + 136), .ref (G.2.1 + 137), .ref (G.2.1 + 138), .ref (G.2.1 + 139), .ref (G.2.1 + 140), .ref (G.2.1 + 141), .ref (G.2.1 + 142), .ref (G.2.1 + 143), .int 0, .int 0, .int 0, .int 0, .int 0, .ref (G.2.1 + 144), .ref (G.2.1 + 145), .ref (G.2.1 + 146), .ref (G.2.1 + 147), .ref (G.2.1 + 148), .ref (G.2.1 + 149), .ref (G.2.1 + 150), .int 0, .null, .null, .null, .null, .null, .int 0] C hI dX10_init_139 cfp_RX10_58 hlen rfl rfl (Nat.le_of_ble_eq_true rfl) rfl ?_
  refine tc_aload 0 _ 0 C dX10_init_142 rfl rfl ?_
  refine tc_iconst (4) (by decide) C dX10_init_143 ?_
  refine tc_newa (a0 := (4, .inl fun _ => 0)) (N := 4) 151 1 C dX10_init_144 rfl c_arr_boolean rfl (fun _ h => by cases h) (fun _ => rfl) (by decide) (by decide) (by decide) (tc_wa_len hlen rfl) (by decide) (by decide) ?_
  refine tcw_seal 151 rfl rfl ?_
  refine tcw_put [.int 0, .ref (G.2.1 + 134), .ref (G.2.1 + 135), .int 0, .int 0, .int 0, .int 0, .int 0, .int 0, .int 0, .ref (G.2.1 + 136), .ref (G.2.1 + 137), .ref (G.2.1 + 138), .ref (G.2.1 + 139), .ref (G.2.1 + 140), .ref (G.2.1 + 141), .ref (G.2.1 + 142), .ref (G.2.1 + 143), .int 0, .int 0, .int 0, .int 0, .int 0, .ref (G.2.1 + 144), .ref (G.2.1 + 145), .ref (G.2.1 + 146), .ref (G.2.1 + 147), .ref (G.2.1 + 148), .ref (G.2.1 + 149), .ref (G.2.1 + 150), .int 0, .ref (G.2.1 + 151), .null, .null, .null, .null, .int 0] C hI dX10_init_146 cfp_RX10_61 hlen rfl rfl (Nat.le_of_ble_eq_true rfl) rfl ?_
  refine tc_aload 0 _ 0 C dX10_init_149 rfl rfl ?_
  refine tc_iconst (4) (by decide) C dX10_init_150 ?_
  refine tc_newa (a0 := (4, .inl fun _ => 0)) (N := 4) 152 0 C dX10_init_151 rfl c_arr_int rfl (fun _ h => by cases h) (fun _ => rfl) (by decide) (by decide) (by decide) (tc_wa_len hlen rfl) (by decide) (by decide) ?_
  refine tcw_seal 152 rfl rfl ?_
  refine tcw_put [.int 0, .ref (G.2.1 + 134), .ref (G.2.1 + 135), .int 0, .int 0, .int 0, .int 0, .int 0, .int 0, .int 0, .ref (G.2.1 + 136), .ref (G.2.1 + 137), .ref (G.2.1 + 138), .ref (G.2.1 + 139), .ref (G.2.1 + 140), .ref (G.2.1 + 141), .ref (G.2.1 + 142), .ref (G.2.1 + 143), .int 0, .int 0, .int 0, .int 0, .int 0, .ref (G.2.1 + 144), .ref (G.2.1 + 145), .ref (G.2.1 + 146), .ref (G.2.1 + 147), .ref (G.2.1 + 148), .ref (G.2.1 + 149), .ref (G.2.1 + 150), .int 0, .ref (G.2.1 + 151), .ref (G.2.1 + 152), .null, .null, .null, .int 0] C hI dX10_init_153 cfp_RX10_65 hlen rfl rfl (Nat.le_of_ble_eq_true rfl) rfl ?_
  refine tc_aload 0 _ 0 C dX10_init_156 rfl rfl ?_
  refine tc_iconst (4) (by decide) C dX10_init_157 ?_
  refine tc_newa (a0 := (4, .inl fun _ => 0)) (N := 4) 153 0 C dX10_init_158 rfl c_arr_int rfl (fun _ h => by cases h) (fun _ => rfl) (by decide) (by decide) (by decide) (tc_wa_len hlen rfl) (by decide) (by decide) ?_
  refine tcw_seal 153 rfl rfl ?_
  refine tcw_put [.int 0, .ref (G.2.1 + 134), .ref (G.2.1 + 135), .int 0, .int 0, .int 0, .int 0, .int 0, .int 0, .int 0, .ref (G.2.1 + 136), .ref (G.2.1 + 137), .ref (G.2.1 + 138), .ref (G.2.1 + 139), .ref (G.2.1 + 140), .ref (G.2.1 + 141), .ref (G.2.1 + 142), .ref (G.2.1 + 143), .int 0, .int 0, .int 0, .int 0, .int 0, .ref (G.2.1 + 144), .ref (G.2.1 + 145), .ref (G.2.1 + 146), .ref (G.2.1 + 147), .ref (G.2.1 + 148), .ref (G.2.1 + 149), .ref (G.2.1 + 150), .int 0, .ref (G.2.1 + 151), .ref (G.2.1 + 152), .ref (G.2.1 + 153), .null, .null, .int 0] C hI dX10_init_160 cfp_RX10_68 hlen rfl rfl (Nat.le_of_ble_eq_true rfl) rfl ?_
  refine tc_aload 0 _ 0 C dX10_init_163 rfl rfl ?_
  refine tc_sipush (240) (by decide) C dX10_init_164 ?_
  refine tc_newa (a0 := (240, .inl fun _ => 0)) (N := 240) 154 0 C dX10_init_167 rfl c_arr_int rfl (fun _ h => by cases h) (fun _ => rfl) (by decide) (by decide) (by decide) (tc_wa_len hlen rfl) (by decide) (by decide) ?_
  refine tcw_seal 154 rfl rfl ?_
  refine tcw_put [.int 0, .ref (G.2.1 + 134), .ref (G.2.1 + 135), .int 0, .int 0, .int 0, .int 0, .int 0, .int 0, .int 0, .ref (G.2.1 + 136), .ref (G.2.1 + 137), .ref (G.2.1 + 138), .ref (G.2.1 + 139), .ref (G.2.1 + 140), .ref (G.2.1 + 141), .ref (G.2.1 + 142), .ref (G.2.1 + 143), .int 0, .int 0, .int 0, .int 0, .int 0, .ref (G.2.1 + 144), .ref (G.2.1 + 145), .ref (G.2.1 + 146), .ref (G.2.1 + 147), .ref (G.2.1 + 148), .ref (G.2.1 + 149), .ref (G.2.1 + 150), .int 0, .ref (G.2.1 + 151), .ref (G.2.1 + 152), .ref (G.2.1 + 153), .ref (G.2.1 + 154), .null, .int 0] C hI dX10_init_169 cfp_RX10_71 hlen rfl rfl (Nat.le_of_ble_eq_true rfl) rfl ?_
  refine tc_aload 0 _ 0 C dX10_init_172 rfl rfl ?_
  refine tc_bipush (60) (by decide) C dX10_init_173 ?_
  refine tc_newa (a0 := (60, .inl fun _ => 0)) (N := 60) 155 0 C dX10_init_175 rfl c_arr_int rfl (fun _ h => by cases h) (fun _ => rfl) (by decide) (by decide) (by decide) (tc_wa_len hlen rfl) (by decide) (by decide) ?_
  refine tcw_seal 155 rfl rfl ?_
  refine tcw_put [.int 0, .ref (G.2.1 + 134), .ref (G.2.1 + 135), .int 0, .int 0, .int 0, .int 0, .int 0, .int 0, .int 0, .ref (G.2.1 + 136), .ref (G.2.1 + 137), .ref (G.2.1 + 138), .ref (G.2.1 + 139), .ref (G.2.1 + 140), .ref (G.2.1 + 141), .ref (G.2.1 + 142), .ref (G.2.1 + 143), .int 0, .int 0, .int 0, .int 0, .int 0, .ref (G.2.1 + 144), .ref (G.2.1 + 145), .ref (G.2.1 + 146), .ref (G.2.1 + 147), .ref (G.2.1 + 148), .ref (G.2.1 + 149), .ref (G.2.1 + 150), .int 0, .ref (G.2.1 + 151), .ref (G.2.1 + 152), .ref (G.2.1 + 153), .ref (G.2.1 + 154), .ref (G.2.1 + 155), .int 0] C hI dX10_init_177 cfp_RX10_74 hlen rfl rfl (Nat.le_of_ble_eq_true rfl) rfl ?_
  refine tc_aload 0 _ 0 C dX10_init_180 rfl rfl ?_
  refine tc_get (v := .ref (G.2.1 + 135)) 133 C dX10_init_181 cfl_RX10_13 (tc_wa_at hlen) rfl ?_
  refine tc_iconst (1) (by decide) C dX10_init_184 ?_
  refine tc_iconst (3) (by decide) C dX10_init_185 ?_
  refine tc_iast 135 C dX10_init_186 ((tc_wa_in hlen (by decide) (by decide)).trans (by rw [tc_fin_int (N := 4) rfl (by decide)])) (by unfold vp_in; decide) ?_
  refine tc_aload 0 _ 0 C dX10_init_187 rfl rfl ?_
  refine tc_get (v := .ref (G.2.1 + 135)) 133 C dX10_init_188 cfl_RX10_13 (((List.getElem?_set_ne (by decide)).trans (tc_wa_at hlen))) rfl ?_
  refine tc_iconst (2) (by decide) C dX10_init_191 ?_
  refine tc_iconst (2) (by decide) C dX10_init_192 ?_
  refine tc_iast 135 C dX10_init_193 (List.getElem?_set_self (by rw [tc_wa_len hlen (m := 156) rfl]; decide)) (by unfold vp_in; decide) ?_
  rw [List.set_set]
  refine tc_aload 0 _ 0 C dX10_init_194 rfl rfl ?_
  refine tc_get (v := .ref (G.2.1 + 135)) 133 C dX10_init_195 cfl_RX10_13 (((List.getElem?_set_ne (by decide)).trans (tc_wa_at hlen))) rfl ?_
  refine tc_iconst (3) (by decide) C dX10_init_198 ?_
  refine tc_iconst (2) (by decide) C dX10_init_199 ?_
  refine tc_iast 135 C dX10_init_200 (List.getElem?_set_self (by rw [tc_wa_len hlen (m := 156) rfl]; decide)) (by unfold vp_in; decide) ?_
  rw [List.set_set]
  have e9 : (.inr (10, [.int 0, .ref (G.2.1 + 134), .ref (G.2.1 + 135), .int 0, .int 0, .int 0, .int 0, .int 0, .int 0, .int 0, .ref (G.2.1 + 136), .ref (G.2.1 + 137), .ref (G.2.1 + 138), .ref (G.2.1 + 139), .ref (G.2.1 + 140), .ref (G.2.1 + 141), .ref (G.2.1 + 142), .ref (G.2.1 + 143), .int 0, .int 0, .int 0, .int 0, .int 0, .ref (G.2.1 + 144), .ref (G.2.1 + 145), .ref (G.2.1 + 146), .ref (G.2.1 + 147), .ref (G.2.1 + 148), .ref (G.2.1 + 149), .ref (G.2.1 + 150), .int 0, .ref (G.2.1 + 151), .ref (G.2.1 + 152), .ref (G.2.1 + 153), .ref (G.2.1 + 154), .ref (G.2.1 + 155), .int 0]) : va_E) = tc_fin G 133 := rfl
  rw [e9]
  exact hret 201 dX10_init_201
