def vc_X10_write (x1 : Int32) (x2 : Int32) (σ : tzS) (Q : Int32 → tzS → Prop) : Prop :=
  vc_X10_isParts x1 σ (fun (r_2 : Int32) (σ_1 : tzS) =>
    (r_2 = 0 →
      Q (-2) σ_1) ∧
    (¬ r_2 = 0 →
      vc_X10_isSheet x2 σ_1 (fun (r_5 : Int32) (σ_4 : tzS) =>
        (¬ r_5 = 0 →
          vp_in x2 4 ∧ (
            (¬ (σ_4.1 151 x2.toNatClampNeg) = 0 →
              vc_X10_partsTold  σ_4 (fun (σ_9 : tzS) =>
                tz_loop1 (fun (x3_12 : Int32) (σ_11 : tzS) (ag_10 : Int32 → tzS → Prop) =>
                  vc_X10_totalNow x1 σ_11 (fun (r_14 : Int32) (σ_13 : tzS) =>
                    (r_14 = (-1) →
                      Q x3_12 σ_13) ∧
                    (¬ r_14 = (-1) →
                      ((σ_13.1 153 x2.toNatClampNeg) ≤ x3_12 →
                        Q x3_12 σ_13) ∧
                      (¬ (σ_13.1 153 x2.toNatClampNeg) ≤ x3_12 →
                        (x1 ≤ x3_12 →
                          Q x3_12 σ_13) ∧
                        (¬ x1 ≤ x3_12 →
                          vc_X10_seamNow x1 x3_12 σ_13 (fun (r_19 : Int32) (σ_18 : tzS) =>
                            vc_X10_keep x2 x3_12 r_19 σ_18 (fun (σ_20 : tzS) =>
                              ∀ x3_21 : Int32, x3_21 = x3_12 + 1 →
                              ag_10 x3_21 σ_20))))))) (0 : Int32) σ_9)) ∧
            ((σ_4.1 151 x2.toNatClampNeg) = 0 →
              vc_X10_meets 1 σ_4 (fun (r_23 : Int32) (σ_22 : tzS) =>
                Q r_23 σ_22)))) ∧
        (r_5 = 0 →
          Q (-2) σ_4))))
set_option maxRecDepth 20000 in
set_option maxHeartbeats 4000000 in
theorem m_X10_write (G : tzG) (hG : tz_ok G) {x1 : Int32} {x2 : Int32}  {σ : tzS} {Q : Int32 → tzS → Prop} (h : vc_X10_write x1 x2 σ Q) : tz_M G yX10_write cX10_write 4 (some .int) 5 115 [.ref 133, .int x1, .int x2] σ (tz_Qi G Q) := by
  unfold vc_X10_write at h
  refine tz_starti hG RX10 [(0, .ref 133), (1, .int x1), (2, .int x2)] (by decide) rfl (Nat.le_of_ble_eq_true rfl) rfl (fun E C hret => ?_)
  refine tz_iload_n 1 1 C dX10_write_0 rfl rfl ?_
  refine tz_callis C dX10_write_1 lk_RX10_234 (m_X10_isParts G hG  h) rfl ⟨Nat.le_of_ble_eq_true rfl, Nat.le_of_ble_eq_true rfl⟩ (Nat.le_of_ble_eq_true rfl) rfl (fun r_2 σ_1 h => ?_)
  refine tz_if_eq 14 C dX10_write_4 (by decide) h (fun c_3 h => ?_) (fun c_3 h => ?_)
  · refine tz_bipush (-2) (by decide) C dX10_write_14 ?_
    exact hret _ _ _ _ dX10_write_16 h
  · refine tz_iload_n 2 2 C dX10_write_7 rfl rfl ?_
    refine tz_callis C dX10_write_8 lk_RX10_92 (m_X10_isSheet G hG  h) rfl ⟨Nat.le_of_ble_eq_true rfl, Nat.le_of_ble_eq_true rfl⟩ (Nat.le_of_ble_eq_true rfl) rfl (fun r_5 σ_4 h => ?_)
    refine tz_if_ne 17 C dX10_write_11 (by decide) h (fun c_6 h => ?_) (fun c_6 h => ?_)
    · refine tz_aload_n 0 0 C dX10_write_17 rfl rfl ?_
      refine tz_getR C dX10_write_18 fl_RX10_61 (by decide) rfl rfl ?_
      refine tz_iload_n 2 2 C dX10_write_21 rfl rfl ?_
      obtain ⟨hin_7, h⟩ := h
      refine tz_zald C dX10_write_22 (by decide) rfl hin_7 ?_
      refine tz_if_ne 32 C dX10_write_23 (by decide) h (fun c_8 h => ?_) (fun c_8 h => ?_)
      · refine tz_aload_n 0 0 C dX10_write_32 rfl rfl ?_
        refine tz_callvv C dX10_write_33 lk_RX10_228 (m_X10_partsTold G hG  h) (by decide) rfl rfl rfl rfl ⟨Nat.le_of_ble_eq_true rfl, Nat.le_of_ble_eq_true rfl⟩ (Nat.le_of_ble_eq_true rfl) rfl (fun σ_9 h => ?_)
        refine tz_iconst 0 (by decide) C dX10_write_36 ?_
        refine tz_istore_n_k 3 [(0, .ref 133), (1, .int x1), (2, .int x2)] C dX10_write_37 rfl (Nat.le_of_ble_eq_true rfl) rfl ?_
        refine tz_sub (L := [(0, .ref 133), (1, .int x1), (2, .int x2), (3, .int 0)]) ?_ [1, 2, 3, 0] rfl
        refine tz_loop1_w (V := fun (x3_12 : Int32) (σ_11 : tzS) => tz_V G E 38 [(0, .ref 133), (1, .int x1), (2, .int x2), (3, .int x3_12)] [] σ_11) h (fun ag_10 ihag_10 x3_12 σ_11 h => ?_)
        refine tz_aload_n 0 0 C dX10_write_38 rfl rfl ?_
        refine tz_iload_n 1 1 C dX10_write_39 rfl rfl ?_
        refine tz_calliv C dX10_write_40 lk_RX10_231 (m_X10_totalNow G hG  h) (by decide) rfl rfl rfl rfl ⟨Nat.le_of_ble_eq_true rfl, Nat.le_of_ble_eq_true rfl⟩ (Nat.le_of_ble_eq_true rfl) rfl (fun r_14 σ_13 h => ?_)
        refine tz_iconst (-1) (by decide) C dX10_write_43 ?_
        refine tz_icmp_eq 80 C dX10_write_44 (by decide) h (fun c_15 h => ?_) (fun c_15 h => ?_)
        · refine tz_iload_n 3 3 C dX10_write_80 rfl rfl ?_
          exact hret _ _ _ _ dX10_write_81 h
        · refine tz_iload_n 3 3 C dX10_write_47 rfl rfl ?_
          refine tz_aload_n 0 0 C dX10_write_48 rfl rfl ?_
          refine tz_getR C dX10_write_49 fl_RX10_68 (by decide) rfl rfl ?_
          refine tz_iload_n 2 2 C dX10_write_52 rfl rfl ?_
          refine tz_iald C dX10_write_53 (by decide) rfl hin_7 ?_
          refine tz_icmp_ge 80 C dX10_write_54 (by decide) h (fun c_16 h => ?_) (fun c_16 h => ?_)
          · refine tz_iload_n 3 3 C dX10_write_80 rfl rfl ?_
            exact hret _ _ _ _ dX10_write_81 h
          · refine tz_iload_n 3 3 C dX10_write_57 rfl rfl ?_
            refine tz_iload_n 1 1 C dX10_write_58 rfl rfl ?_
            refine tz_icmp_ge 80 C dX10_write_59 (by decide) h (fun c_17 h => ?_) (fun c_17 h => ?_)
            · refine tz_iload_n 3 3 C dX10_write_80 rfl rfl ?_
              exact hret _ _ _ _ dX10_write_81 h
            · refine tz_aload_n 0 0 C dX10_write_62 rfl rfl ?_
              refine tz_iload_n 2 2 C dX10_write_63 rfl rfl ?_
              refine tz_iload_n 3 3 C dX10_write_64 rfl rfl ?_
              refine tz_aload_n 0 0 C dX10_write_65 rfl rfl ?_
              refine tz_iload_n 1 1 C dX10_write_66 rfl rfl ?_
              refine tz_iload_n 3 3 C dX10_write_67 rfl rfl ?_
              refine tz_calliv C dX10_write_68 lk_RX10_240 (m_X10_seamNow G hG  h) (by decide) rfl rfl rfl rfl ⟨Nat.le_of_ble_eq_true rfl, Nat.le_of_ble_eq_true rfl⟩ (Nat.le_of_ble_eq_true rfl) rfl (fun r_19 σ_18 h => ?_)
              refine tz_callvv C dX10_write_71 lk_RX10_274 (m_X10_keep G hG  h) (by decide) rfl rfl rfl rfl ⟨Nat.le_of_ble_eq_true rfl, Nat.le_of_ble_eq_true rfl⟩ (Nat.le_of_ble_eq_true rfl) rfl (fun σ_20 h => ?_)
              refine tz_iinc 3 [(0, .ref 133), (1, .int x1), (2, .int x2)] 1 C dX10_write_74 (by decide) rfl (Nat.le_of_ble_eq_true rfl) rfl h (fun x3_21 h => ?_)
              refine tz_goto 38 C dX10_write_77 (by decide) ?_
              exact tz_sub (ihag_10 _ _ h) [1, 2, 3, 0] rfl
      · refine tz_aload_n 0 0 C dX10_write_26 rfl rfl ?_
        refine tz_iconst 1 (by decide) C dX10_write_27 ?_
        refine tz_calliv C dX10_write_28 lk_RX10_96 (m_X10_meets G hG  h) (by decide) rfl rfl rfl rfl ⟨Nat.le_of_ble_eq_true rfl, Nat.le_of_ble_eq_true rfl⟩ (Nat.le_of_ble_eq_true rfl) rfl (fun r_23 σ_22 h => ?_)
        exact hret _ _ _ _ dX10_write_31 h
    · refine tz_bipush (-2) (by decide) C dX10_write_14 ?_
      exact hret _ _ _ _ dX10_write_16 h

def vc_X10_tellOf (x1 : Int32) (σ : tzS) (Q : Int32 → tzS → Prop) : Prop :=
  vc_X10_reads  σ (fun (σ_1 : tzS) =>
    (¬ x1 = 1 →
      (¬ x1 = 2 →
        Q (σ_1.1 133 9) σ_1) ∧
      (x1 = 2 →
        Q (σ_1.1 133 8) σ_1)) ∧
    (x1 = 1 →
      Q (σ_1.1 133 7) σ_1))
set_option maxRecDepth 20000 in
set_option maxHeartbeats 4000000 in
theorem m_X10_tellOf (G : tzG) (hG : tz_ok G) {x1 : Int32}  {σ : tzS} {Q : Int32 → tzS → Prop} (h : vc_X10_tellOf x1 σ Q) : tz_M G yX10_tellOf cX10_tellOf 2 (some .int) 4 95 [.ref 133, .int x1] σ (tz_Qi G Q) := by
  unfold vc_X10_tellOf at h
  refine tz_starti hG RX10 [(0, .ref 133), (1, .int x1)] (by decide) rfl (Nat.le_of_ble_eq_true rfl) rfl (fun E C hret => ?_)
  refine tz_aload_n 0 0 C dX10_tellOf_0 rfl rfl ?_
  refine tz_callvv C dX10_tellOf_1 lk_RX10_147 (m_X10_reads G hG  h) (by decide) rfl rfl rfl rfl ⟨Nat.le_of_ble_eq_true rfl, Nat.le_of_ble_eq_true rfl⟩ (Nat.le_of_ble_eq_true rfl) rfl (fun σ_1 h => ?_)
  refine tz_iload_n 1 1 C dX10_tellOf_4 rfl rfl ?_
  refine tz_iconst 1 (by decide) C dX10_tellOf_5 ?_
  refine tz_icmp_ne 16 C dX10_tellOf_6 (by decide) h (fun c_2 h => ?_) (fun c_2 h => ?_)
  · refine tz_iload_n 1 1 C dX10_tellOf_16 rfl rfl ?_
    refine tz_iconst 2 (by decide) C dX10_tellOf_17 ?_
    refine tz_icmp_ne 28 C dX10_tellOf_18 (by decide) h (fun c_3 h => ?_) (fun c_3 h => ?_)
    · refine tz_aload_n 0 0 C dX10_tellOf_28 rfl rfl ?_
      refine tz_getI C dX10_tellOf_29 fl_RX10_135 (by decide) rfl rfl ?_
      exact hret _ _ _ _ dX10_tellOf_32 h
    · refine tz_aload_n 0 0 C dX10_tellOf_21 rfl rfl ?_
      refine tz_getI C dX10_tellOf_22 fl_RX10_115 (by decide) rfl rfl ?_
      refine tz_goto 32 C dX10_tellOf_25 (by decide) ?_
      exact hret _ _ _ _ dX10_tellOf_32 h
  · refine tz_aload_n 0 0 C dX10_tellOf_9 rfl rfl ?_
    refine tz_getI C dX10_tellOf_10 fl_RX10_109 (by decide) rfl rfl ?_
    refine tz_goto 32 C dX10_tellOf_13 (by decide) ?_
    exact hret _ _ _ _ dX10_tellOf_32 h

def vc_X10_count (x1 : Int32) (σ : tzS) (Q : Int32 → tzS → Prop) : Prop :=
  (x1 = 0 →
    Q (σ.1 133 0) σ) ∧
  (x1 = 1 →
    vc_X10_tellOf x1 σ (fun (r_2 : Int32) (σ_1 : tzS) =>
      Q r_2 σ_1)) ∧
  (x1 = 2 →
    vc_X10_tellOf x1 σ (fun (r_4 : Int32) (σ_3 : tzS) =>
      Q r_4 σ_3)) ∧
  (x1 = 3 →
    vc_X10_tellOf x1 σ (fun (r_6 : Int32) (σ_5 : tzS) =>
      Q r_6 σ_5)) ∧
  (x1 = 4 →
    vc_X10_chainsOf  σ (fun (r_8 : Int32) (σ_7 : tzS) =>
      Q r_8 σ_7)) ∧
  (x1 = 5 →
    Q (σ.1 135 0) σ) ∧
  (x1 = 6 →
    Q (σ.1 135 1) σ) ∧
  (x1 = 7 →
    Q (σ.1 133 3) σ) ∧
  (x1 = 8 →
    Q (σ.1 133 36) σ) ∧
  (¬ x1 = 0 → ¬ x1 = 1 → ¬ x1 = 2 → ¬ x1 = 3 → ¬ x1 = 4 → ¬ x1 = 5 → ¬ x1 = 6 → ¬ x1 = 7 → ¬ x1 = 8 →
    Q (-2) σ)
set_option maxRecDepth 20000 in
set_option maxHeartbeats 4000000 in
theorem m_X10_count (G : tzG) (hG : tz_ok G) {x1 : Int32}  {σ : tzS} {Q : Int32 → tzS → Prop} (h : vc_X10_count x1 σ Q) : tz_M G yX10_count cX10_count 2 (some .int) 6 141 [.ref 133, .int x1] σ (tz_Qi G Q) := by
  unfold vc_X10_count at h
  refine tz_starti hG RX10 [(0, .ref 133), (1, .int x1)] (by decide) rfl (Nat.le_of_ble_eq_true rfl) rfl (fun E C hret => ?_)
  refine tz_iload_n 1 1 C dX10_count_0 rfl rfl ?_
  refine tz_swc 0 (51) 52 C dX10_count_1 (by decide) (by decide) rfl (by decide) h (fun h => ?_) (fun e0 h => ?_)
  · refine tz_aload_n 0 0 C dX10_count_52 rfl rfl ?_
    refine tz_getI C dX10_count_53 fl_RX10_81 (by decide) rfl rfl ?_
    exact hret _ _ _ _ dX10_count_56 h
  refine tz_swc 1 (56) 57 C dX10_count_1 (by decide) (by decide) rfl (by decide) h (fun h => ?_) (fun e1 h => ?_)
  · refine tz_aload_n 0 0 C dX10_count_57 rfl rfl ?_
    refine tz_iload_n 1 1 C dX10_count_58 rfl rfl ?_
    refine tz_calliv C dX10_count_59 lk_RX10_279 (m_X10_tellOf G hG  h) (by decide) rfl rfl rfl rfl ⟨Nat.le_of_ble_eq_true rfl, Nat.le_of_ble_eq_true rfl⟩ (Nat.le_of_ble_eq_true rfl) rfl (fun r_2 σ_1 h => ?_)
    exact hret _ _ _ _ dX10_count_62 h
  refine tz_swc 2 (56) 57 C dX10_count_1 (by decide) (by decide) rfl (by decide) h (fun h => ?_) (fun e2 h => ?_)
  · refine tz_aload_n 0 0 C dX10_count_57 rfl rfl ?_
    refine tz_iload_n 1 1 C dX10_count_58 rfl rfl ?_
    refine tz_calliv C dX10_count_59 lk_RX10_279 (m_X10_tellOf G hG  h) (by decide) rfl rfl rfl rfl ⟨Nat.le_of_ble_eq_true rfl, Nat.le_of_ble_eq_true rfl⟩ (Nat.le_of_ble_eq_true rfl) rfl (fun r_4 σ_3 h => ?_)
    exact hret _ _ _ _ dX10_count_62 h
  refine tz_swc 3 (56) 57 C dX10_count_1 (by decide) (by decide) rfl (by decide) h (fun h => ?_) (fun e3 h => ?_)
  · refine tz_aload_n 0 0 C dX10_count_57 rfl rfl ?_
    refine tz_iload_n 1 1 C dX10_count_58 rfl rfl ?_
    refine tz_calliv C dX10_count_59 lk_RX10_279 (m_X10_tellOf G hG  h) (by decide) rfl rfl rfl rfl ⟨Nat.le_of_ble_eq_true rfl, Nat.le_of_ble_eq_true rfl⟩ (Nat.le_of_ble_eq_true rfl) rfl (fun r_6 σ_5 h => ?_)
    exact hret _ _ _ _ dX10_count_62 h
  refine tz_swc 4 (62) 63 C dX10_count_1 (by decide) (by decide) rfl (by decide) h (fun h => ?_) (fun e4 h => ?_)
  · refine tz_aload_n 0 0 C dX10_count_63 rfl rfl ?_
    refine tz_calliv C dX10_count_64 lk_RX10_194 (m_X10_chainsOf G hG  h) (by decide) rfl rfl rfl rfl ⟨Nat.le_of_ble_eq_true rfl, Nat.le_of_ble_eq_true rfl⟩ (Nat.le_of_ble_eq_true rfl) rfl (fun r_8 σ_7 h => ?_)
    exact hret _ _ _ _ dX10_count_67 h
  refine tz_swc 5 (67) 68 C dX10_count_1 (by decide) (by decide) rfl (by decide) h (fun h => ?_) (fun e5 h => ?_)
  · refine tz_aload_n 0 0 C dX10_count_68 rfl rfl ?_
    refine tz_getR C dX10_count_69 fl_RX10_13 (by decide) rfl rfl ?_
    refine tz_iconst 0 (by decide) C dX10_count_72 ?_
    refine tz_iald_c 0 C dX10_count_73 (by decide) rfl (tz_inl rfl) rfl ?_
    exact hret _ _ _ _ dX10_count_74 h
  refine tz_swc 6 (74) 75 C dX10_count_1 (by decide) (by decide) rfl (by decide) h (fun h => ?_) (fun e6 h => ?_)
  · refine tz_aload_n 0 0 C dX10_count_75 rfl rfl ?_
    refine tz_getR C dX10_count_76 fl_RX10_13 (by decide) rfl rfl ?_
    refine tz_iconst 1 (by decide) C dX10_count_79 ?_
    refine tz_iald_c 1 C dX10_count_80 (by decide) rfl (tz_inl rfl) rfl ?_
    exact hret _ _ _ _ dX10_count_81 h
  refine tz_swc 7 (81) 82 C dX10_count_1 (by decide) (by decide) rfl (by decide) h (fun h => ?_) (fun e7 h => ?_)
  · refine tz_aload_n 0 0 C dX10_count_82 rfl rfl ?_
    refine tz_getI C dX10_count_83 fl_RX10_89 (by decide) rfl rfl ?_
    exact hret _ _ _ _ dX10_count_86 h
  refine tz_swc 8 (86) 87 C dX10_count_1 (by decide) (by decide) rfl (by decide) h (fun h => ?_) (fun e8 h => ?_)
  · refine tz_aload_n 0 0 C dX10_count_87 rfl rfl ?_
    refine tz_getI C dX10_count_88 fl_RX10_267 (by decide) rfl rfl ?_
    exact hret _ _ _ _ dX10_count_91 h
  replace h := h e0 e1 e2 e3 e4 e5 e6 e7 e8
  refine tz_tabOut 92 C dX10_count_1 (tz_out8 e0 e1 e2 e3 e4 e5 e6 e7 e8) (by decide) ?_
  refine tz_bipush (-2) (by decide) C dX10_count_92 ?_
  exact hret _ _ _ _ dX10_count_94 h

def vc_X10_sentenceDigest (x1 : Int64) (x3 : Int32) (σ : tzS) (Q : Int64 → tzS → Prop) : Prop :=
  tz_loop2 (fun (x4_3 : Int64) (x6_4 : Int32) (σ_2 : tzS) (ag_1 : Int64 → Int32 → tzS → Prop) =>
    ((4 : Int32) ≤ x6_4 →
      vc_X10_word x3 0 σ_2 (fun (r_7 : Int32) (σ_6 : tzS) =>
        ∀ x4_8 : Int64, x4_8 = ((31 * x4_3) + r_7.toInt64) →
        vc_X10_word x3 2 σ_6 (fun (r_10 : Int32) (σ_9 : tzS) =>
          ∀ x4_11 : Int64, x4_11 = ((31 * x4_8) + r_10.toInt64) →
          vc_X10_gap x3 0 σ_9 (fun (r_13 : Int32) (σ_12 : tzS) =>
            ∀ x4_14 : Int64, x4_14 = ((31 * x4_11) + r_13.toInt64) →
            vc_X10_gap x3 1 σ_12 (fun (r_16 : Int32) (σ_15 : tzS) =>
              ∀ x4_17 : Int64, x4_17 = ((31 * x4_14) + r_16.toInt64) →
              vc_X10_over x3 0 σ_15 (fun (r_19 : Int32) (σ_18 : tzS) =>
                ∀ x4_20 : Int64, x4_20 = ((31 * x4_17) + r_19.toInt64) →
                vc_X10_over x3 1 σ_18 (fun (r_22 : Int32) (σ_21 : tzS) =>
                  ∀ x4_23 : Int64, x4_23 = ((31 * x4_20) + r_22.toInt64) →
                  vc_X10_deep x3 σ_21 (fun (r_25 : Int32) (σ_24 : tzS) =>
                    Q ((31 * x4_23) + r_25.toInt64) σ_24)))))))) ∧
    (¬ (4 : Int32) ≤ x6_4 →
      vc_X10_sentence x3 x6_4 σ_2 (fun (r_27 : Int32) (σ_26 : tzS) =>
        ∀ x4_28 : Int64, x4_28 = ((31 * x4_3) + r_27.toInt64) →
        ∀ x6_29 : Int32, x6_29 = x6_4 + 1 →
        ag_1 x4_28 x6_29 σ_26))) x1 (0 : Int32) σ
set_option maxRecDepth 20000 in
set_option maxHeartbeats 4000000 in
theorem m_X10_sentenceDigest (G : tzG) (hG : tz_ok G) {x1 : Int64} {x3 : Int32}  {σ : tzS} {Q : Int64 → tzS → Prop} (h : vc_X10_sentenceDigest x1 x3 σ Q) : tz_M G yX10_sentenceDigest cX10_sentenceDigest 7 (some .long) 7 169 [.ref 133, .long x1, .int x3] σ (tz_Ql G Q) := by
  unfold vc_X10_sentenceDigest at h
  refine tz_startl hG RX10 [(0, .ref 133), (1, .long x1), (3, .int x3)] (by decide) rfl (Nat.le_of_ble_eq_true rfl) rfl (fun E C hret => ?_)
  refine tz_lload_n 1 1 C dX10_sentenceDigest_0 rfl rfl ?_
  refine tz_lstore_k [(0, .ref 133), (1, .long x1), (3, .int x3)] C dX10_sentenceDigest_1 (Nat.le_of_ble_eq_true rfl) rfl ?_
  refine tz_iconst 0 (by decide) C dX10_sentenceDigest_3 ?_
  refine tz_istore_k [(4, .long x1), (0, .ref 133), (1, .long x1), (3, .int x3)] C dX10_sentenceDigest_4 (Nat.le_of_ble_eq_true rfl) rfl ?_
  refine tz_sub (L := [(0, .ref 133), (3, .int x3), (4, .long x1), (6, .int 0)]) ?_ [2, 4, 1, 0] rfl
  refine tz_loop2_w (V := fun (x4_3 : Int64) (x6_4 : Int32) (σ_2 : tzS) => tz_V G E 6 [(0, .ref 133), (3, .int x3), (4, .long x4_3), (6, .int x6_4)] [] σ_2) h (fun ag_1 ihag_1 x4_3 x6_4 σ_2 h => ?_)
  refine tz_iload 3 C dX10_sentenceDigest_6 rfl ?_
  refine tz_iconst 4 (by decide) C dX10_sentenceDigest_8 ?_
  refine tz_icmp_ge 35 C dX10_sentenceDigest_9 (by decide) h (fun c_5 h => ?_) (fun c_5 h => ?_)
  · refine tz_ldc2 31 C dX10_sentenceDigest_35 cw_RX10_282 ?_
    refine tz_lload 2 C dX10_sentenceDigest_38 rfl ?_
    refine tz_lmul C dX10_sentenceDigest_40 ?_
    refine tz_aload_n 0 0 C dX10_sentenceDigest_41 rfl rfl ?_
    refine tz_iload_n 3 1 C dX10_sentenceDigest_42 rfl rfl ?_
    refine tz_iconst 0 (by decide) C dX10_sentenceDigest_43 ?_
    refine tz_calliv C dX10_sentenceDigest_44 lk_RX10_287 (m_X10_word G hG  h) (by decide) rfl rfl rfl rfl ⟨Nat.le_of_ble_eq_true rfl, Nat.le_of_ble_eq_true rfl⟩ (Nat.le_of_ble_eq_true rfl) rfl (fun r_7 σ_6 h => ?_)
    refine tz_i2l C dX10_sentenceDigest_47 ?_
    refine tz_ladd C dX10_sentenceDigest_48 ?_
    refine tz_lstore [(0, .ref 133), (3, .int x3), (6, .int x6_4)] C dX10_sentenceDigest_49 (Nat.le_of_ble_eq_true rfl) rfl h (fun x4_8 h => ?_)
    refine tz_ldc2 31 C dX10_sentenceDigest_51 cw_RX10_282 ?_
    refine tz_lload 0 C dX10_sentenceDigest_54 rfl ?_
    refine tz_lmul C dX10_sentenceDigest_56 ?_
    refine tz_aload_n 0 1 C dX10_sentenceDigest_57 rfl rfl ?_
    refine tz_iload_n 3 2 C dX10_sentenceDigest_58 rfl rfl ?_
    refine tz_iconst 2 (by decide) C dX10_sentenceDigest_59 ?_
    refine tz_calliv C dX10_sentenceDigest_60 lk_RX10_287 (m_X10_word G hG  h) (by decide) rfl rfl rfl rfl ⟨Nat.le_of_ble_eq_true rfl, Nat.le_of_ble_eq_true rfl⟩ (Nat.le_of_ble_eq_true rfl) rfl (fun r_10 σ_9 h => ?_)
    refine tz_i2l C dX10_sentenceDigest_63 ?_
    refine tz_ladd C dX10_sentenceDigest_64 ?_
    refine tz_lstore [(0, .ref 133), (3, .int x3), (6, .int x6_4)] C dX10_sentenceDigest_65 (Nat.le_of_ble_eq_true rfl) rfl h (fun x4_11 h => ?_)
    refine tz_ldc2 31 C dX10_sentenceDigest_67 cw_RX10_282 ?_
    refine tz_lload 0 C dX10_sentenceDigest_70 rfl ?_
    refine tz_lmul C dX10_sentenceDigest_72 ?_
    refine tz_aload_n 0 1 C dX10_sentenceDigest_73 rfl rfl ?_
    refine tz_iload_n 3 2 C dX10_sentenceDigest_74 rfl rfl ?_
    refine tz_iconst 0 (by decide) C dX10_sentenceDigest_75 ?_
    refine tz_calliv C dX10_sentenceDigest_76 lk_RX10_290 (m_X10_gap G hG  h) (by decide) rfl rfl rfl rfl ⟨Nat.le_of_ble_eq_true rfl, Nat.le_of_ble_eq_true rfl⟩ (Nat.le_of_ble_eq_true rfl) rfl (fun r_13 σ_12 h => ?_)
    refine tz_i2l C dX10_sentenceDigest_79 ?_
    refine tz_ladd C dX10_sentenceDigest_80 ?_
    refine tz_lstore [(0, .ref 133), (3, .int x3), (6, .int x6_4)] C dX10_sentenceDigest_81 (Nat.le_of_ble_eq_true rfl) rfl h (fun x4_14 h => ?_)
    refine tz_ldc2 31 C dX10_sentenceDigest_83 cw_RX10_282 ?_
    refine tz_lload 0 C dX10_sentenceDigest_86 rfl ?_
    refine tz_lmul C dX10_sentenceDigest_88 ?_
    refine tz_aload_n 0 1 C dX10_sentenceDigest_89 rfl rfl ?_
    refine tz_iload_n 3 2 C dX10_sentenceDigest_90 rfl rfl ?_
    refine tz_iconst 1 (by decide) C dX10_sentenceDigest_91 ?_
    refine tz_calliv C dX10_sentenceDigest_92 lk_RX10_290 (m_X10_gap G hG  h) (by decide) rfl rfl rfl rfl ⟨Nat.le_of_ble_eq_true rfl, Nat.le_of_ble_eq_true rfl⟩ (Nat.le_of_ble_eq_true rfl) rfl (fun r_16 σ_15 h => ?_)
    refine tz_i2l C dX10_sentenceDigest_95 ?_
    refine tz_ladd C dX10_sentenceDigest_96 ?_
    refine tz_lstore [(0, .ref 133), (3, .int x3), (6, .int x6_4)] C dX10_sentenceDigest_97 (Nat.le_of_ble_eq_true rfl) rfl h (fun x4_17 h => ?_)
    refine tz_ldc2 31 C dX10_sentenceDigest_99 cw_RX10_282 ?_
    refine tz_lload 0 C dX10_sentenceDigest_102 rfl ?_
    refine tz_lmul C dX10_sentenceDigest_104 ?_
    refine tz_aload_n 0 1 C dX10_sentenceDigest_105 rfl rfl ?_
    refine tz_iload_n 3 2 C dX10_sentenceDigest_106 rfl rfl ?_
    refine tz_iconst 0 (by decide) C dX10_sentenceDigest_107 ?_
    refine tz_calliv C dX10_sentenceDigest_108 lk_RX10_293 (m_X10_over G hG  h) (by decide) rfl rfl rfl rfl ⟨Nat.le_of_ble_eq_true rfl, Nat.le_of_ble_eq_true rfl⟩ (Nat.le_of_ble_eq_true rfl) rfl (fun r_19 σ_18 h => ?_)
    refine tz_i2l C dX10_sentenceDigest_111 ?_
    refine tz_ladd C dX10_sentenceDigest_112 ?_
    refine tz_lstore [(0, .ref 133), (3, .int x3), (6, .int x6_4)] C dX10_sentenceDigest_113 (Nat.le_of_ble_eq_true rfl) rfl h (fun x4_20 h => ?_)
    refine tz_ldc2 31 C dX10_sentenceDigest_115 cw_RX10_282 ?_
    refine tz_lload 0 C dX10_sentenceDigest_118 rfl ?_
    refine tz_lmul C dX10_sentenceDigest_120 ?_
    refine tz_aload_n 0 1 C dX10_sentenceDigest_121 rfl rfl ?_
    refine tz_iload_n 3 2 C dX10_sentenceDigest_122 rfl rfl ?_
    refine tz_iconst 1 (by decide) C dX10_sentenceDigest_123 ?_
    refine tz_calliv C dX10_sentenceDigest_124 lk_RX10_293 (m_X10_over G hG  h) (by decide) rfl rfl rfl rfl ⟨Nat.le_of_ble_eq_true rfl, Nat.le_of_ble_eq_true rfl⟩ (Nat.le_of_ble_eq_true rfl) rfl (fun r_22 σ_21 h => ?_)
    refine tz_i2l C dX10_sentenceDigest_127 ?_
    refine tz_ladd C dX10_sentenceDigest_128 ?_
    refine tz_lstore [(0, .ref 133), (3, .int x3), (6, .int x6_4)] C dX10_sentenceDigest_129 (Nat.le_of_ble_eq_true rfl) rfl h (fun x4_23 h => ?_)
    refine tz_ldc2 31 C dX10_sentenceDigest_131 cw_RX10_282 ?_
    refine tz_lload 0 C dX10_sentenceDigest_134 rfl ?_
    refine tz_lmul C dX10_sentenceDigest_136 ?_
    refine tz_aload_n 0 1 C dX10_sentenceDigest_137 rfl rfl ?_
    refine tz_iload_n 3 2 C dX10_sentenceDigest_138 rfl rfl ?_
    refine tz_calliv C dX10_sentenceDigest_139 lk_RX10_296 (m_X10_deep G hG  h) (by decide) rfl rfl rfl rfl ⟨Nat.le_of_ble_eq_true rfl, Nat.le_of_ble_eq_true rfl⟩ (Nat.le_of_ble_eq_true rfl) rfl (fun r_25 σ_24 h => ?_)
    refine tz_i2l C dX10_sentenceDigest_142 ?_
    refine tz_ladd C dX10_sentenceDigest_143 ?_
    exact hret _ _ _ _ dX10_sentenceDigest_144 h
  · refine tz_ldc2 31 C dX10_sentenceDigest_12 cw_RX10_282 ?_
    refine tz_lload 2 C dX10_sentenceDigest_15 rfl ?_
    refine tz_lmul C dX10_sentenceDigest_17 ?_
    refine tz_aload_n 0 0 C dX10_sentenceDigest_18 rfl rfl ?_
    refine tz_iload_n 3 1 C dX10_sentenceDigest_19 rfl rfl ?_
    refine tz_iload 3 C dX10_sentenceDigest_20 rfl ?_
    refine tz_calliv C dX10_sentenceDigest_22 lk_RX10_284 (m_X10_sentence G hG  h) (by decide) rfl rfl rfl rfl ⟨Nat.le_of_ble_eq_true rfl, Nat.le_of_ble_eq_true rfl⟩ (Nat.le_of_ble_eq_true rfl) rfl (fun r_27 σ_26 h => ?_)
    refine tz_i2l C dX10_sentenceDigest_25 ?_
    refine tz_ladd C dX10_sentenceDigest_26 ?_
    refine tz_lstore [(0, .ref 133), (3, .int x3), (6, .int x6_4)] C dX10_sentenceDigest_27 (Nat.le_of_ble_eq_true rfl) rfl h (fun x4_28 h => ?_)
    refine tz_iinc 3 [(4, .long x4_28), (0, .ref 133), (3, .int x3)] 1 C dX10_sentenceDigest_29 (by decide) rfl (Nat.le_of_ble_eq_true rfl) rfl h (fun x6_29 h => ?_)
    refine tz_goto 6 C dX10_sentenceDigest_32 (by decide) ?_
    exact tz_sub (ihag_1 _ _ _ h) [2, 3, 1, 0] rfl

def vc_X10_stemDigest (x1 : Int64) (x3 : Int32) (σ : tzS) (Q : Int64 → tzS → Prop) : Prop :=
  tz_loop2 (fun (x4_3 : Int64) (x6_4 : Int32) (σ_2 : tzS) (ag_1 : Int64 → Int32 → tzS → Prop) =>
    ((4 : Int32) ≤ x6_4 →
      vc_X10_letterOf x3 0 σ_2 (fun (r_7 : Int32) (σ_6 : tzS) =>
        ∀ x4_8 : Int64, x4_8 = ((31 * x4_3) + r_7.toInt64) →
        vc_X10_letterOf x3 3 σ_6 (fun (r_10 : Int32) (σ_9 : tzS) =>
          Q ((31 * x4_8) + r_10.toInt64) σ_9))) ∧
    (¬ (4 : Int32) ≤ x6_4 →
      vc_X10_stemOf x3 x6_4 σ_2 (fun (r_12 : Int32) (σ_11 : tzS) =>
        ∀ x4_13 : Int64, x4_13 = ((31 * x4_3) + r_12.toInt64) →
        ∀ x6_14 : Int32, x6_14 = x6_4 + 1 →
        ag_1 x4_13 x6_14 σ_11))) x1 (0 : Int32) σ
set_option maxRecDepth 20000 in
set_option maxHeartbeats 4000000 in
theorem m_X10_stemDigest (G : tzG) (hG : tz_ok G) {x1 : Int64} {x3 : Int32}  {σ : tzS} {Q : Int64 → tzS → Prop} (h : vc_X10_stemDigest x1 x3 σ Q) : tz_M G yX10_stemDigest cX10_stemDigest 7 (some .long) 2 44 [.ref 133, .long x1, .int x3] σ (tz_Ql G Q) := by
  unfold vc_X10_stemDigest at h
  refine tz_startl hG RX10 [(0, .ref 133), (1, .long x1), (3, .int x3)] (by decide) rfl (Nat.le_of_ble_eq_true rfl) rfl (fun E C hret => ?_)
  refine tz_lload_n 1 1 C dX10_stemDigest_0 rfl rfl ?_
  refine tz_lstore_k [(0, .ref 133), (1, .long x1), (3, .int x3)] C dX10_stemDigest_1 (Nat.le_of_ble_eq_true rfl) rfl ?_
  refine tz_iconst 0 (by decide) C dX10_stemDigest_3 ?_
  refine tz_istore_k [(4, .long x1), (0, .ref 133), (1, .long x1), (3, .int x3)] C dX10_stemDigest_4 (Nat.le_of_ble_eq_true rfl) rfl ?_
  refine tz_sub (L := [(0, .ref 133), (3, .int x3), (4, .long x1), (6, .int 0)]) ?_ [2, 4, 1, 0] rfl
  refine tz_loop2_w (V := fun (x4_3 : Int64) (x6_4 : Int32) (σ_2 : tzS) => tz_V G E 6 [(0, .ref 133), (3, .int x3), (4, .long x4_3), (6, .int x6_4)] [] σ_2) h (fun ag_1 ihag_1 x4_3 x6_4 σ_2 h => ?_)
  refine tz_iload 3 C dX10_stemDigest_6 rfl ?_
  refine tz_iconst 4 (by decide) C dX10_stemDigest_8 ?_
  refine tz_icmp_ge 35 C dX10_stemDigest_9 (by decide) h (fun c_5 h => ?_) (fun c_5 h => ?_)
  · refine tz_ldc2 31 C dX10_stemDigest_35 cw_RX10_282 ?_
    refine tz_lload 2 C dX10_stemDigest_38 rfl ?_
    refine tz_lmul C dX10_stemDigest_40 ?_
    refine tz_aload_n 0 0 C dX10_stemDigest_41 rfl rfl ?_
    refine tz_iload_n 3 1 C dX10_stemDigest_42 rfl rfl ?_
    refine tz_iconst 0 (by decide) C dX10_stemDigest_43 ?_
    refine tz_calliv C dX10_stemDigest_44 lk_RX10_181 (m_X10_letterOf G hG  h) (by decide) rfl rfl rfl rfl ⟨Nat.le_of_ble_eq_true rfl, Nat.le_of_ble_eq_true rfl⟩ (Nat.le_of_ble_eq_true rfl) rfl (fun r_7 σ_6 h => ?_)
    refine tz_i2l C dX10_stemDigest_47 ?_
    refine tz_ladd C dX10_stemDigest_48 ?_
    refine tz_lstore [(0, .ref 133), (3, .int x3), (6, .int x6_4)] C dX10_stemDigest_49 (Nat.le_of_ble_eq_true rfl) rfl h (fun x4_8 h => ?_)
    refine tz_ldc2 31 C dX10_stemDigest_51 cw_RX10_282 ?_
    refine tz_lload 0 C dX10_stemDigest_54 rfl ?_
    refine tz_lmul C dX10_stemDigest_56 ?_
    refine tz_aload_n 0 1 C dX10_stemDigest_57 rfl rfl ?_
    refine tz_iload_n 3 2 C dX10_stemDigest_58 rfl rfl ?_
    refine tz_iconst 3 (by decide) C dX10_stemDigest_59 ?_
    refine tz_calliv C dX10_stemDigest_60 lk_RX10_181 (m_X10_letterOf G hG  h) (by decide) rfl rfl rfl rfl ⟨Nat.le_of_ble_eq_true rfl, Nat.le_of_ble_eq_true rfl⟩ (Nat.le_of_ble_eq_true rfl) rfl (fun r_10 σ_9 h => ?_)
    refine tz_i2l C dX10_stemDigest_63 ?_
    refine tz_ladd C dX10_stemDigest_64 ?_
    exact hret _ _ _ _ dX10_stemDigest_65 h
  · refine tz_ldc2 31 C dX10_stemDigest_12 cw_RX10_282 ?_
    refine tz_lload 2 C dX10_stemDigest_15 rfl ?_
    refine tz_lmul C dX10_stemDigest_17 ?_
    refine tz_aload_n 0 0 C dX10_stemDigest_18 rfl rfl ?_
    refine tz_iload_n 3 1 C dX10_stemDigest_19 rfl rfl ?_
    refine tz_iload 3 C dX10_stemDigest_20 rfl ?_
    refine tz_calliv C dX10_stemDigest_22 lk_RX10_178 (m_X10_stemOf G hG  h) (by decide) rfl rfl rfl rfl ⟨Nat.le_of_ble_eq_true rfl, Nat.le_of_ble_eq_true rfl⟩ (Nat.le_of_ble_eq_true rfl) rfl (fun r_12 σ_11 h => ?_)
    refine tz_i2l C dX10_stemDigest_25 ?_
    refine tz_ladd C dX10_stemDigest_26 ?_
    refine tz_lstore [(0, .ref 133), (3, .int x3), (6, .int x6_4)] C dX10_stemDigest_27 (Nat.le_of_ble_eq_true rfl) rfl h (fun x4_13 h => ?_)
    refine tz_iinc 3 [(4, .long x4_13), (0, .ref 133), (3, .int x3)] 1 C dX10_stemDigest_29 (by decide) rfl (Nat.le_of_ble_eq_true rfl) rfl h (fun x6_14 h => ?_)
    refine tz_goto 6 C dX10_stemDigest_32 (by decide) ?_
    exact tz_sub (ihag_1 _ _ _ h) [2, 3, 1, 0] rfl

def vc_X10_partsDigest (x1 : Int64) (x3 : Int32) (σ : tzS) (Q : Int64 → tzS → Prop) : Prop :=
  vc_X10_bestOf x3 σ (fun (r_2 : Int32) (σ_1 : tzS) =>
    ∀ x4_3 : Int64, x4_3 = ((31 * x1) + r_2.toInt64) →
    tz_loop2 (fun (x4_6 : Int64) (x6_7 : Int32) (σ_5 : tzS) (ag_4 : Int64 → Int32 → tzS → Prop) =>
      ((8 : Int32) ≤ x6_7 →
        vc_X10_dropOf x3 0 σ_5 (fun (r_10 : Int32) (σ_9 : tzS) =>
          ∀ x4_11 : Int64, x4_11 = ((31 * x4_6) + r_10.toInt64) →
          vc_X10_dropOf x3 1 σ_9 (fun (r_13 : Int32) (σ_12 : tzS) =>
            ∀ x4_14 : Int64, x4_14 = ((31 * x4_11) + r_13.toInt64) →
            vc_X10_apartOf x3 1 σ_12 (fun (r_16 : Int32) (σ_15 : tzS) =>
              ∀ x4_17 : Int64, x4_17 = ((31 * x4_14) + r_16.toInt64) →
              vc_X10_apartOf x3 3 σ_15 (fun (r_19 : Int32) (σ_18 : tzS) =>
                Q ((31 * x4_17) + r_19.toInt64) σ_18))))) ∧
      (¬ (8 : Int32) ≤ x6_7 →
        vc_X10_seamOf x3 x6_7 σ_5 (fun (r_21 : Int32) (σ_20 : tzS) =>
          ∀ x4_22 : Int64, x4_22 = ((31 * x4_6) + r_21.toInt64) →
          ∀ x6_23 : Int32, x6_23 = x6_7 + 1 →
          ag_4 x4_22 x6_23 σ_20))) x4_3 (0 : Int32) σ_1)
set_option maxRecDepth 20000 in
set_option maxHeartbeats 4000000 in
theorem m_X10_partsDigest (G : tzG) (hG : tz_ok G) {x1 : Int64} {x3 : Int32}  {σ : tzS} {Q : Int64 → tzS → Prop} (h : vc_X10_partsDigest x1 x3 σ Q) : tz_M G yX10_partsDigest cX10_partsDigest 7 (some .long) 6 143 [.ref 133, .long x1, .int x3] σ (tz_Ql G Q) := by
  unfold vc_X10_partsDigest at h
  refine tz_startl hG RX10 [(0, .ref 133), (1, .long x1), (3, .int x3)] (by decide) rfl (Nat.le_of_ble_eq_true rfl) rfl (fun E C hret => ?_)
  refine tz_ldc2 31 C dX10_partsDigest_0 cw_RX10_282 ?_
  refine tz_lload_n 1 1 C dX10_partsDigest_3 rfl rfl ?_
  refine tz_lmul C dX10_partsDigest_4 ?_
  refine tz_aload_n 0 0 C dX10_partsDigest_5 rfl rfl ?_
  refine tz_iload_n 3 2 C dX10_partsDigest_6 rfl rfl ?_
  refine tz_calliv C dX10_partsDigest_7 lk_RX10_237 (m_X10_bestOf G hG  h) (by decide) rfl rfl rfl rfl ⟨Nat.le_of_ble_eq_true rfl, Nat.le_of_ble_eq_true rfl⟩ (Nat.le_of_ble_eq_true rfl) rfl (fun r_2 σ_1 h => ?_)
  refine tz_i2l C dX10_partsDigest_10 ?_
  refine tz_ladd C dX10_partsDigest_11 ?_
  refine tz_lstore [(0, .ref 133), (1, .long x1), (3, .int x3)] C dX10_partsDigest_12 (Nat.le_of_ble_eq_true rfl) rfl h (fun x4_3 h => ?_)
  refine tz_iconst 0 (by decide) C dX10_partsDigest_14 ?_
  refine tz_istore_k [(4, .long x4_3), (0, .ref 133), (1, .long x1), (3, .int x3)] C dX10_partsDigest_15 (Nat.le_of_ble_eq_true rfl) rfl ?_
  refine tz_sub (L := [(0, .ref 133), (3, .int x3), (4, .long x4_3), (6, .int 0)]) ?_ [2, 4, 1, 0] rfl
  refine tz_loop2_w (V := fun (x4_6 : Int64) (x6_7 : Int32) (σ_5 : tzS) => tz_V G E 17 [(0, .ref 133), (3, .int x3), (4, .long x4_6), (6, .int x6_7)] [] σ_5) h (fun ag_4 ihag_4 x4_6 x6_7 σ_5 h => ?_)
  refine tz_iload 3 C dX10_partsDigest_17 rfl ?_
  refine tz_bipush 8 (by decide) C dX10_partsDigest_19 ?_
  refine tz_icmp_ge 47 C dX10_partsDigest_21 (by decide) h (fun c_8 h => ?_) (fun c_8 h => ?_)
  · refine tz_ldc2 31 C dX10_partsDigest_47 cw_RX10_282 ?_
    refine tz_lload 2 C dX10_partsDigest_50 rfl ?_
    refine tz_lmul C dX10_partsDigest_52 ?_
    refine tz_aload_n 0 0 C dX10_partsDigest_53 rfl rfl ?_
    refine tz_iload_n 3 1 C dX10_partsDigest_54 rfl rfl ?_
    refine tz_iconst 0 (by decide) C dX10_partsDigest_55 ?_
    refine tz_calliv C dX10_partsDigest_56 lk_RX10_249 (m_X10_dropOf G hG  h) (by decide) rfl rfl rfl rfl ⟨Nat.le_of_ble_eq_true rfl, Nat.le_of_ble_eq_true rfl⟩ (Nat.le_of_ble_eq_true rfl) rfl (fun r_10 σ_9 h => ?_)
    refine tz_i2l C dX10_partsDigest_59 ?_
    refine tz_ladd C dX10_partsDigest_60 ?_
    refine tz_lstore [(0, .ref 133), (3, .int x3), (6, .int x6_7)] C dX10_partsDigest_61 (Nat.le_of_ble_eq_true rfl) rfl h (fun x4_11 h => ?_)
    refine tz_ldc2 31 C dX10_partsDigest_63 cw_RX10_282 ?_
    refine tz_lload 0 C dX10_partsDigest_66 rfl ?_
    refine tz_lmul C dX10_partsDigest_68 ?_
    refine tz_aload_n 0 1 C dX10_partsDigest_69 rfl rfl ?_
    refine tz_iload_n 3 2 C dX10_partsDigest_70 rfl rfl ?_
    refine tz_iconst 1 (by decide) C dX10_partsDigest_71 ?_
    refine tz_calliv C dX10_partsDigest_72 lk_RX10_249 (m_X10_dropOf G hG  h) (by decide) rfl rfl rfl rfl ⟨Nat.le_of_ble_eq_true rfl, Nat.le_of_ble_eq_true rfl⟩ (Nat.le_of_ble_eq_true rfl) rfl (fun r_13 σ_12 h => ?_)
    refine tz_i2l C dX10_partsDigest_75 ?_
    refine tz_ladd C dX10_partsDigest_76 ?_
    refine tz_lstore [(0, .ref 133), (3, .int x3), (6, .int x6_7)] C dX10_partsDigest_77 (Nat.le_of_ble_eq_true rfl) rfl h (fun x4_14 h => ?_)
    refine tz_ldc2 31 C dX10_partsDigest_79 cw_RX10_282 ?_
    refine tz_lload 0 C dX10_partsDigest_82 rfl ?_
    refine tz_lmul C dX10_partsDigest_84 ?_
    refine tz_aload_n 0 1 C dX10_partsDigest_85 rfl rfl ?_
    refine tz_iload_n 3 2 C dX10_partsDigest_86 rfl rfl ?_
    refine tz_iconst 1 (by decide) C dX10_partsDigest_87 ?_
    refine tz_calliv C dX10_partsDigest_88 lk_RX10_264 (m_X10_apartOf G hG  h) (by decide) rfl rfl rfl rfl ⟨Nat.le_of_ble_eq_true rfl, Nat.le_of_ble_eq_true rfl⟩ (Nat.le_of_ble_eq_true rfl) rfl (fun r_16 σ_15 h => ?_)
    refine tz_i2l C dX10_partsDigest_91 ?_
    refine tz_ladd C dX10_partsDigest_92 ?_
    refine tz_lstore [(0, .ref 133), (3, .int x3), (6, .int x6_7)] C dX10_partsDigest_93 (Nat.le_of_ble_eq_true rfl) rfl h (fun x4_17 h => ?_)
    refine tz_ldc2 31 C dX10_partsDigest_95 cw_RX10_282 ?_
    refine tz_lload 0 C dX10_partsDigest_98 rfl ?_
    refine tz_lmul C dX10_partsDigest_100 ?_
    refine tz_aload_n 0 1 C dX10_partsDigest_101 rfl rfl ?_
    refine tz_iload_n 3 2 C dX10_partsDigest_102 rfl rfl ?_
    refine tz_iconst 3 (by decide) C dX10_partsDigest_103 ?_
    refine tz_calliv C dX10_partsDigest_104 lk_RX10_264 (m_X10_apartOf G hG  h) (by decide) rfl rfl rfl rfl ⟨Nat.le_of_ble_eq_true rfl, Nat.le_of_ble_eq_true rfl⟩ (Nat.le_of_ble_eq_true rfl) rfl (fun r_19 σ_18 h => ?_)
    refine tz_i2l C dX10_partsDigest_107 ?_
    refine tz_ladd C dX10_partsDigest_108 ?_
    exact hret _ _ _ _ dX10_partsDigest_109 h
  · refine tz_ldc2 31 C dX10_partsDigest_24 cw_RX10_282 ?_
    refine tz_lload 2 C dX10_partsDigest_27 rfl ?_
    refine tz_lmul C dX10_partsDigest_29 ?_
    refine tz_aload_n 0 0 C dX10_partsDigest_30 rfl rfl ?_
    refine tz_iload_n 3 1 C dX10_partsDigest_31 rfl rfl ?_
    refine tz_iload 3 C dX10_partsDigest_32 rfl ?_
    refine tz_calliv C dX10_partsDigest_34 lk_RX10_243 (m_X10_seamOf G hG  h) (by decide) rfl rfl rfl rfl ⟨Nat.le_of_ble_eq_true rfl, Nat.le_of_ble_eq_true rfl⟩ (Nat.le_of_ble_eq_true rfl) rfl (fun r_21 σ_20 h => ?_)
    refine tz_i2l C dX10_partsDigest_37 ?_
    refine tz_ladd C dX10_partsDigest_38 ?_
    refine tz_lstore [(0, .ref 133), (3, .int x3), (6, .int x6_7)] C dX10_partsDigest_39 (Nat.le_of_ble_eq_true rfl) rfl h (fun x4_22 h => ?_)
    refine tz_iinc 3 [(4, .long x4_22), (0, .ref 133), (3, .int x3)] 1 C dX10_partsDigest_41 (by decide) rfl (Nat.le_of_ble_eq_true rfl) rfl h (fun x6_23 h => ?_)
    refine tz_goto 17 C dX10_partsDigest_44 (by decide) ?_
    exact tz_sub (ihag_4 _ _ _ h) [2, 3, 1, 0] rfl

def vc_X10_digest  (σ : tzS) (Q : Int64 → tzS → Prop) : Prop :=
  tz_loop2 (fun (x1_3 : Int64) (x3_4 : Int32) (σ_2 : tzS) (ag_1 : Int64 → Int32 → tzS → Prop) =>
    ((8 : Int32) ≤ x3_4 →
      tz_loop2 (fun (x1_8 : Int64) (x3_9 : Int32) (σ_7 : tzS) (ag_6 : Int64 → Int32 → tzS → Prop) =>
        ((3 : Int32) ≤ x3_9 →
          tz_loop2 (fun (x1_13 : Int64) (x3_14 : Int32) (σ_12 : tzS) (ag_11 : Int64 → Int32 → tzS → Prop) =>
            ((12 : Int32) ≤ x3_14 →
              vc_X10_reads  σ_12 (fun (σ_16 : tzS) =>
                tz_loop2 (fun (x1_19 : Int64) (x3_20 : Int32) (σ_18 : tzS) (ag_17 : Int64 → Int32 → tzS → Prop) =>
                  ((σ_18.1 133 9) ≤ x3_20 →
                    tz_loop2 (fun (x1_24 : Int64) (x3_25 : Int32) (σ_23 : tzS) (ag_22 : Int64 → Int32 → tzS → Prop) =>
                      ((10 : Int32) ≤ x3_25 →
                        tz_loop2 (fun (x1_29 : Int64) (x3_30 : Int32) (σ_28 : tzS) (ag_27 : Int64 → Int32 → tzS → Prop) =>
                          ((σ_28.1 133 7) ≤ x3_30 →
                            tz_loop2 (fun (x1_34 : Int64) (x3_35 : Int32) (σ_33 : tzS) (ag_32 : Int64 → Int32 → tzS → Prop) =>
                              ((9 : Int32) ≤ x3_35 →
                                vc_X10_bentOf  σ_33 (fun (r_38 : Int32) (σ_37 : tzS) =>
                                  Q ((31 * x1_34) + r_38.toInt64) σ_37)) ∧
                              (¬ (9 : Int32) ≤ x3_35 →
                                vc_X10_partsDigest x1_34 x3_35 σ_33 (fun (r_40 : Int64) (σ_39 : tzS) =>
                                  ∀ x3_41 : Int32, x3_41 = x3_35 + 1 →
                                  ag_32 r_40 x3_41 σ_39))) x1_29 (1 : Int32) σ_28) ∧
                          (¬ (σ_28.1 133 7) ≤ x3_30 →
                            vc_X10_costOf 0 x3_30 σ_28 (fun (r_43 : Int32) (σ_42 : tzS) =>
                              ∀ x1_44 : Int64, x1_44 = ((31 * x1_29) + r_43.toInt64) →
                              vc_X10_costOf x3_30 (σ_42.1 133 7) σ_42 (fun (r_46 : Int32) (σ_45 : tzS) =>
                                ∀ x1_47 : Int64, x1_47 = ((31 * x1_44) + r_46.toInt64) →
                                ∀ x3_48 : Int32, x3_48 = x3_30 + 1 →
                                ag_27 x1_47 x3_48 σ_45)))) x1_24 (0 : Int32) σ_23) ∧
                      (¬ (10 : Int32) ≤ x3_25 →
                        tz_loop2 (fun (x1_51 : Int64) (x4_52 : Int32) (σ_50 : tzS) (ag_49 : Int64 → Int32 → tzS → Prop) =>
                          ((5 : Int32) ≤ x4_52 →
                            ∀ x3_54 : Int32, x3_54 = x3_25 + 1 →
                            ag_22 x1_51 x3_54 σ_50) ∧
                          (¬ (5 : Int32) ≤ x4_52 →
                            vc_X10_chainOf x3_25 x4_52 σ_50 (fun (r_56 : Int32) (σ_55 : tzS) =>
                              ∀ x1_57 : Int64, x1_57 = ((31 * x1_51) + r_56.toInt64) →
                              ∀ x4_58 : Int32, x4_58 = x4_52 + 1 →
                              ag_49 x1_57 x4_58 σ_55))) x1_24 (0 : Int32) σ_23)) x1_19 (0 : Int32) σ_18) ∧
                  (¬ (σ_18.1 133 9) ≤ x3_20 →
                    vc_X10_stemDigest x1_19 x3_20 σ_18 (fun (r_60 : Int64) (σ_59 : tzS) =>
                      ∀ x3_61 : Int32, x3_61 = x3_20 + 1 →
                      ag_17 r_60 x3_61 σ_59))) x1_13 (0 : Int32) σ_16)) ∧
            (¬ (12 : Int32) ≤ x3_14 →
              vc_X10_sentenceDigest x1_13 x3_14 σ_12 (fun (r_63 : Int64) (σ_62 : tzS) =>
                ∀ x3_64 : Int32, x3_64 = x3_14 + 1 →
                ag_11 r_63 x3_64 σ_62))) x1_8 (0 : Int32) σ_7) ∧
        (¬ (3 : Int32) ≤ x3_9 →
          vc_X10_faultOf x3_9 σ_7 (fun (r_66 : Int32) (σ_65 : tzS) =>
            ∀ x1_67 : Int64, x1_67 = ((31 * x1_8) + r_66.toInt64) →
            ∀ x3_68 : Int32, x3_68 = x3_9 + 1 →
            ag_6 x1_67 x3_68 σ_65))) x1_3 (0 : Int32) σ_2) ∧
    (¬ (8 : Int32) ≤ x3_4 →
      vc_X10_count x3_4 σ_2 (fun (r_70 : Int32) (σ_69 : tzS) =>
        ∀ x1_71 : Int64, x1_71 = ((31 * x1_3) + r_70.toInt64) →
        ∀ x3_72 : Int32, x3_72 = x3_4 + 1 →
        ag_1 x1_71 x3_72 σ_69))) 17 (0 : Int32) σ
set_option maxRecDepth 20000 in
set_option maxHeartbeats 4000000 in
theorem m_X10_digest (G : tzG) (hG : tz_ok G)   {σ : tzS} {Q : Int64 → tzS → Prop} (h : vc_X10_digest  σ Q) : tz_M G yX10_digest cX10_digest 5 (some .long) 8 195 [.ref 133] σ (tz_Ql G Q) := by
  unfold vc_X10_digest at h
  refine tz_startl hG RX10 [(0, .ref 133)] (by decide) rfl (Nat.le_of_ble_eq_true rfl) rfl (fun E C hret => ?_)
  refine tz_ldc2 17 C dX10_digest_0 cw_RX10_299 ?_
  refine tz_lstore_n_k 1 [(0, .ref 133)] C dX10_digest_3 rfl (Nat.le_of_ble_eq_true rfl) rfl ?_
  refine tz_iconst 0 (by decide) C dX10_digest_4 ?_
  refine tz_istore_n_k 3 [(1, .long 17), (0, .ref 133)] C dX10_digest_5 rfl (Nat.le_of_ble_eq_true rfl) rfl ?_
  refine tz_sub (L := [(0, .ref 133), (1, .long 17), (3, .int 0)]) ?_ [2, 1, 0] rfl
  refine tz_loop2_w (V := fun (x1_3 : Int64) (x3_4 : Int32) (σ_2 : tzS) => tz_V G E 6 [(0, .ref 133), (1, .long x1_3), (3, .int x3_4)] [] σ_2) h (fun ag_1 ihag_1 x1_3 x3_4 σ_2 h => ?_)
  refine tz_iload_n 3 2 C dX10_digest_6 rfl rfl ?_
  refine tz_bipush 8 (by decide) C dX10_digest_7 ?_
  refine tz_icmp_ge 31 C dX10_digest_9 (by decide) h (fun c_5 h => ?_) (fun c_5 h => ?_)
  · refine tz_iconst 0 (by decide) C dX10_digest_31 ?_
    refine tz_istore_n_k 3 [(0, .ref 133), (1, .long x1_3)] C dX10_digest_32 rfl (Nat.le_of_ble_eq_true rfl) rfl ?_
    refine tz_sub (L := [(0, .ref 133), (1, .long x1_3), (3, .int 0)]) ?_ [1, 2, 0] rfl
    refine tz_loop2_w (V := fun (x1_8 : Int64) (x3_9 : Int32) (σ_7 : tzS) => tz_V G E 33 [(0, .ref 133), (1, .long x1_8), (3, .int x3_9)] [] σ_7) h (fun ag_6 ihag_6 x1_8 x3_9 σ_7 h => ?_)
    refine tz_iload_n 3 2 C dX10_digest_33 rfl rfl ?_
    refine tz_iconst 3 (by decide) C dX10_digest_34 ?_
    refine tz_icmp_ge 57 C dX10_digest_35 (by decide) h (fun c_10 h => ?_) (fun c_10 h => ?_)
    · refine tz_iconst 0 (by decide) C dX10_digest_57 ?_
      refine tz_istore_n_k 3 [(0, .ref 133), (1, .long x1_8)] C dX10_digest_58 rfl (Nat.le_of_ble_eq_true rfl) rfl ?_
      refine tz_sub (L := [(0, .ref 133), (1, .long x1_8), (3, .int 0)]) ?_ [1, 2, 0] rfl
      refine tz_loop2_w (V := fun (x1_13 : Int64) (x3_14 : Int32) (σ_12 : tzS) => tz_V G E 59 [(0, .ref 133), (1, .long x1_13), (3, .int x3_14)] [] σ_12) h (fun ag_11 ihag_11 x1_13 x3_14 σ_12 h => ?_)
      refine tz_iload_n 3 2 C dX10_digest_59 rfl rfl ?_
      refine tz_bipush 12 (by decide) C dX10_digest_60 ?_
      refine tz_icmp_ge 78 C dX10_digest_62 (by decide) h (fun c_15 h => ?_) (fun c_15 h => ?_)
      · refine tz_aload_n 0 0 C dX10_digest_78 rfl rfl ?_
        refine tz_callvv C dX10_digest_79 lk_RX10_147 (m_X10_reads G hG  h) (by decide) rfl rfl rfl rfl ⟨Nat.le_of_ble_eq_true rfl, Nat.le_of_ble_eq_true rfl⟩ (Nat.le_of_ble_eq_true rfl) rfl (fun σ_16 h => ?_)
        refine tz_iconst 0 (by decide) C dX10_digest_82 ?_
        refine tz_istore_n_k 3 [(0, .ref 133), (1, .long x1_13)] C dX10_digest_83 rfl (Nat.le_of_ble_eq_true rfl) rfl ?_
        refine tz_sub (L := [(0, .ref 133), (1, .long x1_13), (3, .int 0)]) ?_ [1, 2, 0] rfl
        refine tz_loop2_w (V := fun (x1_19 : Int64) (x3_20 : Int32) (σ_18 : tzS) => tz_V G E 84 [(0, .ref 133), (1, .long x1_19), (3, .int x3_20)] [] σ_18) h (fun ag_17 ihag_17 x1_19 x3_20 σ_18 h => ?_)
        refine tz_iload_n 3 2 C dX10_digest_84 rfl rfl ?_
        refine tz_aload_n 0 0 C dX10_digest_85 rfl rfl ?_
        refine tz_getI C dX10_digest_86 fl_RX10_135 (by decide) rfl rfl ?_
        refine tz_icmp_ge 105 C dX10_digest_89 (by decide) h (fun c_21 h => ?_) (fun c_21 h => ?_)
        · refine tz_iconst 0 (by decide) C dX10_digest_105 ?_
          refine tz_istore_n_k 3 [(0, .ref 133), (1, .long x1_19)] C dX10_digest_106 rfl (Nat.le_of_ble_eq_true rfl) rfl ?_
          refine tz_sub (L := [(0, .ref 133), (1, .long x1_19), (3, .int 0)]) ?_ [1, 2, 0] rfl
          refine tz_loop2_w (V := fun (x1_24 : Int64) (x3_25 : Int32) (σ_23 : tzS) => tz_V G E 107 [(0, .ref 133), (1, .long x1_24), (3, .int x3_25)] [] σ_23) h (fun ag_22 ihag_22 x1_24 x3_25 σ_23 h => ?_)
          refine tz_iload_n 3 2 C dX10_digest_107 rfl rfl ?_
          refine tz_bipush 10 (by decide) C dX10_digest_108 ?_
          refine tz_icmp_ge 149 C dX10_digest_110 (by decide) h (fun c_26 h => ?_) (fun c_26 h => ?_)
          · refine tz_iconst 0 (by decide) C dX10_digest_149 ?_
            refine tz_istore_n_k 3 [(0, .ref 133), (1, .long x1_24)] C dX10_digest_150 rfl (Nat.le_of_ble_eq_true rfl) rfl ?_
            refine tz_sub (L := [(0, .ref 133), (1, .long x1_24), (3, .int 0)]) ?_ [1, 2, 0] rfl
            refine tz_loop2_w (V := fun (x1_29 : Int64) (x3_30 : Int32) (σ_28 : tzS) => tz_V G E 151 [(0, .ref 133), (1, .long x1_29), (3, .int x3_30)] [] σ_28) h (fun ag_27 ihag_27 x1_29 x3_30 σ_28 h => ?_)
            refine tz_iload_n 3 2 C dX10_digest_151 rfl rfl ?_
            refine tz_aload_n 0 0 C dX10_digest_152 rfl rfl ?_
            refine tz_getI C dX10_digest_153 fl_RX10_109 (by decide) rfl rfl ?_
            refine tz_icmp_ge 196 C dX10_digest_156 (by decide) h (fun c_31 h => ?_) (fun c_31 h => ?_)
            · refine tz_iconst 1 (by decide) C dX10_digest_196 ?_
              refine tz_istore_n_k 3 [(0, .ref 133), (1, .long x1_29)] C dX10_digest_197 rfl (Nat.le_of_ble_eq_true rfl) rfl ?_
              refine tz_sub (L := [(0, .ref 133), (1, .long x1_29), (3, .int 1)]) ?_ [1, 2, 0] rfl
              refine tz_loop2_w (V := fun (x1_34 : Int64) (x3_35 : Int32) (σ_33 : tzS) => tz_V G E 198 [(0, .ref 133), (1, .long x1_34), (3, .int x3_35)] [] σ_33) h (fun ag_32 ihag_32 x1_34 x3_35 σ_33 h => ?_)
              refine tz_iload_n 3 2 C dX10_digest_198 rfl rfl ?_
              refine tz_bipush 9 (by decide) C dX10_digest_199 ?_
              refine tz_icmp_ge 217 C dX10_digest_201 (by decide) h (fun c_36 h => ?_) (fun c_36 h => ?_)
              · refine tz_ldc2 31 C dX10_digest_217 cw_RX10_282 ?_
                refine tz_lload_n 1 1 C dX10_digest_220 rfl rfl ?_
                refine tz_lmul C dX10_digest_221 ?_
                refine tz_aload_n 0 0 C dX10_digest_222 rfl rfl ?_
                refine tz_calliv C dX10_digest_223 lk_RX10_246 (m_X10_bentOf G hG  h) (by decide) rfl rfl rfl rfl ⟨Nat.le_of_ble_eq_true rfl, Nat.le_of_ble_eq_true rfl⟩ (Nat.le_of_ble_eq_true rfl) rfl (fun r_38 σ_37 h => ?_)
                refine tz_i2l C dX10_digest_226 ?_
                refine tz_ladd C dX10_digest_227 ?_
                exact hret _ _ _ _ dX10_digest_228 h
              · refine tz_aload_n 0 0 C dX10_digest_204 rfl rfl ?_
                refine tz_lload_n 1 1 C dX10_digest_205 rfl rfl ?_
                refine tz_iload_n 3 2 C dX10_digest_206 rfl rfl ?_
                refine tz_calllv C dX10_digest_207 lk_RX10_311 (m_X10_partsDigest G hG  h) (by decide) rfl rfl rfl rfl ⟨Nat.le_of_ble_eq_true rfl, Nat.le_of_ble_eq_true rfl⟩ (Nat.le_of_ble_eq_true rfl) rfl (fun r_40 σ_39 h => ?_)
                refine tz_lstore_n_k 1 [(0, .ref 133), (3, .int x3_35)] C dX10_digest_210 rfl (Nat.le_of_ble_eq_true rfl) rfl ?_
                refine tz_iinc 2 [(1, .long r_40), (0, .ref 133)] 1 C dX10_digest_211 (by decide) rfl (Nat.le_of_ble_eq_true rfl) rfl h (fun x3_41 h => ?_)
                refine tz_goto 198 C dX10_digest_214 (by decide) ?_
                exact tz_sub (ihag_32 _ _ _ h) [2, 1, 0] rfl
            · refine tz_ldc2 31 C dX10_digest_159 cw_RX10_282 ?_
              refine tz_lload_n 1 1 C dX10_digest_162 rfl rfl ?_
              refine tz_lmul C dX10_digest_163 ?_
              refine tz_aload_n 0 0 C dX10_digest_164 rfl rfl ?_
              refine tz_iconst 0 (by decide) C dX10_digest_165 ?_
              refine tz_iload_n 3 2 C dX10_digest_166 rfl rfl ?_
              refine tz_calliv C dX10_digest_167 lk_RX10_216 (m_X10_costOf G hG  h) (by decide) rfl rfl rfl rfl ⟨Nat.le_of_ble_eq_true rfl, Nat.le_of_ble_eq_true rfl⟩ (Nat.le_of_ble_eq_true rfl) rfl (fun r_43 σ_42 h => ?_)
              refine tz_i2l C dX10_digest_170 ?_
              refine tz_ladd C dX10_digest_171 ?_
              refine tz_lstore_n 1 [(0, .ref 133), (3, .int x3_30)] C dX10_digest_172 rfl (Nat.le_of_ble_eq_true rfl) rfl h (fun x1_44 h => ?_)
              refine tz_ldc2 31 C dX10_digest_173 cw_RX10_282 ?_
              refine tz_lload_n 1 0 C dX10_digest_176 rfl rfl ?_
              refine tz_lmul C dX10_digest_177 ?_
              refine tz_aload_n 0 1 C dX10_digest_178 rfl rfl ?_
              refine tz_iload_n 3 2 C dX10_digest_179 rfl rfl ?_
              refine tz_aload_n 0 1 C dX10_digest_180 rfl rfl ?_
              refine tz_getI C dX10_digest_181 fl_RX10_109 (by decide) rfl rfl ?_
              refine tz_calliv C dX10_digest_184 lk_RX10_216 (m_X10_costOf G hG  h) (by decide) rfl rfl rfl rfl ⟨Nat.le_of_ble_eq_true rfl, Nat.le_of_ble_eq_true rfl⟩ (Nat.le_of_ble_eq_true rfl) rfl (fun r_46 σ_45 h => ?_)
              refine tz_i2l C dX10_digest_187 ?_
              refine tz_ladd C dX10_digest_188 ?_
              refine tz_lstore_n 1 [(0, .ref 133), (3, .int x3_30)] C dX10_digest_189 rfl (Nat.le_of_ble_eq_true rfl) rfl h (fun x1_47 h => ?_)
              refine tz_iinc 2 [(1, .long x1_47), (0, .ref 133)] 1 C dX10_digest_190 (by decide) rfl (Nat.le_of_ble_eq_true rfl) rfl h (fun x3_48 h => ?_)
              refine tz_goto 151 C dX10_digest_193 (by decide) ?_
              exact tz_sub (ihag_27 _ _ _ h) [2, 1, 0] rfl
          · refine tz_iconst 0 (by decide) C dX10_digest_113 ?_
            refine tz_istore_k [(0, .ref 133), (1, .long x1_24), (3, .int x3_25)] C dX10_digest_114 (Nat.le_of_ble_eq_true rfl) rfl ?_
            refine tz_sub (L := [(0, .ref 133), (1, .long x1_24), (3, .int x3_25), (4, .int 0)]) ?_ [1, 2, 3, 0] rfl
            refine tz_loop2_w (V := fun (x1_51 : Int64) (x4_52 : Int32) (σ_50 : tzS) => tz_V G E 116 [(0, .ref 133), (1, .long x1_51), (3, .int x3_25), (4, .int x4_52)] [] σ_50) h (fun ag_49 ihag_49 x1_51 x4_52 σ_50 h => ?_)
            refine tz_iload 3 C dX10_digest_116 rfl ?_
            refine tz_iconst 5 (by decide) C dX10_digest_118 ?_
            refine tz_icmp_ge 143 C dX10_digest_119 (by decide) h (fun c_53 h => ?_) (fun c_53 h => ?_)
            · refine tz_iinc 2 [(0, .ref 133), (1, .long x1_51), (4, .int x4_52)] 1 C dX10_digest_143 (by decide) rfl (Nat.le_of_ble_eq_true rfl) rfl h (fun x3_54 h => ?_)
              refine tz_goto 107 C dX10_digest_146 (by decide) ?_
              exact tz_sub (ihag_22 _ _ _ h) [1, 2, 0] rfl
            · refine tz_ldc2 31 C dX10_digest_122 cw_RX10_282 ?_
              refine tz_lload_n 1 1 C dX10_digest_125 rfl rfl ?_
              refine tz_lmul C dX10_digest_126 ?_
              refine tz_aload_n 0 0 C dX10_digest_127 rfl rfl ?_
              refine tz_iload_n 3 2 C dX10_digest_128 rfl rfl ?_
              refine tz_iload 3 C dX10_digest_129 rfl ?_
              refine tz_calliv C dX10_digest_131 lk_RX10_201 (m_X10_chainOf G hG  h) (by decide) rfl rfl rfl rfl ⟨Nat.le_of_ble_eq_true rfl, Nat.le_of_ble_eq_true rfl⟩ (Nat.le_of_ble_eq_true rfl) rfl (fun r_56 σ_55 h => ?_)
              refine tz_i2l C dX10_digest_134 ?_
              refine tz_ladd C dX10_digest_135 ?_
              refine tz_lstore_n 1 [(0, .ref 133), (3, .int x3_25), (4, .int x4_52)] C dX10_digest_136 rfl (Nat.le_of_ble_eq_true rfl) rfl h (fun x1_57 h => ?_)
              refine tz_iinc 3 [(1, .long x1_57), (0, .ref 133), (3, .int x3_25)] 1 C dX10_digest_137 (by decide) rfl (Nat.le_of_ble_eq_true rfl) rfl h (fun x4_58 h => ?_)
              refine tz_goto 116 C dX10_digest_140 (by decide) ?_
              exact tz_sub (ihag_49 _ _ _ h) [2, 1, 3, 0] rfl
        · refine tz_aload_n 0 0 C dX10_digest_92 rfl rfl ?_
          refine tz_lload_n 1 1 C dX10_digest_93 rfl rfl ?_
          refine tz_iload_n 3 2 C dX10_digest_94 rfl rfl ?_
          refine tz_calllv C dX10_digest_95 lk_RX10_308 (m_X10_stemDigest G hG  h) (by decide) rfl rfl rfl rfl ⟨Nat.le_of_ble_eq_true rfl, Nat.le_of_ble_eq_true rfl⟩ (Nat.le_of_ble_eq_true rfl) rfl (fun r_60 σ_59 h => ?_)
          refine tz_lstore_n_k 1 [(0, .ref 133), (3, .int x3_20)] C dX10_digest_98 rfl (Nat.le_of_ble_eq_true rfl) rfl ?_
          refine tz_iinc 2 [(1, .long r_60), (0, .ref 133)] 1 C dX10_digest_99 (by decide) rfl (Nat.le_of_ble_eq_true rfl) rfl h (fun x3_61 h => ?_)
          refine tz_goto 84 C dX10_digest_102 (by decide) ?_
          exact tz_sub (ihag_17 _ _ _ h) [2, 1, 0] rfl
      · refine tz_aload_n 0 0 C dX10_digest_65 rfl rfl ?_
        refine tz_lload_n 1 1 C dX10_digest_66 rfl rfl ?_
        refine tz_iload_n 3 2 C dX10_digest_67 rfl rfl ?_
        refine tz_calllv C dX10_digest_68 lk_RX10_304 (m_X10_sentenceDigest G hG  h) (by decide) rfl rfl rfl rfl ⟨Nat.le_of_ble_eq_true rfl, Nat.le_of_ble_eq_true rfl⟩ (Nat.le_of_ble_eq_true rfl) rfl (fun r_63 σ_62 h => ?_)
        refine tz_lstore_n_k 1 [(0, .ref 133), (3, .int x3_14)] C dX10_digest_71 rfl (Nat.le_of_ble_eq_true rfl) rfl ?_
        refine tz_iinc 2 [(1, .long r_63), (0, .ref 133)] 1 C dX10_digest_72 (by decide) rfl (Nat.le_of_ble_eq_true rfl) rfl h (fun x3_64 h => ?_)
        refine tz_goto 59 C dX10_digest_75 (by decide) ?_
        exact tz_sub (ihag_11 _ _ _ h) [2, 1, 0] rfl
    · refine tz_ldc2 31 C dX10_digest_38 cw_RX10_282 ?_
      refine tz_lload_n 1 1 C dX10_digest_41 rfl rfl ?_
      refine tz_lmul C dX10_digest_42 ?_
      refine tz_aload_n 0 0 C dX10_digest_43 rfl rfl ?_
      refine tz_iload_n 3 2 C dX10_digest_44 rfl rfl ?_
      refine tz_calliv C dX10_digest_45 lk_RX10_150 (m_X10_faultOf G hG  h) (by decide) rfl rfl rfl rfl ⟨Nat.le_of_ble_eq_true rfl, Nat.le_of_ble_eq_true rfl⟩ (Nat.le_of_ble_eq_true rfl) rfl (fun r_66 σ_65 h => ?_)
      refine tz_i2l C dX10_digest_48 ?_
      refine tz_ladd C dX10_digest_49 ?_
      refine tz_lstore_n 1 [(0, .ref 133), (3, .int x3_9)] C dX10_digest_50 rfl (Nat.le_of_ble_eq_true rfl) rfl h (fun x1_67 h => ?_)
      refine tz_iinc 2 [(1, .long x1_67), (0, .ref 133)] 1 C dX10_digest_51 (by decide) rfl (Nat.le_of_ble_eq_true rfl) rfl h (fun x3_68 h => ?_)
      refine tz_goto 33 C dX10_digest_54 (by decide) ?_
      exact tz_sub (ihag_6 _ _ _ h) [2, 1, 0] rfl
  · refine tz_ldc2 31 C dX10_digest_12 cw_RX10_282 ?_
    refine tz_lload_n 1 1 C dX10_digest_15 rfl rfl ?_
    refine tz_lmul C dX10_digest_16 ?_
    refine tz_aload_n 0 0 C dX10_digest_17 rfl rfl ?_
    refine tz_iload_n 3 2 C dX10_digest_18 rfl rfl ?_
    refine tz_calliv C dX10_digest_19 lk_RX10_301 (m_X10_count G hG  h) (by decide) rfl rfl rfl rfl ⟨Nat.le_of_ble_eq_true rfl, Nat.le_of_ble_eq_true rfl⟩ (Nat.le_of_ble_eq_true rfl) rfl (fun r_70 σ_69 h => ?_)
    refine tz_i2l C dX10_digest_22 ?_
    refine tz_ladd C dX10_digest_23 ?_
    refine tz_lstore_n 1 [(0, .ref 133), (3, .int x3_4)] C dX10_digest_24 rfl (Nat.le_of_ble_eq_true rfl) rfl h (fun x1_71 h => ?_)
    refine tz_iinc 2 [(1, .long x1_71), (0, .ref 133)] 1 C dX10_digest_25 (by decide) rfl (Nat.le_of_ble_eq_true rfl) rfl h (fun x3_72 h => ?_)
    refine tz_goto 6 C dX10_digest_28 (by decide) ?_
    exact tz_sub (ihag_1 _ _ _ h) [2, 1, 0] rfl
