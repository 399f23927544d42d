def vc_X10_begins (x1 : Int32) (x2 : Int32) (σ : tzS) (Q : tzS → Prop) : Prop :=
  vp_in (σ.1 133 8) 110 ∧ (
    ∀ σ_1 : tzS, σ_1 = tz_st σ 136 (σ.1 133 8).toNatClampNeg x1 →
    vp_in (σ_1.1 133 8) 110 ∧ (
      ∀ σ_2 : tzS, σ_2 = tz_st σ_1 137 (σ_1.1 133 8).toNatClampNeg 0 →
      vp_in (σ_2.1 133 8) 110 ∧ (
        ∀ σ_3 : tzS, σ_3 = tz_st σ_2 138 (σ_2.1 133 8).toNatClampNeg (σ_2.1 133 7) →
        (¬ x2 = 0 →
          ∀ σ_4 : tzS, σ_4 = tz_st σ_3 133 8 ((σ_3.1 133 8) + 1) →
          Q σ_4) ∧
        (x2 = 0 →
          vp_in (σ_3.1 133 7) 14 ∧ (
            ∀ σ_5 : tzS, σ_5 = tz_st σ_3 142 (σ_3.1 133 7).toNatClampNeg (σ_3.1 133 8) →
            ∀ σ_6 : tzS, σ_6 = tz_st σ_5 133 8 ((σ_5.1 133 8) + 1) →
            Q σ_6)))))
set_option maxRecDepth 20000 in
set_option maxHeartbeats 4000000 in
theorem m_X10_begins (G : tzG) (hG : tz_ok G) {x1 : Int32} {x2 : Int32}  {σ : tzS} {Q : tzS → Prop} (h : vc_X10_begins x1 x2 σ Q) : tz_M G yX10_begins cX10_begins 3 (none) 0 0 [.ref 133, .int x1, .int x2] σ (tz_Qv G Q) := by
  unfold vc_X10_begins at h
  refine tz_startv hG RX10 [(0, .ref _), (1, .int x1), (2, .int x2)] (by decide) rfl (Nat.le_of_ble_eq_true rfl) rfl (fun E C hret => ?_)
  refine tz_aload_n 0 0 C dX10_begins_0 rfl rfl ?_
  refine tz_getR C dX10_begins_1 fl_RX10_16 (by decide) rfl rfl ?_
  refine tz_aload_n 0 0 C dX10_begins_4 rfl rfl ?_
  refine tz_getI C dX10_begins_5 fl_RX10_115 (by decide) rfl rfl ?_
  refine tz_iload_n 1 1 C dX10_begins_8 rfl rfl ?_
  refine tz_iast C dX10_begins_9 (by decide) rfl h (fun σ_1 h => ?_)
  refine tz_aload_n 0 0 C dX10_begins_10 rfl rfl ?_
  refine tz_getR C dX10_begins_11 fl_RX10_19 (by decide) rfl rfl ?_
  refine tz_aload_n 0 0 C dX10_begins_14 rfl rfl ?_
  refine tz_getI C dX10_begins_15 fl_RX10_115 (by decide) rfl rfl ?_
  refine tz_iconst 0 (by decide) C dX10_begins_18 ?_
  refine tz_iast C dX10_begins_19 (by decide) rfl h (fun σ_2 h => ?_)
  refine tz_aload_n 0 0 C dX10_begins_20 rfl rfl ?_
  refine tz_getR C dX10_begins_21 fl_RX10_22 (by decide) rfl rfl ?_
  refine tz_aload_n 0 0 C dX10_begins_24 rfl rfl ?_
  refine tz_getI C dX10_begins_25 fl_RX10_115 (by decide) rfl rfl ?_
  refine tz_aload_n 0 0 C dX10_begins_28 rfl rfl ?_
  refine tz_getI C dX10_begins_29 fl_RX10_109 (by decide) rfl rfl ?_
  refine tz_iast C dX10_begins_32 (by decide) rfl h (fun σ_3 h => ?_)
  refine tz_iload_n 2 2 C dX10_begins_33 rfl rfl ?_
  refine tz_if_ne 50 C dX10_begins_34 (by decide) h (fun h => ?_) (fun h => ?_)
  · refine tz_aload_n 0 0 C dX10_begins_50 rfl rfl ?_
    refine tz_dup C dX10_begins_51 rfl ?_
    refine tz_getI C dX10_begins_52 fl_RX10_115 (by decide) rfl rfl ?_
    refine tz_iconst 1 (by decide) C dX10_begins_55 ?_
    refine tz_iadd C dX10_begins_56 ?_
    refine tz_put C dX10_begins_57 fp_RX10_115 (by decide) rfl rfl rfl rfl h (fun σ_4 h => ?_)
    exact hret _ _ _ dX10_begins_60 h
  · refine tz_aload_n 0 0 C dX10_begins_37 rfl rfl ?_
    refine tz_getR C dX10_begins_38 fl_RX10_34 (by decide) rfl rfl ?_
    refine tz_aload_n 0 0 C dX10_begins_41 rfl rfl ?_
    refine tz_getI C dX10_begins_42 fl_RX10_109 (by decide) rfl rfl ?_
    refine tz_aload_n 0 0 C dX10_begins_45 rfl rfl ?_
    refine tz_getI C dX10_begins_46 fl_RX10_115 (by decide) rfl rfl ?_
    refine tz_iast C dX10_begins_49 (by decide) rfl h (fun σ_5 h => ?_)
    refine tz_aload_n 0 0 C dX10_begins_50 rfl rfl ?_
    refine tz_dup C dX10_begins_51 rfl ?_
    refine tz_getI C dX10_begins_52 fl_RX10_115 (by decide) rfl rfl ?_
    refine tz_iconst 1 (by decide) C dX10_begins_55 ?_
    refine tz_iadd C dX10_begins_56 ?_
    refine tz_put C dX10_begins_57 fp_RX10_115 (by decide) rfl rfl rfl rfl h (fun σ_6 h => ?_)
    exact hret _ _ _ dX10_begins_60 h

def vc_X10_readsText  (σ : tzS) (Q : tzS → Prop) : Prop :=
  ∀ σ_1 : tzS, σ_1 = tz_st σ 133 7 0 →
  ∀ σ_2 : tzS, σ_2 = tz_st σ_1 133 8 0 →
  ∀ σ_3 : tzS, σ_3 = tz_st σ_2 133 4 (-1) →
  ∀ σ_4 : tzS, σ_4 = tz_st σ_3 133 5 (-1) →
  ∀ σ_5 : tzS, σ_5 = tz_st σ_4 133 6 (-1) →
  tz_loop3 (fun (x1_8 : Int32) (x2_9 : Int32) (x3_10 : Int32) (σ_7 : tzS) (ag_6 : Int32 → Int32 → Int32 → tzS → Prop) =>
    ((σ_7.1 133 0) ≤ x3_10 →
      (x1_8 ≤ 1 →
        Q σ_7) ∧
      (¬ x1_8 ≤ 1 →
        vc_X10_fails (σ_7.1 133 0) 5 σ_7 (fun (σ_11 : tzS) =>
          Q σ_11))) ∧
    (¬ (σ_7.1 133 0) ≤ x3_10 →
      vp_in x3_10 200 ∧ (
        ∀ x4_12 : Int32, x4_12 = (σ_7.1 134 x3_10.toNatClampNeg) →
        (¬ x1_8 = 2 →
          vc_X10_whyNot x4_12 x1_8 x2_9 0 σ_7 (fun (r_14 : Int32) (σ_13 : tzS) =>
            (r_14 = (-1) →
              vc_X10_in x4_12 97 122 σ_13 (fun (r_16 : Int32) (σ_15 : tzS) =>
                (r_16 = 0 →
                  (¬ x4_12 = 46 →
                    (¬ x1_8 = 1 →
                      ∀ x3_17 : Int32, x3_17 = x3_10 + 1 →
                      ag_6 3 x2_9 x3_17 σ_15) ∧
                    (x1_8 = 1 →
                      ∀ x3_18 : Int32, x3_18 = x3_10 + 1 →
                      ag_6 0 x2_9 x3_18 σ_15)) ∧
                  (x4_12 = 46 →
                    ∀ σ_19 : tzS, σ_19 = tz_st σ_15 133 7 ((σ_15.1 133 7) + 1) →
                    ∀ x3_20 : Int32, x3_20 = x3_10 + 1 →
                    ag_6 1 0 x3_20 σ_19)) ∧
                (¬ r_16 = 0 →
                  (x1_8 = 2 →
                    vp_in ((σ_15.1 133 8) - 1) 110 ∧ (
                      vp_in ((σ_15.1 133 8) - 1) 110 ∧ (
                        ∀ σ_21 : tzS, σ_21 = tz_st σ_15 137 ((σ_15.1 133 8) - 1).toNatClampNeg ((σ_15.1 137 ((σ_15.1 133 8) - 1).toNatClampNeg) + 1) →
                        ∀ x3_22 : Int32, x3_22 = x3_10 + 1 →
                        ag_6 2 x2_9 x3_22 σ_21))) ∧
                  (¬ x1_8 = 2 →
                    vc_X10_begins x3_10 x2_9 σ_15 (fun (σ_23 : tzS) =>
                      ∀ x2_24 : Int32, x2_24 = x2_9 + 1 →
                      vp_in ((σ_23.1 133 8) - 1) 110 ∧ (
                        vp_in ((σ_23.1 133 8) - 1) 110 ∧ (
                          ∀ σ_25 : tzS, σ_25 = tz_st σ_23 137 ((σ_23.1 133 8) - 1).toNatClampNeg ((σ_23.1 137 ((σ_23.1 133 8) - 1).toNatClampNeg) + 1) →
                          ∀ x3_26 : Int32, x3_26 = x3_10 + 1 →
                          ag_6 2 x2_24 x3_26 σ_25))))))) ∧
            (¬ r_14 = (-1) →
              vc_X10_fails x3_10 r_14 σ_13 (fun (σ_27 : tzS) =>
                Q σ_27)))) ∧
        (x1_8 = 2 →
          vp_in ((σ_7.1 133 8) - 1) 110 ∧ (
            vc_X10_whyNot x4_12 x1_8 x2_9 (σ_7.1 137 ((σ_7.1 133 8) - 1).toNatClampNeg) σ_7 (fun (r_29 : Int32) (σ_28 : tzS) =>
              (r_29 = (-1) →
                vc_X10_in x4_12 97 122 σ_28 (fun (r_31 : Int32) (σ_30 : tzS) =>
                  (r_31 = 0 →
                    (¬ x4_12 = 46 →
                      (¬ x1_8 = 1 →
                        ∀ x3_32 : Int32, x3_32 = x3_10 + 1 →
                        ag_6 3 x2_9 x3_32 σ_30) ∧
                      (x1_8 = 1 →
                        ∀ x3_33 : Int32, x3_33 = x3_10 + 1 →
                        ag_6 0 x2_9 x3_33 σ_30)) ∧
                    (x4_12 = 46 →
                      ∀ σ_34 : tzS, σ_34 = tz_st σ_30 133 7 ((σ_30.1 133 7) + 1) →
                      ∀ x3_35 : Int32, x3_35 = x3_10 + 1 →
                      ag_6 1 0 x3_35 σ_34)) ∧
                  (¬ r_31 = 0 →
                    (x1_8 = 2 →
                      vp_in ((σ_30.1 133 8) - 1) 110 ∧ (
                        vp_in ((σ_30.1 133 8) - 1) 110 ∧ (
                          ∀ σ_36 : tzS, σ_36 = tz_st σ_30 137 ((σ_30.1 133 8) - 1).toNatClampNeg ((σ_30.1 137 ((σ_30.1 133 8) - 1).toNatClampNeg) + 1) →
                          ∀ x3_37 : Int32, x3_37 = x3_10 + 1 →
                          ag_6 2 x2_9 x3_37 σ_36))) ∧
                    (¬ x1_8 = 2 →
                      vc_X10_begins x3_10 x2_9 σ_30 (fun (σ_38 : tzS) =>
                        ∀ x2_39 : Int32, x2_39 = x2_9 + 1 →
                        vp_in ((σ_38.1 133 8) - 1) 110 ∧ (
                          vp_in ((σ_38.1 133 8) - 1) 110 ∧ (
                            ∀ σ_40 : tzS, σ_40 = tz_st σ_38 137 ((σ_38.1 133 8) - 1).toNatClampNeg ((σ_38.1 137 ((σ_38.1 133 8) - 1).toNatClampNeg) + 1) →
                            ∀ x3_41 : Int32, x3_41 = x3_10 + 1 →
                            ag_6 2 x2_39 x3_41 σ_40))))))) ∧
              (¬ r_29 = (-1) →
                vc_X10_fails x3_10 r_29 σ_28 (fun (σ_42 : tzS) =>
                  Q σ_42)))))))) (0 : Int32) (0 : Int32) (0 : Int32) σ_5
set_option maxRecDepth 20000 in
set_option maxHeartbeats 4000000 in
theorem m_X10_readsText (G : tzG) (hG : tz_ok G)   {σ : tzS} {Q : tzS → Prop} (h : vc_X10_readsText  σ Q) : tz_M G yX10_readsText cX10_readsText 6 (none) 2 47 [.ref 133] σ (tz_Qv G Q) := by
  unfold vc_X10_readsText at h
  refine tz_startv hG RX10 [(0, .ref _)] (by decide) rfl (Nat.le_of_ble_eq_true rfl) rfl (fun E C hret => ?_)
  refine tz_aload_n 0 0 C dX10_readsText_0 rfl rfl ?_
  refine tz_iconst 0 (by decide) C dX10_readsText_1 ?_
  refine tz_put C dX10_readsText_2 fp_RX10_109 (by decide) rfl rfl rfl rfl h (fun σ_1 h => ?_)
  refine tz_aload_n 0 0 C dX10_readsText_5 rfl rfl ?_
  refine tz_iconst 0 (by decide) C dX10_readsText_6 ?_
  refine tz_put C dX10_readsText_7 fp_RX10_115 (by decide) rfl rfl rfl rfl h (fun σ_2 h => ?_)
  refine tz_aload_n 0 0 C dX10_readsText_10 rfl rfl ?_
  refine tz_iconst (-1) (by decide) C dX10_readsText_11 ?_
  refine tz_put C dX10_readsText_12 fp_RX10_103 (by decide) rfl rfl rfl rfl h (fun σ_3 h => ?_)
  refine tz_aload_n 0 0 C dX10_readsText_15 rfl rfl ?_
  refine tz_iconst (-1) (by decide) C dX10_readsText_16 ?_
  refine tz_put C dX10_readsText_17 fp_RX10_106 (by decide) rfl rfl rfl rfl h (fun σ_4 h => ?_)
  refine tz_aload_n 0 0 C dX10_readsText_20 rfl rfl ?_
  refine tz_iconst (-1) (by decide) C dX10_readsText_21 ?_
  refine tz_put C dX10_readsText_22 fp_RX10_112 (by decide) rfl rfl rfl rfl h (fun σ_5 h => ?_)
  refine tz_iconst 0 (by decide) C dX10_readsText_25 ?_
  refine tz_istore_n_k 1 [(0, .ref _)] C dX10_readsText_26 rfl (Nat.le_of_ble_eq_true rfl) rfl ?_
  refine tz_iconst 0 (by decide) C dX10_readsText_27 ?_
  refine tz_istore_n_k 2 [(1, .int 0), (0, .ref _)] C dX10_readsText_28 rfl (Nat.le_of_ble_eq_true rfl) rfl ?_
  refine tz_iconst 0 (by decide) C dX10_readsText_29 ?_
  refine tz_istore_n_k 3 [(2, .int 0), (1, .int 0), (0, .ref _)] C dX10_readsText_30 rfl (Nat.le_of_ble_eq_true rfl) rfl ?_
  refine tz_sub (L := [(0, .ref _), (1, .int 0), (2, .int 0), (3, .int 0)]) ?_ [3, 2, 1, 0] rfl
  refine tz_loop3_w (V := fun (x1_8 : Int32) (x2_9 : Int32) (x3_10 : Int32) (σ_7 : tzS) => tz_V G E 31 [(0, .ref _), (1, .int x1_8), (2, .int x2_9), (3, .int x3_10)] [] σ_7) h (fun ag_6 ihag_6 x1_8 x2_9 x3_10 σ_7 h => ?_)
  refine tz_iload_n 3 3 C dX10_readsText_31 rfl rfl ?_
  refine tz_aload_n 0 0 C dX10_readsText_32 rfl rfl ?_
  refine tz_getI C dX10_readsText_33 fl_RX10_81 (by decide) rfl rfl ?_
  refine tz_icmp_ge 178 C dX10_readsText_36 (by decide) h (fun h => ?_) (fun h => ?_)
  · refine tz_iload_n 1 1 C dX10_readsText_178 rfl rfl ?_
    refine tz_iconst 1 (by decide) C dX10_readsText_179 ?_
    refine tz_icmp_le 192 C dX10_readsText_180 (by decide) h (fun h => ?_) (fun h => ?_)
    · exact hret _ _ _ dX10_readsText_192 h
    · refine tz_aload_n 0 0 C dX10_readsText_183 rfl rfl ?_
      refine tz_aload_n 0 0 C dX10_readsText_184 rfl rfl ?_
      refine tz_getI C dX10_readsText_185 fl_RX10_81 (by decide) rfl rfl ?_
      refine tz_iconst 5 (by decide) C dX10_readsText_188 ?_
      refine tz_callvv C dX10_readsText_189 lk_RX10_122 (m_X10_fails G hG  h) (by decide) rfl rfl rfl rfl ⟨Nat.le_of_ble_eq_true rfl, Nat.le_of_ble_eq_true rfl⟩ (Nat.le_of_ble_eq_true rfl) rfl (fun σ_11 h => ?_)
      exact hret _ _ _ dX10_readsText_192 h
  · refine tz_aload_n 0 0 C dX10_readsText_39 rfl rfl ?_
    refine tz_getR C dX10_readsText_40 fl_RX10_7 (by decide) rfl rfl ?_
    refine tz_iload_n 3 3 C dX10_readsText_43 rfl rfl ?_
    obtain ⟨hin, h⟩ := h
    refine tz_iald C dX10_readsText_44 (by decide) rfl hin ?_
    refine tz_istore [(0, .ref _), (1, .int x1_8), (2, .int x2_9), (3, .int x3_10)] C dX10_readsText_45 (Nat.le_of_ble_eq_true rfl) rfl h (fun x4_12 h => ?_)
    refine tz_aload_n 0 1 C dX10_readsText_47 rfl rfl ?_
    refine tz_iload 0 C dX10_readsText_48 rfl ?_
    refine tz_iload_n 1 2 C dX10_readsText_50 rfl rfl ?_
    refine tz_iload_n 2 3 C dX10_readsText_51 rfl rfl ?_
    refine tz_iload_n 1 2 C dX10_readsText_52 rfl rfl ?_
    refine tz_iconst 2 (by decide) C dX10_readsText_53 ?_
    refine tz_icmp_ne 71 C dX10_readsText_54 (by decide) h (fun h => ?_) (fun h => ?_)
    · refine tz_iconst 0 (by decide) C dX10_readsText_71 ?_
      refine tz_calliv C dX10_readsText_72 lk_RX10_118 (m_X10_whyNot G hG  h) (by decide) rfl rfl rfl rfl ⟨Nat.le_of_ble_eq_true rfl, Nat.le_of_ble_eq_true rfl⟩ (Nat.le_of_ble_eq_true rfl) rfl (fun r_14 σ_13 h => ?_)
      refine tz_istore_k [(4, .int x4_12), (0, .ref _), (1, .int x1_8), (2, .int x2_9), (3, .int x3_10)] C dX10_readsText_75 (Nat.le_of_ble_eq_true rfl) rfl ?_
      refine tz_iload 0 C dX10_readsText_77 rfl ?_
      refine tz_iconst (-1) (by decide) C dX10_readsText_79 ?_
      refine tz_icmp_eq 91 C dX10_readsText_80 (by decide) h (fun h => ?_) (fun h => ?_)
      · refine tz_iload 1 C dX10_readsText_91 rfl ?_
        refine tz_bipush 97 (by decide) C dX10_readsText_93 ?_
        refine tz_bipush 122 (by decide) C dX10_readsText_95 ?_
        refine tz_callis C dX10_readsText_97 lk_RX10_77 (m_X10_in G hG  h) rfl ⟨Nat.le_of_ble_eq_true rfl, Nat.le_of_ble_eq_true rfl⟩ (Nat.le_of_ble_eq_true rfl) rfl (fun r_16 σ_15 h => ?_)
        refine tz_if_eq 137 C dX10_readsText_100 (by decide) h (fun h => ?_) (fun h => ?_)
        · refine tz_iload 1 C dX10_readsText_137 rfl ?_
          refine tz_bipush 46 (by decide) C dX10_readsText_139 ?_
          refine tz_icmp_ne 161 C dX10_readsText_141 (by decide) h (fun h => ?_) (fun h => ?_)
          · refine tz_iload_n 1 3 C dX10_readsText_161 rfl rfl ?_
            refine tz_iconst 1 (by decide) C dX10_readsText_162 ?_
            refine tz_icmp_ne 170 C dX10_readsText_163 (by decide) h (fun h => ?_) (fun h => ?_)
            · refine tz_iconst 3 (by decide) C dX10_readsText_170 ?_
              refine tz_istore_n_k 1 [(5, .int r_14), (4, .int x4_12), (0, .ref _), (2, .int x2_9), (3, .int x3_10)] C dX10_readsText_171 rfl (Nat.le_of_ble_eq_true rfl) rfl ?_
              refine tz_iinc 5 [(1, .int 3), (5, .int r_14), (4, .int x4_12), (0, .ref _), (2, .int x2_9)] 1 C dX10_readsText_172 (by decide) rfl (Nat.le_of_ble_eq_true rfl) rfl h (fun x3_17 h => ?_)
              refine tz_goto 31 C dX10_readsText_175 (by decide) ?_
              exact tz_sub (ihag_6 _ _ _ _ h) [4, 1, 5, 0] rfl
            · refine tz_iconst 0 (by decide) C dX10_readsText_166 ?_
              refine tz_goto 171 C dX10_readsText_167 (by decide) ?_
              refine tz_istore_n_k 1 [(5, .int r_14), (4, .int x4_12), (0, .ref _), (2, .int x2_9), (3, .int x3_10)] C dX10_readsText_171 rfl (Nat.le_of_ble_eq_true rfl) rfl ?_
              refine tz_iinc 5 [(1, .int 0), (5, .int r_14), (4, .int x4_12), (0, .ref _), (2, .int x2_9)] 1 C dX10_readsText_172 (by decide) rfl (Nat.le_of_ble_eq_true rfl) rfl h (fun x3_18 h => ?_)
              refine tz_goto 31 C dX10_readsText_175 (by decide) ?_
              exact tz_sub (ihag_6 _ _ _ _ h) [4, 1, 5, 0] rfl
          · refine tz_aload_n 0 2 C dX10_readsText_144 rfl rfl ?_
            refine tz_dup C dX10_readsText_145 rfl ?_
            refine tz_getI C dX10_readsText_146 fl_RX10_109 (by decide) rfl rfl ?_
            refine tz_iconst 1 (by decide) C dX10_readsText_149 ?_
            refine tz_iadd C dX10_readsText_150 ?_
            refine tz_put C dX10_readsText_151 fp_RX10_109 (by decide) rfl rfl rfl rfl h (fun σ_19 h => ?_)
            refine tz_iconst 0 (by decide) C dX10_readsText_154 ?_
            refine tz_istore_n_k 2 [(5, .int r_14), (4, .int x4_12), (0, .ref _), (1, .int x1_8), (3, .int x3_10)] C dX10_readsText_155 rfl (Nat.le_of_ble_eq_true rfl) rfl ?_
            refine tz_iconst 1 (by decide) C dX10_readsText_156 ?_
            refine tz_istore_n_k 1 [(2, .int 0), (5, .int r_14), (4, .int x4_12), (0, .ref _), (3, .int x3_10)] C dX10_readsText_157 rfl (Nat.le_of_ble_eq_true rfl) rfl ?_
            refine tz_goto 172 C dX10_readsText_158 (by decide) ?_
            refine tz_iinc 5 [(1, .int 1), (2, .int 0), (5, .int r_14), (4, .int x4_12), (0, .ref _)] 1 C dX10_readsText_172 (by decide) rfl (Nat.le_of_ble_eq_true rfl) rfl h (fun x3_20 h => ?_)
            refine tz_goto 31 C dX10_readsText_175 (by decide) ?_
            exact tz_sub (ihag_6 _ _ _ _ h) [5, 1, 2, 0] rfl
        · refine tz_iload_n 1 3 C dX10_readsText_103 rfl rfl ?_
          refine tz_iconst 2 (by decide) C dX10_readsText_104 ?_
          refine tz_icmp_eq 117 C dX10_readsText_105 (by decide) h (fun h => ?_) (fun h => ?_)
          · refine tz_aload_n 0 2 C dX10_readsText_117 rfl rfl ?_
            refine tz_getR C dX10_readsText_118 fl_RX10_19 (by decide) rfl rfl ?_
            refine tz_aload_n 0 2 C dX10_readsText_121 rfl rfl ?_
            refine tz_getI C dX10_readsText_122 fl_RX10_115 (by decide) rfl rfl ?_
            refine tz_iconst 1 (by decide) C dX10_readsText_125 ?_
            refine tz_isub C dX10_readsText_126 ?_
            refine tz_dup2 C dX10_readsText_127 rfl rfl ?_
            obtain ⟨hin, h⟩ := h
            refine tz_iald C dX10_readsText_128 (by decide) rfl hin ?_
            refine tz_iconst 1 (by decide) C dX10_readsText_129 ?_
            refine tz_iadd C dX10_readsText_130 ?_
            refine tz_iast C dX10_readsText_131 (by decide) rfl h (fun σ_21 h => ?_)
            refine tz_iconst 2 (by decide) C dX10_readsText_132 ?_
            refine tz_istore_n_k 1 [(5, .int r_14), (4, .int x4_12), (0, .ref _), (2, .int x2_9), (3, .int x3_10)] C dX10_readsText_133 rfl (Nat.le_of_ble_eq_true rfl) rfl ?_
            refine tz_goto 172 C dX10_readsText_134 (by decide) ?_
            refine tz_iinc 5 [(1, .int 2), (5, .int r_14), (4, .int x4_12), (0, .ref _), (2, .int x2_9)] 1 C dX10_readsText_172 (by decide) rfl (Nat.le_of_ble_eq_true rfl) rfl h (fun x3_22 h => ?_)
            refine tz_goto 31 C dX10_readsText_175 (by decide) ?_
            exact tz_sub (ihag_6 _ _ _ _ h) [4, 1, 5, 0] rfl
          · refine tz_aload_n 0 2 C dX10_readsText_108 rfl rfl ?_
            refine tz_iload_n 3 5 C dX10_readsText_109 rfl rfl ?_
            refine tz_iload_n 2 4 C dX10_readsText_110 rfl rfl ?_
            refine tz_callvv C dX10_readsText_111 lk_RX10_126 (m_X10_begins G hG  h) (by decide) rfl rfl rfl rfl ⟨Nat.le_of_ble_eq_true rfl, Nat.le_of_ble_eq_true rfl⟩ (Nat.le_of_ble_eq_true rfl) rfl (fun σ_23 h => ?_)
            refine tz_iinc 4 [(5, .int r_14), (4, .int x4_12), (0, .ref _), (1, .int x1_8), (3, .int x3_10)] 1 C dX10_readsText_114 (by decide) rfl (Nat.le_of_ble_eq_true rfl) rfl h (fun x2_24 h => ?_)
            refine tz_aload_n 0 3 C dX10_readsText_117 rfl rfl ?_
            refine tz_getR C dX10_readsText_118 fl_RX10_19 (by decide) rfl rfl ?_
            refine tz_aload_n 0 3 C dX10_readsText_121 rfl rfl ?_
            refine tz_getI C dX10_readsText_122 fl_RX10_115 (by decide) rfl rfl ?_
            refine tz_iconst 1 (by decide) C dX10_readsText_125 ?_
            refine tz_isub C dX10_readsText_126 ?_
            refine tz_dup2 C dX10_readsText_127 rfl rfl ?_
            obtain ⟨hin, h⟩ := h
            refine tz_iald C dX10_readsText_128 (by decide) rfl hin ?_
            refine tz_iconst 1 (by decide) C dX10_readsText_129 ?_
            refine tz_iadd C dX10_readsText_130 ?_
            refine tz_iast C dX10_readsText_131 (by decide) rfl h (fun σ_25 h => ?_)
            refine tz_iconst 2 (by decide) C dX10_readsText_132 ?_
            refine tz_istore_n_k 1 [(2, .int x2_24), (5, .int r_14), (4, .int x4_12), (0, .ref _), (3, .int x3_10)] C dX10_readsText_133 rfl (Nat.le_of_ble_eq_true rfl) rfl ?_
            refine tz_goto 172 C dX10_readsText_134 (by decide) ?_
            refine tz_iinc 5 [(1, .int 2), (2, .int x2_24), (5, .int r_14), (4, .int x4_12), (0, .ref _)] 1 C dX10_readsText_172 (by decide) rfl (Nat.le_of_ble_eq_true rfl) rfl h (fun x3_26 h => ?_)
            refine tz_goto 31 C dX10_readsText_175 (by decide) ?_
            exact tz_sub (ihag_6 _ _ _ _ h) [5, 1, 2, 0] rfl
      · refine tz_aload_n 0 2 C dX10_readsText_83 rfl rfl ?_
        refine tz_iload_n 3 5 C dX10_readsText_84 rfl rfl ?_
        refine tz_iload 0 C dX10_readsText_85 rfl ?_
        refine tz_callvv C dX10_readsText_87 lk_RX10_122 (m_X10_fails G hG  h) (by decide) rfl rfl rfl rfl ⟨Nat.le_of_ble_eq_true rfl, Nat.le_of_ble_eq_true rfl⟩ (Nat.le_of_ble_eq_true rfl) rfl (fun σ_27 h => ?_)
        exact hret _ _ _ dX10_readsText_90 h
    · refine tz_aload_n 0 1 C dX10_readsText_57 rfl rfl ?_
      refine tz_getR C dX10_readsText_58 fl_RX10_19 (by decide) rfl rfl ?_
      refine tz_aload_n 0 1 C dX10_readsText_61 rfl rfl ?_
      refine tz_getI C dX10_readsText_62 fl_RX10_115 (by decide) rfl rfl ?_
      refine tz_iconst 1 (by decide) C dX10_readsText_65 ?_
      refine tz_isub C dX10_readsText_66 ?_
      obtain ⟨hin, h⟩ := h
      refine tz_iald C dX10_readsText_67 (by decide) rfl hin ?_
      refine tz_goto 72 C dX10_readsText_68 (by decide) ?_
      refine tz_calliv C dX10_readsText_72 lk_RX10_118 (m_X10_whyNot G hG  h) (by decide) rfl rfl rfl rfl ⟨Nat.le_of_ble_eq_true rfl, Nat.le_of_ble_eq_true rfl⟩ (Nat.le_of_ble_eq_true rfl) rfl (fun r_29 σ_28 h => ?_)
      refine tz_istore_k [(4, .int x4_12), (0, .ref _), (1, .int x1_8), (2, .int x2_9), (3, .int x3_10)] C dX10_readsText_75 (Nat.le_of_ble_eq_true rfl) rfl ?_
      refine tz_iload 0 C dX10_readsText_77 rfl ?_
      refine tz_iconst (-1) (by decide) C dX10_readsText_79 ?_
      refine tz_icmp_eq 91 C dX10_readsText_80 (by decide) h (fun h => ?_) (fun h => ?_)
      · refine tz_iload 1 C dX10_readsText_91 rfl ?_
        refine tz_bipush 97 (by decide) C dX10_readsText_93 ?_
        refine tz_bipush 122 (by decide) C dX10_readsText_95 ?_
        refine tz_callis C dX10_readsText_97 lk_RX10_77 (m_X10_in G hG  h) rfl ⟨Nat.le_of_ble_eq_true rfl, Nat.le_of_ble_eq_true rfl⟩ (Nat.le_of_ble_eq_true rfl) rfl (fun r_31 σ_30 h => ?_)
        refine tz_if_eq 137 C dX10_readsText_100 (by decide) h (fun h => ?_) (fun h => ?_)
        · refine tz_iload 1 C dX10_readsText_137 rfl ?_
          refine tz_bipush 46 (by decide) C dX10_readsText_139 ?_
          refine tz_icmp_ne 161 C dX10_readsText_141 (by decide) h (fun h => ?_) (fun h => ?_)
          · refine tz_iload_n 1 3 C dX10_readsText_161 rfl rfl ?_
            refine tz_iconst 1 (by decide) C dX10_readsText_162 ?_
            refine tz_icmp_ne 170 C dX10_readsText_163 (by decide) h (fun h => ?_) (fun h => ?_)
            · refine tz_iconst 3 (by decide) C dX10_readsText_170 ?_
              refine tz_istore_n_k 1 [(5, .int r_29), (4, .int x4_12), (0, .ref _), (2, .int x2_9), (3, .int x3_10)] C dX10_readsText_171 rfl (Nat.le_of_ble_eq_true rfl) rfl ?_
              refine tz_iinc 5 [(1, .int 3), (5, .int r_29), (4, .int x4_12), (0, .ref _), (2, .int x2_9)] 1 C dX10_readsText_172 (by decide) rfl (Nat.le_of_ble_eq_true rfl) rfl h (fun x3_32 h => ?_)
              refine tz_goto 31 C dX10_readsText_175 (by decide) ?_
              exact tz_sub (ihag_6 _ _ _ _ h) [4, 1, 5, 0] rfl
            · refine tz_iconst 0 (by decide) C dX10_readsText_166 ?_
              refine tz_goto 171 C dX10_readsText_167 (by decide) ?_
              refine tz_istore_n_k 1 [(5, .int r_29), (4, .int x4_12), (0, .ref _), (2, .int x2_9), (3, .int x3_10)] C dX10_readsText_171 rfl (Nat.le_of_ble_eq_true rfl) rfl ?_
              refine tz_iinc 5 [(1, .int 0), (5, .int r_29), (4, .int x4_12), (0, .ref _), (2, .int x2_9)] 1 C dX10_readsText_172 (by decide) rfl (Nat.le_of_ble_eq_true rfl) rfl h (fun x3_33 h => ?_)
              refine tz_goto 31 C dX10_readsText_175 (by decide) ?_
              exact tz_sub (ihag_6 _ _ _ _ h) [4, 1, 5, 0] rfl
          · refine tz_aload_n 0 2 C dX10_readsText_144 rfl rfl ?_
            refine tz_dup C dX10_readsText_145 rfl ?_
            refine tz_getI C dX10_readsText_146 fl_RX10_109 (by decide) rfl rfl ?_
            refine tz_iconst 1 (by decide) C dX10_readsText_149 ?_
            refine tz_iadd C dX10_readsText_150 ?_
            refine tz_put C dX10_readsText_151 fp_RX10_109 (by decide) rfl rfl rfl rfl h (fun σ_34 h => ?_)
            refine tz_iconst 0 (by decide) C dX10_readsText_154 ?_
            refine tz_istore_n_k 2 [(5, .int r_29), (4, .int x4_12), (0, .ref _), (1, .int x1_8), (3, .int x3_10)] C dX10_readsText_155 rfl (Nat.le_of_ble_eq_true rfl) rfl ?_
            refine tz_iconst 1 (by decide) C dX10_readsText_156 ?_
            refine tz_istore_n_k 1 [(2, .int 0), (5, .int r_29), (4, .int x4_12), (0, .ref _), (3, .int x3_10)] C dX10_readsText_157 rfl (Nat.le_of_ble_eq_true rfl) rfl ?_
            refine tz_goto 172 C dX10_readsText_158 (by decide) ?_
            refine tz_iinc 5 [(1, .int 1), (2, .int 0), (5, .int r_29), (4, .int x4_12), (0, .ref _)] 1 C dX10_readsText_172 (by decide) rfl (Nat.le_of_ble_eq_true rfl) rfl h (fun x3_35 h => ?_)
            refine tz_goto 31 C dX10_readsText_175 (by decide) ?_
            exact tz_sub (ihag_6 _ _ _ _ h) [5, 1, 2, 0] rfl
        · refine tz_iload_n 1 3 C dX10_readsText_103 rfl rfl ?_
          refine tz_iconst 2 (by decide) C dX10_readsText_104 ?_
          refine tz_icmp_eq 117 C dX10_readsText_105 (by decide) h (fun h => ?_) (fun h => ?_)
          · refine tz_aload_n 0 2 C dX10_readsText_117 rfl rfl ?_
            refine tz_getR C dX10_readsText_118 fl_RX10_19 (by decide) rfl rfl ?_
            refine tz_aload_n 0 2 C dX10_readsText_121 rfl rfl ?_
            refine tz_getI C dX10_readsText_122 fl_RX10_115 (by decide) rfl rfl ?_
            refine tz_iconst 1 (by decide) C dX10_readsText_125 ?_
            refine tz_isub C dX10_readsText_126 ?_
            refine tz_dup2 C dX10_readsText_127 rfl rfl ?_
            obtain ⟨hin, h⟩ := h
            refine tz_iald C dX10_readsText_128 (by decide) rfl hin ?_
            refine tz_iconst 1 (by decide) C dX10_readsText_129 ?_
            refine tz_iadd C dX10_readsText_130 ?_
            refine tz_iast C dX10_readsText_131 (by decide) rfl h (fun σ_36 h => ?_)
            refine tz_iconst 2 (by decide) C dX10_readsText_132 ?_
            refine tz_istore_n_k 1 [(5, .int r_29), (4, .int x4_12), (0, .ref _), (2, .int x2_9), (3, .int x3_10)] C dX10_readsText_133 rfl (Nat.le_of_ble_eq_true rfl) rfl ?_
            refine tz_goto 172 C dX10_readsText_134 (by decide) ?_
            refine tz_iinc 5 [(1, .int 2), (5, .int r_29), (4, .int x4_12), (0, .ref _), (2, .int x2_9)] 1 C dX10_readsText_172 (by decide) rfl (Nat.le_of_ble_eq_true rfl) rfl h (fun x3_37 h => ?_)
            refine tz_goto 31 C dX10_readsText_175 (by decide) ?_
            exact tz_sub (ihag_6 _ _ _ _ h) [4, 1, 5, 0] rfl
          · refine tz_aload_n 0 2 C dX10_readsText_108 rfl rfl ?_
            refine tz_iload_n 3 5 C dX10_readsText_109 rfl rfl ?_
            refine tz_iload_n 2 4 C dX10_readsText_110 rfl rfl ?_
            refine tz_callvv C dX10_readsText_111 lk_RX10_126 (m_X10_begins G hG  h) (by decide) rfl rfl rfl rfl ⟨Nat.le_of_ble_eq_true rfl, Nat.le_of_ble_eq_true rfl⟩ (Nat.le_of_ble_eq_true rfl) rfl (fun σ_38 h => ?_)
            refine tz_iinc 4 [(5, .int r_29), (4, .int x4_12), (0, .ref _), (1, .int x1_8), (3, .int x3_10)] 1 C dX10_readsText_114 (by decide) rfl (Nat.le_of_ble_eq_true rfl) rfl h (fun x2_39 h => ?_)
            refine tz_aload_n 0 3 C dX10_readsText_117 rfl rfl ?_
            refine tz_getR C dX10_readsText_118 fl_RX10_19 (by decide) rfl rfl ?_
            refine tz_aload_n 0 3 C dX10_readsText_121 rfl rfl ?_
            refine tz_getI C dX10_readsText_122 fl_RX10_115 (by decide) rfl rfl ?_
            refine tz_iconst 1 (by decide) C dX10_readsText_125 ?_
            refine tz_isub C dX10_readsText_126 ?_
            refine tz_dup2 C dX10_readsText_127 rfl rfl ?_
            obtain ⟨hin, h⟩ := h
            refine tz_iald C dX10_readsText_128 (by decide) rfl hin ?_
            refine tz_iconst 1 (by decide) C dX10_readsText_129 ?_
            refine tz_iadd C dX10_readsText_130 ?_
            refine tz_iast C dX10_readsText_131 (by decide) rfl h (fun σ_40 h => ?_)
            refine tz_iconst 2 (by decide) C dX10_readsText_132 ?_
            refine tz_istore_n_k 1 [(2, .int x2_39), (5, .int r_29), (4, .int x4_12), (0, .ref _), (3, .int x3_10)] C dX10_readsText_133 rfl (Nat.le_of_ble_eq_true rfl) rfl ?_
            refine tz_goto 172 C dX10_readsText_134 (by decide) ?_
            refine tz_iinc 5 [(1, .int 2), (2, .int x2_39), (5, .int r_29), (4, .int x4_12), (0, .ref _)] 1 C dX10_readsText_172 (by decide) rfl (Nat.le_of_ble_eq_true rfl) rfl h (fun x3_41 h => ?_)
            refine tz_goto 31 C dX10_readsText_175 (by decide) ?_
            exact tz_sub (ihag_6 _ _ _ _ h) [5, 1, 2, 0] rfl
      · refine tz_aload_n 0 2 C dX10_readsText_83 rfl rfl ?_
        refine tz_iload_n 3 5 C dX10_readsText_84 rfl rfl ?_
        refine tz_iload 0 C dX10_readsText_85 rfl ?_
        refine tz_callvv C dX10_readsText_87 lk_RX10_122 (m_X10_fails G hG  h) (by decide) rfl rfl rfl rfl ⟨Nat.le_of_ble_eq_true rfl, Nat.le_of_ble_eq_true rfl⟩ (Nat.le_of_ble_eq_true rfl) rfl (fun σ_42 h => ?_)
        exact hret _ _ _ dX10_readsText_90 h

def vc_X10_endsWith (x1 : Int32) (x2 : Int32) (x3 : Int32) (σ : tzS) (Q : Int32 → tzS → Prop) : Prop :=
  vp_in x1 110 ∧ (
    vp_in x1 110 ∧ (
      vp_in (((σ.1 136 x1.toNatClampNeg) + (σ.1 137 x1.toNatClampNeg)) - x2) 200 ∧ (
        (¬ (σ.1 134 (((σ.1 136 x1.toNatClampNeg) + (σ.1 137 x1.toNatClampNeg)) - x2).toNatClampNeg) = x3 →
          Q 0 σ) ∧
        ((σ.1 134 (((σ.1 136 x1.toNatClampNeg) + (σ.1 137 x1.toNatClampNeg)) - x2).toNatClampNeg) = x3 →
          Q 1 σ))))
set_option maxRecDepth 20000 in
set_option maxHeartbeats 4000000 in
theorem m_X10_endsWith (G : tzG) (hG : tz_ok G) {x1 : Int32} {x2 : Int32} {x3 : Int32}  {σ : tzS} {Q : Int32 → tzS → Prop} (h : vc_X10_endsWith x1 x2 x3 σ Q) : tz_M G yX10_endsWith cX10_endsWith 4 (some .boolean) 0 0 [.ref 133, .int x1, .int x2, .int x3] σ (tz_Qi G Q) := by
  unfold vc_X10_endsWith at h
  refine tz_startz hG RX10 [(0, .ref _), (1, .int x1), (2, .int x2), (3, .int x3)] (by decide) rfl (Nat.le_of_ble_eq_true rfl) rfl (fun E C hret => ?_)
  refine tz_aload_n 0 0 C dX10_endsWith_0 rfl rfl ?_
  refine tz_getR C dX10_endsWith_1 fl_RX10_7 (by decide) rfl rfl ?_
  refine tz_aload_n 0 0 C dX10_endsWith_4 rfl rfl ?_
  refine tz_getR C dX10_endsWith_5 fl_RX10_16 (by decide) rfl rfl ?_
  refine tz_iload_n 1 1 C dX10_endsWith_8 rfl rfl ?_
  obtain ⟨hin, h⟩ := h
  refine tz_iald C dX10_endsWith_9 (by decide) rfl hin ?_
  refine tz_aload_n 0 0 C dX10_endsWith_10 rfl rfl ?_
  refine tz_getR C dX10_endsWith_11 fl_RX10_19 (by decide) rfl rfl ?_
  refine tz_iload_n 1 1 C dX10_endsWith_14 rfl rfl ?_
  obtain ⟨hin, h⟩ := h
  refine tz_iald C dX10_endsWith_15 (by decide) rfl hin ?_
  refine tz_iadd C dX10_endsWith_16 ?_
  refine tz_iload_n 2 2 C dX10_endsWith_17 rfl rfl ?_
  refine tz_isub C dX10_endsWith_18 ?_
  obtain ⟨hin, h⟩ := h
  refine tz_iald C dX10_endsWith_19 (by decide) rfl hin ?_
  refine tz_iload_n 3 3 C dX10_endsWith_20 rfl rfl ?_
  refine tz_icmp_ne 28 C dX10_endsWith_21 (by decide) h (fun h => ?_) (fun h => ?_)
  · refine tz_iconst 0 (by decide) C dX10_endsWith_28 ?_
    exact hret _ _ _ _ dX10_endsWith_29 rfl h
  · refine tz_iconst 1 (by decide) C dX10_endsWith_24 ?_
    refine tz_goto 29 C dX10_endsWith_25 (by decide) ?_
    exact hret _ _ _ _ dX10_endsWith_29 rfl h

def vc_X10_longOf (x1 : Int32) (σ : tzS) (Q : Int32 → tzS → Prop) : Prop :=
  vp_in x1 110 ∧ (
    ∀ x2_1 : Int32, x2_1 = (σ.1 137 x1.toNatClampNeg) →
    (x2_1 < 6 →
      (x2_1 < 5 →
        (x2_1 < 4 →
          Q x2_1 σ) ∧
        (¬ x2_1 < 4 →
          vc_X10_endsWith x1 1 115 σ (fun (r_3 : Int32) (σ_2 : tzS) =>
            (r_3 = 0 →
              Q x2_1 σ_2) ∧
            (¬ r_3 = 0 →
              vc_X10_endsWith x1 2 115 σ_2 (fun (r_5 : Int32) (σ_4 : tzS) =>
                (¬ r_5 = 0 →
                  Q x2_1 σ_4) ∧
                (r_5 = 0 →
                  Q (x2_1 - 1) σ_4)))))) ∧
      (¬ x2_1 < 5 →
        vc_X10_endsWith x1 2 101 σ (fun (r_7 : Int32) (σ_6 : tzS) =>
          (r_7 = 0 →
            (x2_1 < 4 →
              Q x2_1 σ_6) ∧
            (¬ x2_1 < 4 →
              vc_X10_endsWith x1 1 115 σ_6 (fun (r_9 : Int32) (σ_8 : tzS) =>
                (r_9 = 0 →
                  Q x2_1 σ_8) ∧
                (¬ r_9 = 0 →
                  vc_X10_endsWith x1 2 115 σ_8 (fun (r_11 : Int32) (σ_10 : tzS) =>
                    (¬ r_11 = 0 →
                      Q x2_1 σ_10) ∧
                    (r_11 = 0 →
                      Q (x2_1 - 1) σ_10)))))) ∧
          (¬ r_7 = 0 →
            vc_X10_endsWith x1 1 100 σ_6 (fun (r_13 : Int32) (σ_12 : tzS) =>
              (r_13 = 0 →
                (x2_1 < 4 →
                  Q x2_1 σ_12) ∧
                (¬ x2_1 < 4 →
                  vc_X10_endsWith x1 1 115 σ_12 (fun (r_15 : Int32) (σ_14 : tzS) =>
                    (r_15 = 0 →
                      Q x2_1 σ_14) ∧
                    (¬ r_15 = 0 →
                      vc_X10_endsWith x1 2 115 σ_14 (fun (r_17 : Int32) (σ_16 : tzS) =>
                        (¬ r_17 = 0 →
                          Q x2_1 σ_16) ∧
                        (r_17 = 0 →
                          Q (x2_1 - 1) σ_16)))))) ∧
              (¬ r_13 = 0 →
                Q (x2_1 - 2) σ_12)))))) ∧
    (¬ x2_1 < 6 →
      vc_X10_endsWith x1 3 105 σ (fun (r_19 : Int32) (σ_18 : tzS) =>
        (r_19 = 0 →
          (x2_1 < 5 →
            (x2_1 < 4 →
              Q x2_1 σ_18) ∧
            (¬ x2_1 < 4 →
              vc_X10_endsWith x1 1 115 σ_18 (fun (r_21 : Int32) (σ_20 : tzS) =>
                (r_21 = 0 →
                  Q x2_1 σ_20) ∧
                (¬ r_21 = 0 →
                  vc_X10_endsWith x1 2 115 σ_20 (fun (r_23 : Int32) (σ_22 : tzS) =>
                    (¬ r_23 = 0 →
                      Q x2_1 σ_22) ∧
                    (r_23 = 0 →
                      Q (x2_1 - 1) σ_22)))))) ∧
          (¬ x2_1 < 5 →
            vc_X10_endsWith x1 2 101 σ_18 (fun (r_25 : Int32) (σ_24 : tzS) =>
              (r_25 = 0 →
                (x2_1 < 4 →
                  Q x2_1 σ_24) ∧
                (¬ x2_1 < 4 →
                  vc_X10_endsWith x1 1 115 σ_24 (fun (r_27 : Int32) (σ_26 : tzS) =>
                    (r_27 = 0 →
                      Q x2_1 σ_26) ∧
                    (¬ r_27 = 0 →
                      vc_X10_endsWith x1 2 115 σ_26 (fun (r_29 : Int32) (σ_28 : tzS) =>
                        (¬ r_29 = 0 →
                          Q x2_1 σ_28) ∧
                        (r_29 = 0 →
                          Q (x2_1 - 1) σ_28)))))) ∧
              (¬ r_25 = 0 →
                vc_X10_endsWith x1 1 100 σ_24 (fun (r_31 : Int32) (σ_30 : tzS) =>
                  (r_31 = 0 →
                    (x2_1 < 4 →
                      Q x2_1 σ_30) ∧
                    (¬ x2_1 < 4 →
                      vc_X10_endsWith x1 1 115 σ_30 (fun (r_33 : Int32) (σ_32 : tzS) =>
                        (r_33 = 0 →
                          Q x2_1 σ_32) ∧
                        (¬ r_33 = 0 →
                          vc_X10_endsWith x1 2 115 σ_32 (fun (r_35 : Int32) (σ_34 : tzS) =>
                            (¬ r_35 = 0 →
                              Q x2_1 σ_34) ∧
                            (r_35 = 0 →
                              Q (x2_1 - 1) σ_34)))))) ∧
                  (¬ r_31 = 0 →
                    Q (x2_1 - 2) σ_30)))))) ∧
        (¬ r_19 = 0 →
          vc_X10_endsWith x1 2 110 σ_18 (fun (r_37 : Int32) (σ_36 : tzS) =>
            (r_37 = 0 →
              (x2_1 < 5 →
                (x2_1 < 4 →
                  Q x2_1 σ_36) ∧
                (¬ x2_1 < 4 →
                  vc_X10_endsWith x1 1 115 σ_36 (fun (r_39 : Int32) (σ_38 : tzS) =>
                    (r_39 = 0 →
                      Q x2_1 σ_38) ∧
                    (¬ r_39 = 0 →
                      vc_X10_endsWith x1 2 115 σ_38 (fun (r_41 : Int32) (σ_40 : tzS) =>
                        (¬ r_41 = 0 →
                          Q x2_1 σ_40) ∧
                        (r_41 = 0 →
                          Q (x2_1 - 1) σ_40)))))) ∧
              (¬ x2_1 < 5 →
                vc_X10_endsWith x1 2 101 σ_36 (fun (r_43 : Int32) (σ_42 : tzS) =>
                  (r_43 = 0 →
                    (x2_1 < 4 →
                      Q x2_1 σ_42) ∧
                    (¬ x2_1 < 4 →
                      vc_X10_endsWith x1 1 115 σ_42 (fun (r_45 : Int32) (σ_44 : tzS) =>
                        (r_45 = 0 →
                          Q x2_1 σ_44) ∧
                        (¬ r_45 = 0 →
                          vc_X10_endsWith x1 2 115 σ_44 (fun (r_47 : Int32) (σ_46 : tzS) =>
                            (¬ r_47 = 0 →
                              Q x2_1 σ_46) ∧
                            (r_47 = 0 →
                              Q (x2_1 - 1) σ_46)))))) ∧
                  (¬ r_43 = 0 →
                    vc_X10_endsWith x1 1 100 σ_42 (fun (r_49 : Int32) (σ_48 : tzS) =>
                      (r_49 = 0 →
                        (x2_1 < 4 →
                          Q x2_1 σ_48) ∧
                        (¬ x2_1 < 4 →
                          vc_X10_endsWith x1 1 115 σ_48 (fun (r_51 : Int32) (σ_50 : tzS) =>
                            (r_51 = 0 →
                              Q x2_1 σ_50) ∧
                            (¬ r_51 = 0 →
                              vc_X10_endsWith x1 2 115 σ_50 (fun (r_53 : Int32) (σ_52 : tzS) =>
                                (¬ r_53 = 0 →
                                  Q x2_1 σ_52) ∧
                                (r_53 = 0 →
                                  Q (x2_1 - 1) σ_52)))))) ∧
                      (¬ r_49 = 0 →
                        Q (x2_1 - 2) σ_48)))))) ∧
            (¬ r_37 = 0 →
              vc_X10_endsWith x1 1 103 σ_36 (fun (r_55 : Int32) (σ_54 : tzS) =>
                (r_55 = 0 →
                  (x2_1 < 5 →
                    (x2_1 < 4 →
                      Q x2_1 σ_54) ∧
                    (¬ x2_1 < 4 →
                      vc_X10_endsWith x1 1 115 σ_54 (fun (r_57 : Int32) (σ_56 : tzS) =>
                        (r_57 = 0 →
                          Q x2_1 σ_56) ∧
                        (¬ r_57 = 0 →
                          vc_X10_endsWith x1 2 115 σ_56 (fun (r_59 : Int32) (σ_58 : tzS) =>
                            (¬ r_59 = 0 →
                              Q x2_1 σ_58) ∧
                            (r_59 = 0 →
                              Q (x2_1 - 1) σ_58)))))) ∧
                  (¬ x2_1 < 5 →
                    vc_X10_endsWith x1 2 101 σ_54 (fun (r_61 : Int32) (σ_60 : tzS) =>
                      (r_61 = 0 →
                        (x2_1 < 4 →
                          Q x2_1 σ_60) ∧
                        (¬ x2_1 < 4 →
                          vc_X10_endsWith x1 1 115 σ_60 (fun (r_63 : Int32) (σ_62 : tzS) =>
                            (r_63 = 0 →
                              Q x2_1 σ_62) ∧
                            (¬ r_63 = 0 →
                              vc_X10_endsWith x1 2 115 σ_62 (fun (r_65 : Int32) (σ_64 : tzS) =>
                                (¬ r_65 = 0 →
                                  Q x2_1 σ_64) ∧
                                (r_65 = 0 →
                                  Q (x2_1 - 1) σ_64)))))) ∧
                      (¬ r_61 = 0 →
                        vc_X10_endsWith x1 1 100 σ_60 (fun (r_67 : Int32) (σ_66 : tzS) =>
                          (r_67 = 0 →
                            (x2_1 < 4 →
                              Q x2_1 σ_66) ∧
                            (¬ x2_1 < 4 →
                              vc_X10_endsWith x1 1 115 σ_66 (fun (r_69 : Int32) (σ_68 : tzS) =>
                                (r_69 = 0 →
                                  Q x2_1 σ_68) ∧
                                (¬ r_69 = 0 →
                                  vc_X10_endsWith x1 2 115 σ_68 (fun (r_71 : Int32) (σ_70 : tzS) =>
                                    (¬ r_71 = 0 →
                                      Q x2_1 σ_70) ∧
                                    (r_71 = 0 →
                                      Q (x2_1 - 1) σ_70)))))) ∧
                          (¬ r_67 = 0 →
                            Q (x2_1 - 2) σ_66)))))) ∧
                (¬ r_55 = 0 →
                  Q (x2_1 - 3) σ_54))))))))
set_option maxRecDepth 20000 in
set_option maxHeartbeats 4000000 in
theorem m_X10_longOf (G : tzG) (hG : tz_ok G) {x1 : Int32}  {σ : tzS} {Q : Int32 → tzS → Prop} (h : vc_X10_longOf x1 σ Q) : tz_M G yX10_longOf cX10_longOf 3 (some .int) 1 23 [.ref 133, .int x1] σ (tz_Qi G Q) := by
  unfold vc_X10_longOf at h
  refine tz_starti hG RX10 [(0, .ref _), (1, .int x1)] (by decide) rfl (Nat.le_of_ble_eq_true rfl) rfl (fun E C hret => ?_)
  refine tz_aload_n 0 0 C dX10_longOf_0 rfl rfl ?_
  refine tz_getR C dX10_longOf_1 fl_RX10_19 (by decide) rfl rfl ?_
  refine tz_iload_n 1 1 C dX10_longOf_4 rfl rfl ?_
  obtain ⟨hin, h⟩ := h
  refine tz_iald C dX10_longOf_5 (by decide) rfl hin ?_
  refine tz_istore_n 2 [(0, .ref _), (1, .int x1)] C dX10_longOf_6 rfl (Nat.le_of_ble_eq_true rfl) rfl h (fun x2_1 h => ?_)
  refine tz_iload_n 2 0 C dX10_longOf_7 rfl rfl ?_
  refine tz_bipush 6 (by decide) C dX10_longOf_8 ?_
  refine tz_icmp_lt 50 C dX10_longOf_10 (by decide) h (fun h => ?_) (fun h => ?_)
  · refine tz_iload_n 2 0 C dX10_longOf_50 rfl rfl ?_
    refine tz_iconst 5 (by decide) C dX10_longOf_51 ?_
    refine tz_icmp_lt 81 C dX10_longOf_52 (by decide) h (fun h => ?_) (fun h => ?_)
    · refine tz_iload_n 2 0 C dX10_longOf_81 rfl rfl ?_
      refine tz_iconst 4 (by decide) C dX10_longOf_82 ?_
      refine tz_icmp_lt 114 C dX10_longOf_83 (by decide) h (fun h => ?_) (fun h => ?_)
      · refine tz_iload_n 2 0 C dX10_longOf_114 rfl rfl ?_
        exact hret _ _ _ _ dX10_longOf_115 h
      · refine tz_aload_n 0 1 C dX10_longOf_86 rfl rfl ?_
        refine tz_iload_n 1 2 C dX10_longOf_87 rfl rfl ?_
        refine tz_iconst 1 (by decide) C dX10_longOf_88 ?_
        refine tz_bipush 115 (by decide) C dX10_longOf_89 ?_
        refine tz_calliv C dX10_longOf_91 lk_RX10_129 (m_X10_endsWith G hG  h) (by decide) rfl rfl rfl rfl ⟨Nat.le_of_ble_eq_true rfl, Nat.le_of_ble_eq_true rfl⟩ (Nat.le_of_ble_eq_true rfl) rfl (fun r_3 σ_2 h => ?_)
        refine tz_if_eq 114 C dX10_longOf_94 (by decide) h (fun h => ?_) (fun h => ?_)
        · refine tz_iload_n 2 0 C dX10_longOf_114 rfl rfl ?_
          exact hret _ _ _ _ dX10_longOf_115 h
        · refine tz_aload_n 0 1 C dX10_longOf_97 rfl rfl ?_
          refine tz_iload_n 1 2 C dX10_longOf_98 rfl rfl ?_
          refine tz_iconst 2 (by decide) C dX10_longOf_99 ?_
          refine tz_bipush 115 (by decide) C dX10_longOf_100 ?_
          refine tz_calliv C dX10_longOf_102 lk_RX10_129 (m_X10_endsWith G hG  h) (by decide) rfl rfl rfl rfl ⟨Nat.le_of_ble_eq_true rfl, Nat.le_of_ble_eq_true rfl⟩ (Nat.le_of_ble_eq_true rfl) rfl (fun r_5 σ_4 h => ?_)
          refine tz_if_ne 114 C dX10_longOf_105 (by decide) h (fun h => ?_) (fun h => ?_)
          · refine tz_iload_n 2 0 C dX10_longOf_114 rfl rfl ?_
            exact hret _ _ _ _ dX10_longOf_115 h
          · refine tz_iload_n 2 0 C dX10_longOf_108 rfl rfl ?_
            refine tz_iconst 1 (by decide) C dX10_longOf_109 ?_
            refine tz_isub C dX10_longOf_110 ?_
            refine tz_goto 115 C dX10_longOf_111 (by decide) ?_
            exact hret _ _ _ _ dX10_longOf_115 h
    · refine tz_aload_n 0 1 C dX10_longOf_55 rfl rfl ?_
      refine tz_iload_n 1 2 C dX10_longOf_56 rfl rfl ?_
      refine tz_iconst 2 (by decide) C dX10_longOf_57 ?_
      refine tz_bipush 101 (by decide) C dX10_longOf_58 ?_
      refine tz_calliv C dX10_longOf_60 lk_RX10_129 (m_X10_endsWith G hG  h) (by decide) rfl rfl rfl rfl ⟨Nat.le_of_ble_eq_true rfl, Nat.le_of_ble_eq_true rfl⟩ (Nat.le_of_ble_eq_true rfl) rfl (fun r_7 σ_6 h => ?_)
      refine tz_if_eq 81 C dX10_longOf_63 (by decide) h (fun h => ?_) (fun h => ?_)
      · refine tz_iload_n 2 0 C dX10_longOf_81 rfl rfl ?_
        refine tz_iconst 4 (by decide) C dX10_longOf_82 ?_
        refine tz_icmp_lt 114 C dX10_longOf_83 (by decide) h (fun h => ?_) (fun h => ?_)
        · refine tz_iload_n 2 0 C dX10_longOf_114 rfl rfl ?_
          exact hret _ _ _ _ dX10_longOf_115 h
        · refine tz_aload_n 0 1 C dX10_longOf_86 rfl rfl ?_
          refine tz_iload_n 1 2 C dX10_longOf_87 rfl rfl ?_
          refine tz_iconst 1 (by decide) C dX10_longOf_88 ?_
          refine tz_bipush 115 (by decide) C dX10_longOf_89 ?_
          refine tz_calliv C dX10_longOf_91 lk_RX10_129 (m_X10_endsWith G hG  h) (by decide) rfl rfl rfl rfl ⟨Nat.le_of_ble_eq_true rfl, Nat.le_of_ble_eq_true rfl⟩ (Nat.le_of_ble_eq_true rfl) rfl (fun r_9 σ_8 h => ?_)
          refine tz_if_eq 114 C dX10_longOf_94 (by decide) h (fun h => ?_) (fun h => ?_)
          · refine tz_iload_n 2 0 C dX10_longOf_114 rfl rfl ?_
            exact hret _ _ _ _ dX10_longOf_115 h
          · refine tz_aload_n 0 1 C dX10_longOf_97 rfl rfl ?_
            refine tz_iload_n 1 2 C dX10_longOf_98 rfl rfl ?_
            refine tz_iconst 2 (by decide) C dX10_longOf_99 ?_
            refine tz_bipush 115 (by decide) C dX10_longOf_100 ?_
            refine tz_calliv C dX10_longOf_102 lk_RX10_129 (m_X10_endsWith G hG  h) (by decide) rfl rfl rfl rfl ⟨Nat.le_of_ble_eq_true rfl, Nat.le_of_ble_eq_true rfl⟩ (Nat.le_of_ble_eq_true rfl) rfl (fun r_11 σ_10 h => ?_)
            refine tz_if_ne 114 C dX10_longOf_105 (by decide) h (fun h => ?_) (fun h => ?_)
            · refine tz_iload_n 2 0 C dX10_longOf_114 rfl rfl ?_
              exact hret _ _ _ _ dX10_longOf_115 h
            · refine tz_iload_n 2 0 C dX10_longOf_108 rfl rfl ?_
              refine tz_iconst 1 (by decide) C dX10_longOf_109 ?_
              refine tz_isub C dX10_longOf_110 ?_
              refine tz_goto 115 C dX10_longOf_111 (by decide) ?_
              exact hret _ _ _ _ dX10_longOf_115 h
      · refine tz_aload_n 0 1 C dX10_longOf_66 rfl rfl ?_
        refine tz_iload_n 1 2 C dX10_longOf_67 rfl rfl ?_
        refine tz_iconst 1 (by decide) C dX10_longOf_68 ?_
        refine tz_bipush 100 (by decide) C dX10_longOf_69 ?_
        refine tz_calliv C dX10_longOf_71 lk_RX10_129 (m_X10_endsWith G hG  h) (by decide) rfl rfl rfl rfl ⟨Nat.le_of_ble_eq_true rfl, Nat.le_of_ble_eq_true rfl⟩ (Nat.le_of_ble_eq_true rfl) rfl (fun r_13 σ_12 h => ?_)
        refine tz_if_eq 81 C dX10_longOf_74 (by decide) h (fun h => ?_) (fun h => ?_)
        · refine tz_iload_n 2 0 C dX10_longOf_81 rfl rfl ?_
          refine tz_iconst 4 (by decide) C dX10_longOf_82 ?_
          refine tz_icmp_lt 114 C dX10_longOf_83 (by decide) h (fun h => ?_) (fun h => ?_)
          · refine tz_iload_n 2 0 C dX10_longOf_114 rfl rfl ?_
            exact hret _ _ _ _ dX10_longOf_115 h
          · refine tz_aload_n 0 1 C dX10_longOf_86 rfl rfl ?_
            refine tz_iload_n 1 2 C dX10_longOf_87 rfl rfl ?_
            refine tz_iconst 1 (by decide) C dX10_longOf_88 ?_
            refine tz_bipush 115 (by decide) C dX10_longOf_89 ?_
            refine tz_calliv C dX10_longOf_91 lk_RX10_129 (m_X10_endsWith G hG  h) (by decide) rfl rfl rfl rfl ⟨Nat.le_of_ble_eq_true rfl, Nat.le_of_ble_eq_true rfl⟩ (Nat.le_of_ble_eq_true rfl) rfl (fun r_15 σ_14 h => ?_)
            refine tz_if_eq 114 C dX10_longOf_94 (by decide) h (fun h => ?_) (fun h => ?_)
            · refine tz_iload_n 2 0 C dX10_longOf_114 rfl rfl ?_
              exact hret _ _ _ _ dX10_longOf_115 h
            · refine tz_aload_n 0 1 C dX10_longOf_97 rfl rfl ?_
              refine tz_iload_n 1 2 C dX10_longOf_98 rfl rfl ?_
              refine tz_iconst 2 (by decide) C dX10_longOf_99 ?_
              refine tz_bipush 115 (by decide) C dX10_longOf_100 ?_
              refine tz_calliv C dX10_longOf_102 lk_RX10_129 (m_X10_endsWith G hG  h) (by decide) rfl rfl rfl rfl ⟨Nat.le_of_ble_eq_true rfl, Nat.le_of_ble_eq_true rfl⟩ (Nat.le_of_ble_eq_true rfl) rfl (fun r_17 σ_16 h => ?_)
              refine tz_if_ne 114 C dX10_longOf_105 (by decide) h (fun h => ?_) (fun h => ?_)
              · refine tz_iload_n 2 0 C dX10_longOf_114 rfl rfl ?_
                exact hret _ _ _ _ dX10_longOf_115 h
              · refine tz_iload_n 2 0 C dX10_longOf_108 rfl rfl ?_
                refine tz_iconst 1 (by decide) C dX10_longOf_109 ?_
                refine tz_isub C dX10_longOf_110 ?_
                refine tz_goto 115 C dX10_longOf_111 (by decide) ?_
                exact hret _ _ _ _ dX10_longOf_115 h
        · refine tz_iload_n 2 0 C dX10_longOf_77 rfl rfl ?_
          refine tz_iconst 2 (by decide) C dX10_longOf_78 ?_
          refine tz_isub C dX10_longOf_79 ?_
          exact hret _ _ _ _ dX10_longOf_80 h
  · refine tz_aload_n 0 1 C dX10_longOf_13 rfl rfl ?_
    refine tz_iload_n 1 2 C dX10_longOf_14 rfl rfl ?_
    refine tz_iconst 3 (by decide) C dX10_longOf_15 ?_
    refine tz_bipush 105 (by decide) C dX10_longOf_16 ?_
    refine tz_calliv C dX10_longOf_18 lk_RX10_129 (m_X10_endsWith G hG  h) (by decide) rfl rfl rfl rfl ⟨Nat.le_of_ble_eq_true rfl, Nat.le_of_ble_eq_true rfl⟩ (Nat.le_of_ble_eq_true rfl) rfl (fun r_19 σ_18 h => ?_)
    refine tz_if_eq 50 C dX10_longOf_21 (by decide) h (fun h => ?_) (fun h => ?_)
    · refine tz_iload_n 2 0 C dX10_longOf_50 rfl rfl ?_
      refine tz_iconst 5 (by decide) C dX10_longOf_51 ?_
      refine tz_icmp_lt 81 C dX10_longOf_52 (by decide) h (fun h => ?_) (fun h => ?_)
      · refine tz_iload_n 2 0 C dX10_longOf_81 rfl rfl ?_
        refine tz_iconst 4 (by decide) C dX10_longOf_82 ?_
        refine tz_icmp_lt 114 C dX10_longOf_83 (by decide) h (fun h => ?_) (fun h => ?_)
        · refine tz_iload_n 2 0 C dX10_longOf_114 rfl rfl ?_
          exact hret _ _ _ _ dX10_longOf_115 h
        · refine tz_aload_n 0 1 C dX10_longOf_86 rfl rfl ?_
          refine tz_iload_n 1 2 C dX10_longOf_87 rfl rfl ?_
          refine tz_iconst 1 (by decide) C dX10_longOf_88 ?_
          refine tz_bipush 115 (by decide) C dX10_longOf_89 ?_
          refine tz_calliv C dX10_longOf_91 lk_RX10_129 (m_X10_endsWith G hG  h) (by decide) rfl rfl rfl rfl ⟨Nat.le_of_ble_eq_true rfl, Nat.le_of_ble_eq_true rfl⟩ (Nat.le_of_ble_eq_true rfl) rfl (fun r_21 σ_20 h => ?_)
          refine tz_if_eq 114 C dX10_longOf_94 (by decide) h (fun h => ?_) (fun h => ?_)
          · refine tz_iload_n 2 0 C dX10_longOf_114 rfl rfl ?_
            exact hret _ _ _ _ dX10_longOf_115 h
          · refine tz_aload_n 0 1 C dX10_longOf_97 rfl rfl ?_
            refine tz_iload_n 1 2 C dX10_longOf_98 rfl rfl ?_
            refine tz_iconst 2 (by decide) C dX10_longOf_99 ?_
            refine tz_bipush 115 (by decide) C dX10_longOf_100 ?_
            refine tz_calliv C dX10_longOf_102 lk_RX10_129 (m_X10_endsWith G hG  h) (by decide) rfl rfl rfl rfl ⟨Nat.le_of_ble_eq_true rfl, Nat.le_of_ble_eq_true rfl⟩ (Nat.le_of_ble_eq_true rfl) rfl (fun r_23 σ_22 h => ?_)
            refine tz_if_ne 114 C dX10_longOf_105 (by decide) h (fun h => ?_) (fun h => ?_)
            · refine tz_iload_n 2 0 C dX10_longOf_114 rfl rfl ?_
              exact hret _ _ _ _ dX10_longOf_115 h
            · refine tz_iload_n 2 0 C dX10_longOf_108 rfl rfl ?_
              refine tz_iconst 1 (by decide) C dX10_longOf_109 ?_
              refine tz_isub C dX10_longOf_110 ?_
              refine tz_goto 115 C dX10_longOf_111 (by decide) ?_
              exact hret _ _ _ _ dX10_longOf_115 h
      · refine tz_aload_n 0 1 C dX10_longOf_55 rfl rfl ?_
        refine tz_iload_n 1 2 C dX10_longOf_56 rfl rfl ?_
        refine tz_iconst 2 (by decide) C dX10_longOf_57 ?_
        refine tz_bipush 101 (by decide) C dX10_longOf_58 ?_
        refine tz_calliv C dX10_longOf_60 lk_RX10_129 (m_X10_endsWith G hG  h) (by decide) rfl rfl rfl rfl ⟨Nat.le_of_ble_eq_true rfl, Nat.le_of_ble_eq_true rfl⟩ (Nat.le_of_ble_eq_true rfl) rfl (fun r_25 σ_24 h => ?_)
        refine tz_if_eq 81 C dX10_longOf_63 (by decide) h (fun h => ?_) (fun h => ?_)
        · refine tz_iload_n 2 0 C dX10_longOf_81 rfl rfl ?_
          refine tz_iconst 4 (by decide) C dX10_longOf_82 ?_
          refine tz_icmp_lt 114 C dX10_longOf_83 (by decide) h (fun h => ?_) (fun h => ?_)
          · refine tz_iload_n 2 0 C dX10_longOf_114 rfl rfl ?_
            exact hret _ _ _ _ dX10_longOf_115 h
          · refine tz_aload_n 0 1 C dX10_longOf_86 rfl rfl ?_
            refine tz_iload_n 1 2 C dX10_longOf_87 rfl rfl ?_
            refine tz_iconst 1 (by decide) C dX10_longOf_88 ?_
            refine tz_bipush 115 (by decide) C dX10_longOf_89 ?_
            refine tz_calliv C dX10_longOf_91 lk_RX10_129 (m_X10_endsWith G hG  h) (by decide) rfl rfl rfl rfl ⟨Nat.le_of_ble_eq_true rfl, Nat.le_of_ble_eq_true rfl⟩ (Nat.le_of_ble_eq_true rfl) rfl (fun r_27 σ_26 h => ?_)
            refine tz_if_eq 114 C dX10_longOf_94 (by decide) h (fun h => ?_) (fun h => ?_)
            · refine tz_iload_n 2 0 C dX10_longOf_114 rfl rfl ?_
              exact hret _ _ _ _ dX10_longOf_115 h
            · refine tz_aload_n 0 1 C dX10_longOf_97 rfl rfl ?_
              refine tz_iload_n 1 2 C dX10_longOf_98 rfl rfl ?_
              refine tz_iconst 2 (by decide) C dX10_longOf_99 ?_
              refine tz_bipush 115 (by decide) C dX10_longOf_100 ?_
              refine tz_calliv C dX10_longOf_102 lk_RX10_129 (m_X10_endsWith G hG  h) (by decide) rfl rfl rfl rfl ⟨Nat.le_of_ble_eq_true rfl, Nat.le_of_ble_eq_true rfl⟩ (Nat.le_of_ble_eq_true rfl) rfl (fun r_29 σ_28 h => ?_)
              refine tz_if_ne 114 C dX10_longOf_105 (by decide) h (fun h => ?_) (fun h => ?_)
              · refine tz_iload_n 2 0 C dX10_longOf_114 rfl rfl ?_
                exact hret _ _ _ _ dX10_longOf_115 h
              · refine tz_iload_n 2 0 C dX10_longOf_108 rfl rfl ?_
                refine tz_iconst 1 (by decide) C dX10_longOf_109 ?_
                refine tz_isub C dX10_longOf_110 ?_
                refine tz_goto 115 C dX10_longOf_111 (by decide) ?_
                exact hret _ _ _ _ dX10_longOf_115 h
        · refine tz_aload_n 0 1 C dX10_longOf_66 rfl rfl ?_
          refine tz_iload_n 1 2 C dX10_longOf_67 rfl rfl ?_
          refine tz_iconst 1 (by decide) C dX10_longOf_68 ?_
          refine tz_bipush 100 (by decide) C dX10_longOf_69 ?_
          refine tz_calliv C dX10_longOf_71 lk_RX10_129 (m_X10_endsWith G hG  h) (by decide) rfl rfl rfl rfl ⟨Nat.le_of_ble_eq_true rfl, Nat.le_of_ble_eq_true rfl⟩ (Nat.le_of_ble_eq_true rfl) rfl (fun r_31 σ_30 h => ?_)
          refine tz_if_eq 81 C dX10_longOf_74 (by decide) h (fun h => ?_) (fun h => ?_)
          · refine tz_iload_n 2 0 C dX10_longOf_81 rfl rfl ?_
            refine tz_iconst 4 (by decide) C dX10_longOf_82 ?_
            refine tz_icmp_lt 114 C dX10_longOf_83 (by decide) h (fun h => ?_) (fun h => ?_)
            · refine tz_iload_n 2 0 C dX10_longOf_114 rfl rfl ?_
              exact hret _ _ _ _ dX10_longOf_115 h
            · refine tz_aload_n 0 1 C dX10_longOf_86 rfl rfl ?_
              refine tz_iload_n 1 2 C dX10_longOf_87 rfl rfl ?_
              refine tz_iconst 1 (by decide) C dX10_longOf_88 ?_
              refine tz_bipush 115 (by decide) C dX10_longOf_89 ?_
              refine tz_calliv C dX10_longOf_91 lk_RX10_129 (m_X10_endsWith G hG  h) (by decide) rfl rfl rfl rfl ⟨Nat.le_of_ble_eq_true rfl, Nat.le_of_ble_eq_true rfl⟩ (Nat.le_of_ble_eq_true rfl) rfl (fun r_33 σ_32 h => ?_)
              refine tz_if_eq 114 C dX10_longOf_94 (by decide) h (fun h => ?_) (fun h => ?_)
              · refine tz_iload_n 2 0 C dX10_longOf_114 rfl rfl ?_
                exact hret _ _ _ _ dX10_longOf_115 h
              · refine tz_aload_n 0 1 C dX10_longOf_97 rfl rfl ?_
                refine tz_iload_n 1 2 C dX10_longOf_98 rfl rfl ?_
                refine tz_iconst 2 (by decide) C dX10_longOf_99 ?_
                refine tz_bipush 115 (by decide) C dX10_longOf_100 ?_
                refine tz_calliv C dX10_longOf_102 lk_RX10_129 (m_X10_endsWith G hG  h) (by decide) rfl rfl rfl rfl ⟨Nat.le_of_ble_eq_true rfl, Nat.le_of_ble_eq_true rfl⟩ (Nat.le_of_ble_eq_true rfl) rfl (fun r_35 σ_34 h => ?_)
                refine tz_if_ne 114 C dX10_longOf_105 (by decide) h (fun h => ?_) (fun h => ?_)
                · refine tz_iload_n 2 0 C dX10_longOf_114 rfl rfl ?_
                  exact hret _ _ _ _ dX10_longOf_115 h
                · refine tz_iload_n 2 0 C dX10_longOf_108 rfl rfl ?_
                  refine tz_iconst 1 (by decide) C dX10_longOf_109 ?_
                  refine tz_isub C dX10_longOf_110 ?_
                  refine tz_goto 115 C dX10_longOf_111 (by decide) ?_
                  exact hret _ _ _ _ dX10_longOf_115 h
          · refine tz_iload_n 2 0 C dX10_longOf_77 rfl rfl ?_
            refine tz_iconst 2 (by decide) C dX10_longOf_78 ?_
            refine tz_isub C dX10_longOf_79 ?_
            exact hret _ _ _ _ dX10_longOf_80 h
    · refine tz_aload_n 0 1 C dX10_longOf_24 rfl rfl ?_
      refine tz_iload_n 1 2 C dX10_longOf_25 rfl rfl ?_
      refine tz_iconst 2 (by decide) C dX10_longOf_26 ?_
      refine tz_bipush 110 (by decide) C dX10_longOf_27 ?_
      refine tz_calliv C dX10_longOf_29 lk_RX10_129 (m_X10_endsWith G hG  h) (by decide) rfl rfl rfl rfl ⟨Nat.le_of_ble_eq_true rfl, Nat.le_of_ble_eq_true rfl⟩ (Nat.le_of_ble_eq_true rfl) rfl (fun r_37 σ_36 h => ?_)
      refine tz_if_eq 50 C dX10_longOf_32 (by decide) h (fun h => ?_) (fun h => ?_)
      · refine tz_iload_n 2 0 C dX10_longOf_50 rfl rfl ?_
        refine tz_iconst 5 (by decide) C dX10_longOf_51 ?_
        refine tz_icmp_lt 81 C dX10_longOf_52 (by decide) h (fun h => ?_) (fun h => ?_)
        · refine tz_iload_n 2 0 C dX10_longOf_81 rfl rfl ?_
          refine tz_iconst 4 (by decide) C dX10_longOf_82 ?_
          refine tz_icmp_lt 114 C dX10_longOf_83 (by decide) h (fun h => ?_) (fun h => ?_)
          · refine tz_iload_n 2 0 C dX10_longOf_114 rfl rfl ?_
            exact hret _ _ _ _ dX10_longOf_115 h
          · refine tz_aload_n 0 1 C dX10_longOf_86 rfl rfl ?_
            refine tz_iload_n 1 2 C dX10_longOf_87 rfl rfl ?_
            refine tz_iconst 1 (by decide) C dX10_longOf_88 ?_
            refine tz_bipush 115 (by decide) C dX10_longOf_89 ?_
            refine tz_calliv C dX10_longOf_91 lk_RX10_129 (m_X10_endsWith G hG  h) (by decide) rfl rfl rfl rfl ⟨Nat.le_of_ble_eq_true rfl, Nat.le_of_ble_eq_true rfl⟩ (Nat.le_of_ble_eq_true rfl) rfl (fun r_39 σ_38 h => ?_)
            refine tz_if_eq 114 C dX10_longOf_94 (by decide) h (fun h => ?_) (fun h => ?_)
            · refine tz_iload_n 2 0 C dX10_longOf_114 rfl rfl ?_
              exact hret _ _ _ _ dX10_longOf_115 h
            · refine tz_aload_n 0 1 C dX10_longOf_97 rfl rfl ?_
              refine tz_iload_n 1 2 C dX10_longOf_98 rfl rfl ?_
              refine tz_iconst 2 (by decide) C dX10_longOf_99 ?_
              refine tz_bipush 115 (by decide) C dX10_longOf_100 ?_
              refine tz_calliv C dX10_longOf_102 lk_RX10_129 (m_X10_endsWith G hG  h) (by decide) rfl rfl rfl rfl ⟨Nat.le_of_ble_eq_true rfl, Nat.le_of_ble_eq_true rfl⟩ (Nat.le_of_ble_eq_true rfl) rfl (fun r_41 σ_40 h => ?_)
              refine tz_if_ne 114 C dX10_longOf_105 (by decide) h (fun h => ?_) (fun h => ?_)
              · refine tz_iload_n 2 0 C dX10_longOf_114 rfl rfl ?_
                exact hret _ _ _ _ dX10_longOf_115 h
              · refine tz_iload_n 2 0 C dX10_longOf_108 rfl rfl ?_
                refine tz_iconst 1 (by decide) C dX10_longOf_109 ?_
                refine tz_isub C dX10_longOf_110 ?_
                refine tz_goto 115 C dX10_longOf_111 (by decide) ?_
                exact hret _ _ _ _ dX10_longOf_115 h
        · refine tz_aload_n 0 1 C dX10_longOf_55 rfl rfl ?_
          refine tz_iload_n 1 2 C dX10_longOf_56 rfl rfl ?_
          refine tz_iconst 2 (by decide) C dX10_longOf_57 ?_
          refine tz_bipush 101 (by decide) C dX10_longOf_58 ?_
          refine tz_calliv C dX10_longOf_60 lk_RX10_129 (m_X10_endsWith G hG  h) (by decide) rfl rfl rfl rfl ⟨Nat.le_of_ble_eq_true rfl, Nat.le_of_ble_eq_true rfl⟩ (Nat.le_of_ble_eq_true rfl) rfl (fun r_43 σ_42 h => ?_)
          refine tz_if_eq 81 C dX10_longOf_63 (by decide) h (fun h => ?_) (fun h => ?_)
          · refine tz_iload_n 2 0 C dX10_longOf_81 rfl rfl ?_
            refine tz_iconst 4 (by decide) C dX10_longOf_82 ?_
            refine tz_icmp_lt 114 C dX10_longOf_83 (by decide) h (fun h => ?_) (fun h => ?_)
            · refine tz_iload_n 2 0 C dX10_longOf_114 rfl rfl ?_
              exact hret _ _ _ _ dX10_longOf_115 h
            · refine tz_aload_n 0 1 C dX10_longOf_86 rfl rfl ?_
              refine tz_iload_n 1 2 C dX10_longOf_87 rfl rfl ?_
              refine tz_iconst 1 (by decide) C dX10_longOf_88 ?_
              refine tz_bipush 115 (by decide) C dX10_longOf_89 ?_
              refine tz_calliv C dX10_longOf_91 lk_RX10_129 (m_X10_endsWith G hG  h) (by decide) rfl rfl rfl rfl ⟨Nat.le_of_ble_eq_true rfl, Nat.le_of_ble_eq_true rfl⟩ (Nat.le_of_ble_eq_true rfl) rfl (fun r_45 σ_44 h => ?_)
              refine tz_if_eq 114 C dX10_longOf_94 (by decide) h (fun h => ?_) (fun h => ?_)
              · refine tz_iload_n 2 0 C dX10_longOf_114 rfl rfl ?_
                exact hret _ _ _ _ dX10_longOf_115 h
              · refine tz_aload_n 0 1 C dX10_longOf_97 rfl rfl ?_
                refine tz_iload_n 1 2 C dX10_longOf_98 rfl rfl ?_
                refine tz_iconst 2 (by decide) C dX10_longOf_99 ?_
                refine tz_bipush 115 (by decide) C dX10_longOf_100 ?_
                refine tz_calliv C dX10_longOf_102 lk_RX10_129 (m_X10_endsWith G hG  h) (by decide) rfl rfl rfl rfl ⟨Nat.le_of_ble_eq_true rfl, Nat.le_of_ble_eq_true rfl⟩ (Nat.le_of_ble_eq_true rfl) rfl (fun r_47 σ_46 h => ?_)
                refine tz_if_ne 114 C dX10_longOf_105 (by decide) h (fun h => ?_) (fun h => ?_)
                · refine tz_iload_n 2 0 C dX10_longOf_114 rfl rfl ?_
                  exact hret _ _ _ _ dX10_longOf_115 h
                · refine tz_iload_n 2 0 C dX10_longOf_108 rfl rfl ?_
                  refine tz_iconst 1 (by decide) C dX10_longOf_109 ?_
                  refine tz_isub C dX10_longOf_110 ?_
                  refine tz_goto 115 C dX10_longOf_111 (by decide) ?_
                  exact hret _ _ _ _ dX10_longOf_115 h
          · refine tz_aload_n 0 1 C dX10_longOf_66 rfl rfl ?_
            refine tz_iload_n 1 2 C dX10_longOf_67 rfl rfl ?_
            refine tz_iconst 1 (by decide) C dX10_longOf_68 ?_
            refine tz_bipush 100 (by decide) C dX10_longOf_69 ?_
            refine tz_calliv C dX10_longOf_71 lk_RX10_129 (m_X10_endsWith G hG  h) (by decide) rfl rfl rfl rfl ⟨Nat.le_of_ble_eq_true rfl, Nat.le_of_ble_eq_true rfl⟩ (Nat.le_of_ble_eq_true rfl) rfl (fun r_49 σ_48 h => ?_)
            refine tz_if_eq 81 C dX10_longOf_74 (by decide) h (fun h => ?_) (fun h => ?_)
            · refine tz_iload_n 2 0 C dX10_longOf_81 rfl rfl ?_
              refine tz_iconst 4 (by decide) C dX10_longOf_82 ?_
              refine tz_icmp_lt 114 C dX10_longOf_83 (by decide) h (fun h => ?_) (fun h => ?_)
              · refine tz_iload_n 2 0 C dX10_longOf_114 rfl rfl ?_
                exact hret _ _ _ _ dX10_longOf_115 h
              · refine tz_aload_n 0 1 C dX10_longOf_86 rfl rfl ?_
                refine tz_iload_n 1 2 C dX10_longOf_87 rfl rfl ?_
                refine tz_iconst 1 (by decide) C dX10_longOf_88 ?_
                refine tz_bipush 115 (by decide) C dX10_longOf_89 ?_
                refine tz_calliv C dX10_longOf_91 lk_RX10_129 (m_X10_endsWith G hG  h) (by decide) rfl rfl rfl rfl ⟨Nat.le_of_ble_eq_true rfl, Nat.le_of_ble_eq_true rfl⟩ (Nat.le_of_ble_eq_true rfl) rfl (fun r_51 σ_50 h => ?_)
                refine tz_if_eq 114 C dX10_longOf_94 (by decide) h (fun h => ?_) (fun h => ?_)
                · refine tz_iload_n 2 0 C dX10_longOf_114 rfl rfl ?_
                  exact hret _ _ _ _ dX10_longOf_115 h
                · refine tz_aload_n 0 1 C dX10_longOf_97 rfl rfl ?_
                  refine tz_iload_n 1 2 C dX10_longOf_98 rfl rfl ?_
                  refine tz_iconst 2 (by decide) C dX10_longOf_99 ?_
                  refine tz_bipush 115 (by decide) C dX10_longOf_100 ?_
                  refine tz_calliv C dX10_longOf_102 lk_RX10_129 (m_X10_endsWith G hG  h) (by decide) rfl rfl rfl rfl ⟨Nat.le_of_ble_eq_true rfl, Nat.le_of_ble_eq_true rfl⟩ (Nat.le_of_ble_eq_true rfl) rfl (fun r_53 σ_52 h => ?_)
                  refine tz_if_ne 114 C dX10_longOf_105 (by decide) h (fun h => ?_) (fun h => ?_)
                  · refine tz_iload_n 2 0 C dX10_longOf_114 rfl rfl ?_
                    exact hret _ _ _ _ dX10_longOf_115 h
                  · refine tz_iload_n 2 0 C dX10_longOf_108 rfl rfl ?_
                    refine tz_iconst 1 (by decide) C dX10_longOf_109 ?_
                    refine tz_isub C dX10_longOf_110 ?_
                    refine tz_goto 115 C dX10_longOf_111 (by decide) ?_
                    exact hret _ _ _ _ dX10_longOf_115 h
            · refine tz_iload_n 2 0 C dX10_longOf_77 rfl rfl ?_
              refine tz_iconst 2 (by decide) C dX10_longOf_78 ?_
              refine tz_isub C dX10_longOf_79 ?_
              exact hret _ _ _ _ dX10_longOf_80 h
      · refine tz_aload_n 0 1 C dX10_longOf_35 rfl rfl ?_
        refine tz_iload_n 1 2 C dX10_longOf_36 rfl rfl ?_
        refine tz_iconst 1 (by decide) C dX10_longOf_37 ?_
        refine tz_bipush 103 (by decide) C dX10_longOf_38 ?_
        refine tz_calliv C dX10_longOf_40 lk_RX10_129 (m_X10_endsWith G hG  h) (by decide) rfl rfl rfl rfl ⟨Nat.le_of_ble_eq_true rfl, Nat.le_of_ble_eq_true rfl⟩ (Nat.le_of_ble_eq_true rfl) rfl (fun r_55 σ_54 h => ?_)
        refine tz_if_eq 50 C dX10_longOf_43 (by decide) h (fun h => ?_) (fun h => ?_)
        · refine tz_iload_n 2 0 C dX10_longOf_50 rfl rfl ?_
          refine tz_iconst 5 (by decide) C dX10_longOf_51 ?_
          refine tz_icmp_lt 81 C dX10_longOf_52 (by decide) h (fun h => ?_) (fun h => ?_)
          · refine tz_iload_n 2 0 C dX10_longOf_81 rfl rfl ?_
            refine tz_iconst 4 (by decide) C dX10_longOf_82 ?_
            refine tz_icmp_lt 114 C dX10_longOf_83 (by decide) h (fun h => ?_) (fun h => ?_)
            · refine tz_iload_n 2 0 C dX10_longOf_114 rfl rfl ?_
              exact hret _ _ _ _ dX10_longOf_115 h
            · refine tz_aload_n 0 1 C dX10_longOf_86 rfl rfl ?_
              refine tz_iload_n 1 2 C dX10_longOf_87 rfl rfl ?_
              refine tz_iconst 1 (by decide) C dX10_longOf_88 ?_
              refine tz_bipush 115 (by decide) C dX10_longOf_89 ?_
              refine tz_calliv C dX10_longOf_91 lk_RX10_129 (m_X10_endsWith G hG  h) (by decide) rfl rfl rfl rfl ⟨Nat.le_of_ble_eq_true rfl, Nat.le_of_ble_eq_true rfl⟩ (Nat.le_of_ble_eq_true rfl) rfl (fun r_57 σ_56 h => ?_)
              refine tz_if_eq 114 C dX10_longOf_94 (by decide) h (fun h => ?_) (fun h => ?_)
              · refine tz_iload_n 2 0 C dX10_longOf_114 rfl rfl ?_
                exact hret _ _ _ _ dX10_longOf_115 h
              · refine tz_aload_n 0 1 C dX10_longOf_97 rfl rfl ?_
                refine tz_iload_n 1 2 C dX10_longOf_98 rfl rfl ?_
                refine tz_iconst 2 (by decide) C dX10_longOf_99 ?_
                refine tz_bipush 115 (by decide) C dX10_longOf_100 ?_
                refine tz_calliv C dX10_longOf_102 lk_RX10_129 (m_X10_endsWith G hG  h) (by decide) rfl rfl rfl rfl ⟨Nat.le_of_ble_eq_true rfl, Nat.le_of_ble_eq_true rfl⟩ (Nat.le_of_ble_eq_true rfl) rfl (fun r_59 σ_58 h => ?_)
                refine tz_if_ne 114 C dX10_longOf_105 (by decide) h (fun h => ?_) (fun h => ?_)
                · refine tz_iload_n 2 0 C dX10_longOf_114 rfl rfl ?_
                  exact hret _ _ _ _ dX10_longOf_115 h
                · refine tz_iload_n 2 0 C dX10_longOf_108 rfl rfl ?_
                  refine tz_iconst 1 (by decide) C dX10_longOf_109 ?_
                  refine tz_isub C dX10_longOf_110 ?_
                  refine tz_goto 115 C dX10_longOf_111 (by decide) ?_
                  exact hret _ _ _ _ dX10_longOf_115 h
          · refine tz_aload_n 0 1 C dX10_longOf_55 rfl rfl ?_
            refine tz_iload_n 1 2 C dX10_longOf_56 rfl rfl ?_
            refine tz_iconst 2 (by decide) C dX10_longOf_57 ?_
            refine tz_bipush 101 (by decide) C dX10_longOf_58 ?_
            refine tz_calliv C dX10_longOf_60 lk_RX10_129 (m_X10_endsWith G hG  h) (by decide) rfl rfl rfl rfl ⟨Nat.le_of_ble_eq_true rfl, Nat.le_of_ble_eq_true rfl⟩ (Nat.le_of_ble_eq_true rfl) rfl (fun r_61 σ_60 h => ?_)
            refine tz_if_eq 81 C dX10_longOf_63 (by decide) h (fun h => ?_) (fun h => ?_)
            · refine tz_iload_n 2 0 C dX10_longOf_81 rfl rfl ?_
              refine tz_iconst 4 (by decide) C dX10_longOf_82 ?_
              refine tz_icmp_lt 114 C dX10_longOf_83 (by decide) h (fun h => ?_) (fun h => ?_)
              · refine tz_iload_n 2 0 C dX10_longOf_114 rfl rfl ?_
                exact hret _ _ _ _ dX10_longOf_115 h
              · refine tz_aload_n 0 1 C dX10_longOf_86 rfl rfl ?_
                refine tz_iload_n 1 2 C dX10_longOf_87 rfl rfl ?_
                refine tz_iconst 1 (by decide) C dX10_longOf_88 ?_
                refine tz_bipush 115 (by decide) C dX10_longOf_89 ?_
                refine tz_calliv C dX10_longOf_91 lk_RX10_129 (m_X10_endsWith G hG  h) (by decide) rfl rfl rfl rfl ⟨Nat.le_of_ble_eq_true rfl, Nat.le_of_ble_eq_true rfl⟩ (Nat.le_of_ble_eq_true rfl) rfl (fun r_63 σ_62 h => ?_)
                refine tz_if_eq 114 C dX10_longOf_94 (by decide) h (fun h => ?_) (fun h => ?_)
                · refine tz_iload_n 2 0 C dX10_longOf_114 rfl rfl ?_
                  exact hret _ _ _ _ dX10_longOf_115 h
                · refine tz_aload_n 0 1 C dX10_longOf_97 rfl rfl ?_
                  refine tz_iload_n 1 2 C dX10_longOf_98 rfl rfl ?_
                  refine tz_iconst 2 (by decide) C dX10_longOf_99 ?_
                  refine tz_bipush 115 (by decide) C dX10_longOf_100 ?_
                  refine tz_calliv C dX10_longOf_102 lk_RX10_129 (m_X10_endsWith G hG  h) (by decide) rfl rfl rfl rfl ⟨Nat.le_of_ble_eq_true rfl, Nat.le_of_ble_eq_true rfl⟩ (Nat.le_of_ble_eq_true rfl) rfl (fun r_65 σ_64 h => ?_)
                  refine tz_if_ne 114 C dX10_longOf_105 (by decide) h (fun h => ?_) (fun h => ?_)
                  · refine tz_iload_n 2 0 C dX10_longOf_114 rfl rfl ?_
                    exact hret _ _ _ _ dX10_longOf_115 h
                  · refine tz_iload_n 2 0 C dX10_longOf_108 rfl rfl ?_
                    refine tz_iconst 1 (by decide) C dX10_longOf_109 ?_
                    refine tz_isub C dX10_longOf_110 ?_
                    refine tz_goto 115 C dX10_longOf_111 (by decide) ?_
                    exact hret _ _ _ _ dX10_longOf_115 h
            · refine tz_aload_n 0 1 C dX10_longOf_66 rfl rfl ?_
              refine tz_iload_n 1 2 C dX10_longOf_67 rfl rfl ?_
              refine tz_iconst 1 (by decide) C dX10_longOf_68 ?_
              refine tz_bipush 100 (by decide) C dX10_longOf_69 ?_
              refine tz_calliv C dX10_longOf_71 lk_RX10_129 (m_X10_endsWith G hG  h) (by decide) rfl rfl rfl rfl ⟨Nat.le_of_ble_eq_true rfl, Nat.le_of_ble_eq_true rfl⟩ (Nat.le_of_ble_eq_true rfl) rfl (fun r_67 σ_66 h => ?_)
              refine tz_if_eq 81 C dX10_longOf_74 (by decide) h (fun h => ?_) (fun h => ?_)
              · refine tz_iload_n 2 0 C dX10_longOf_81 rfl rfl ?_
                refine tz_iconst 4 (by decide) C dX10_longOf_82 ?_
                refine tz_icmp_lt 114 C dX10_longOf_83 (by decide) h (fun h => ?_) (fun h => ?_)
                · refine tz_iload_n 2 0 C dX10_longOf_114 rfl rfl ?_
                  exact hret _ _ _ _ dX10_longOf_115 h
                · refine tz_aload_n 0 1 C dX10_longOf_86 rfl rfl ?_
                  refine tz_iload_n 1 2 C dX10_longOf_87 rfl rfl ?_
                  refine tz_iconst 1 (by decide) C dX10_longOf_88 ?_
                  refine tz_bipush 115 (by decide) C dX10_longOf_89 ?_
                  refine tz_calliv C dX10_longOf_91 lk_RX10_129 (m_X10_endsWith G hG  h) (by decide) rfl rfl rfl rfl ⟨Nat.le_of_ble_eq_true rfl, Nat.le_of_ble_eq_true rfl⟩ (Nat.le_of_ble_eq_true rfl) rfl (fun r_69 σ_68 h => ?_)
                  refine tz_if_eq 114 C dX10_longOf_94 (by decide) h (fun h => ?_) (fun h => ?_)
                  · refine tz_iload_n 2 0 C dX10_longOf_114 rfl rfl ?_
                    exact hret _ _ _ _ dX10_longOf_115 h
                  · refine tz_aload_n 0 1 C dX10_longOf_97 rfl rfl ?_
                    refine tz_iload_n 1 2 C dX10_longOf_98 rfl rfl ?_
                    refine tz_iconst 2 (by decide) C dX10_longOf_99 ?_
                    refine tz_bipush 115 (by decide) C dX10_longOf_100 ?_
                    refine tz_calliv C dX10_longOf_102 lk_RX10_129 (m_X10_endsWith G hG  h) (by decide) rfl rfl rfl rfl ⟨Nat.le_of_ble_eq_true rfl, Nat.le_of_ble_eq_true rfl⟩ (Nat.le_of_ble_eq_true rfl) rfl (fun r_71 σ_70 h => ?_)
                    refine tz_if_ne 114 C dX10_longOf_105 (by decide) h (fun h => ?_) (fun h => ?_)
                    · refine tz_iload_n 2 0 C dX10_longOf_114 rfl rfl ?_
                      exact hret _ _ _ _ dX10_longOf_115 h
                    · refine tz_iload_n 2 0 C dX10_longOf_108 rfl rfl ?_
                      refine tz_iconst 1 (by decide) C dX10_longOf_109 ?_
                      refine tz_isub C dX10_longOf_110 ?_
                      refine tz_goto 115 C dX10_longOf_111 (by decide) ?_
                      exact hret _ _ _ _ dX10_longOf_115 h
              · refine tz_iload_n 2 0 C dX10_longOf_77 rfl rfl ?_
                refine tz_iconst 2 (by decide) C dX10_longOf_78 ?_
                refine tz_isub C dX10_longOf_79 ?_
                exact hret _ _ _ _ dX10_longOf_80 h
        · refine tz_iload_n 2 0 C dX10_longOf_46 rfl rfl ?_
          refine tz_iconst 3 (by decide) C dX10_longOf_47 ?_
          refine tz_isub C dX10_longOf_48 ?_
          exact hret _ _ _ _ dX10_longOf_49 h

def vc_X10_isLike (x1 : Int32) (x2 : Int32) (x3 : Int32) (σ : tzS) (Q : Int32 → tzS → Prop) : Prop :=
  vp_in x3 110 ∧ (
    (¬ (σ.1 141 x3.toNatClampNeg) = x2 →
      tz_loop2 (fun (x4_3 : Int32) (x5_4 : Int32) (σ_2 : tzS) (ag_1 : Int32 → Int32 → tzS → Prop) =>
        (x2 ≤ x5_4 →
          tz_bool x4_3 ∧ Q x4_3 σ_2) ∧
        (¬ x2 ≤ x5_4 →
          (x4_3 = 0 →
            tz_bool x4_3 ∧ Q x4_3 σ_2) ∧
          (¬ x4_3 = 0 →
            vp_in x1 110 ∧ (
              vp_in ((σ_2.1 136 x1.toNatClampNeg) + x5_4) 200 ∧ (
                vp_in x3 110 ∧ (
                  vp_in ((σ_2.1 140 x3.toNatClampNeg) + x5_4) 200 ∧ (
                    (¬ (σ_2.1 134 ((σ_2.1 136 x1.toNatClampNeg) + x5_4).toNatClampNeg) = (σ_2.1 134 ((σ_2.1 140 x3.toNatClampNeg) + x5_4).toNatClampNeg) →
                      ∀ x5_5 : Int32, x5_5 = x5_4 + 1 →
                      ag_1 0 x5_5 σ_2) ∧
                    ((σ_2.1 134 ((σ_2.1 136 x1.toNatClampNeg) + x5_4).toNatClampNeg) = (σ_2.1 134 ((σ_2.1 140 x3.toNatClampNeg) + x5_4).toNatClampNeg) →
                      ∀ x5_6 : Int32, x5_6 = x5_4 + 1 →
                      ag_1 1 x5_6 σ_2)))))))) (0 : Int32) (0 : Int32) σ) ∧
    ((σ.1 141 x3.toNatClampNeg) = x2 →
      tz_loop2 (fun (x4_9 : Int32) (x5_10 : Int32) (σ_8 : tzS) (ag_7 : Int32 → Int32 → tzS → Prop) =>
        (x2 ≤ x5_10 →
          tz_bool x4_9 ∧ Q x4_9 σ_8) ∧
        (¬ x2 ≤ x5_10 →
          (x4_9 = 0 →
            tz_bool x4_9 ∧ Q x4_9 σ_8) ∧
          (¬ x4_9 = 0 →
            vp_in x1 110 ∧ (
              vp_in ((σ_8.1 136 x1.toNatClampNeg) + x5_10) 200 ∧ (
                vp_in x3 110 ∧ (
                  vp_in ((σ_8.1 140 x3.toNatClampNeg) + x5_10) 200 ∧ (
                    (¬ (σ_8.1 134 ((σ_8.1 136 x1.toNatClampNeg) + x5_10).toNatClampNeg) = (σ_8.1 134 ((σ_8.1 140 x3.toNatClampNeg) + x5_10).toNatClampNeg) →
                      ∀ x5_11 : Int32, x5_11 = x5_10 + 1 →
                      ag_7 0 x5_11 σ_8) ∧
                    ((σ_8.1 134 ((σ_8.1 136 x1.toNatClampNeg) + x5_10).toNatClampNeg) = (σ_8.1 134 ((σ_8.1 140 x3.toNatClampNeg) + x5_10).toNatClampNeg) →
                      ∀ x5_12 : Int32, x5_12 = x5_10 + 1 →
                      ag_7 1 x5_12 σ_8)))))))) (1 : Int32) (0 : Int32) σ))
set_option maxRecDepth 20000 in
set_option maxHeartbeats 4000000 in
theorem m_X10_isLike (G : tzG) (hG : tz_ok G) {x1 : Int32} {x2 : Int32} {x3 : Int32}  {σ : tzS} {Q : Int32 → tzS → Prop} (h : vc_X10_isLike x1 x2 x3 σ Q) : tz_M G yX10_isLike cX10_isLike 6 (some .boolean) 0 0 [.ref 133, .int x1, .int x2, .int x3] σ (tz_Qi G Q) := by
  unfold vc_X10_isLike at h
  refine tz_startz hG RX10 [(0, .ref _), (1, .int x1), (2, .int x2), (3, .int x3)] (by decide) rfl (Nat.le_of_ble_eq_true rfl) rfl (fun E C hret => ?_)
  refine tz_aload_n 0 0 C dX10_isLike_0 rfl rfl ?_
  refine tz_getR C dX10_isLike_1 fl_RX10_31 (by decide) rfl rfl ?_
  refine tz_iload_n 3 3 C dX10_isLike_4 rfl rfl ?_
  obtain ⟨hin, h⟩ := h
  refine tz_iald C dX10_isLike_5 (by decide) rfl hin ?_
  refine tz_iload_n 2 2 C dX10_isLike_6 rfl rfl ?_
  refine tz_icmp_ne 14 C dX10_isLike_7 (by decide) h (fun h => ?_) (fun h => ?_)
  · refine tz_iconst 0 (by decide) C dX10_isLike_14 ?_
    refine tz_istore_k [(0, .ref _), (1, .int x1), (2, .int x2), (3, .int x3)] C dX10_isLike_15 (Nat.le_of_ble_eq_true rfl) rfl ?_
    refine tz_iconst 0 (by decide) C dX10_isLike_17 ?_
    refine tz_istore_k [(4, .int 0), (0, .ref _), (1, .int x1), (2, .int x2), (3, .int x3)] C dX10_isLike_18 (Nat.le_of_ble_eq_true rfl) rfl ?_
    refine tz_sub (L := [(0, .ref _), (1, .int x1), (2, .int x2), (3, .int x3), (4, .int 0), (5, .int 0)]) ?_ [2, 3, 4, 5, 1, 0] rfl
    refine tz_loop2_w (V := fun (x4_3 : Int32) (x5_4 : Int32) (σ_2 : tzS) => tz_V G E 20 [(0, .ref _), (1, .int x1), (2, .int x2), (3, .int x3), (4, .int x4_3), (5, .int x5_4)] [] σ_2) h (fun ag_1 ihag_1 x4_3 x5_4 σ_2 h => ?_)
    refine tz_iload 5 C dX10_isLike_20 rfl ?_
    refine tz_iload_n 2 2 C dX10_isLike_22 rfl rfl ?_
    refine tz_icmp_ge 75 C dX10_isLike_23 (by decide) h (fun h => ?_) (fun h => ?_)
    · refine tz_iload 4 C dX10_isLike_75 rfl ?_
      exact hret _ _ _ _ dX10_isLike_77 (tz_narz h.1) h.2
    · refine tz_iload 4 C dX10_isLike_26 rfl ?_
      refine tz_if_eq 75 C dX10_isLike_28 (by decide) h (fun h => ?_) (fun h => ?_)
      · refine tz_iload 4 C dX10_isLike_75 rfl ?_
        exact hret _ _ _ _ dX10_isLike_77 (tz_narz h.1) h.2
      · refine tz_aload_n 0 0 C dX10_isLike_31 rfl rfl ?_
        refine tz_getR C dX10_isLike_32 fl_RX10_7 (by decide) rfl rfl ?_
        refine tz_aload_n 0 0 C dX10_isLike_35 rfl rfl ?_
        refine tz_getR C dX10_isLike_36 fl_RX10_16 (by decide) rfl rfl ?_
        refine tz_iload_n 1 1 C dX10_isLike_39 rfl rfl ?_
        obtain ⟨hin, h⟩ := h
        refine tz_iald C dX10_isLike_40 (by decide) rfl hin ?_
        refine tz_iload 5 C dX10_isLike_41 rfl ?_
        refine tz_iadd C dX10_isLike_43 ?_
        obtain ⟨hin, h⟩ := h
        refine tz_iald C dX10_isLike_44 (by decide) rfl hin ?_
        refine tz_aload_n 0 0 C dX10_isLike_45 rfl rfl ?_
        refine tz_getR C dX10_isLike_46 fl_RX10_7 (by decide) rfl rfl ?_
        refine tz_aload_n 0 0 C dX10_isLike_49 rfl rfl ?_
        refine tz_getR C dX10_isLike_50 fl_RX10_28 (by decide) rfl rfl ?_
        refine tz_iload_n 3 3 C dX10_isLike_53 rfl rfl ?_
        obtain ⟨hin, h⟩ := h
        refine tz_iald C dX10_isLike_54 (by decide) rfl hin ?_
        refine tz_iload 5 C dX10_isLike_55 rfl ?_
        refine tz_iadd C dX10_isLike_57 ?_
        obtain ⟨hin, h⟩ := h
        refine tz_iald C dX10_isLike_58 (by decide) rfl hin ?_
        refine tz_icmp_ne 66 C dX10_isLike_59 (by decide) h (fun h => ?_) (fun h => ?_)
        · refine tz_iconst 0 (by decide) C dX10_isLike_66 ?_
          refine tz_istore_k [(0, .ref _), (1, .int x1), (2, .int x2), (3, .int x3), (5, .int x5_4)] C dX10_isLike_67 (Nat.le_of_ble_eq_true rfl) rfl ?_
          refine tz_iinc 5 [(4, .int 0), (0, .ref _), (1, .int x1), (2, .int x2), (3, .int x3)] 1 C dX10_isLike_69 (by decide) rfl (Nat.le_of_ble_eq_true rfl) rfl h (fun x5_5 h => ?_)
          refine tz_goto 20 C dX10_isLike_72 (by decide) ?_
          exact tz_sub (ihag_1 _ _ _ h) [2, 3, 4, 5, 1, 0] rfl
        · refine tz_iconst 1 (by decide) C dX10_isLike_62 ?_
          refine tz_goto 67 C dX10_isLike_63 (by decide) ?_
          refine tz_istore_k [(0, .ref _), (1, .int x1), (2, .int x2), (3, .int x3), (5, .int x5_4)] C dX10_isLike_67 (Nat.le_of_ble_eq_true rfl) rfl ?_
          refine tz_iinc 5 [(4, .int 1), (0, .ref _), (1, .int x1), (2, .int x2), (3, .int x3)] 1 C dX10_isLike_69 (by decide) rfl (Nat.le_of_ble_eq_true rfl) rfl h (fun x5_6 h => ?_)
          refine tz_goto 20 C dX10_isLike_72 (by decide) ?_
          exact tz_sub (ihag_1 _ _ _ h) [2, 3, 4, 5, 1, 0] rfl
  · refine tz_iconst 1 (by decide) C dX10_isLike_10 ?_
    refine tz_goto 15 C dX10_isLike_11 (by decide) ?_
    refine tz_istore_k [(0, .ref _), (1, .int x1), (2, .int x2), (3, .int x3)] C dX10_isLike_15 (Nat.le_of_ble_eq_true rfl) rfl ?_
    refine tz_iconst 0 (by decide) C dX10_isLike_17 ?_
    refine tz_istore_k [(4, .int 1), (0, .ref _), (1, .int x1), (2, .int x2), (3, .int x3)] C dX10_isLike_18 (Nat.le_of_ble_eq_true rfl) rfl ?_
    refine tz_sub (L := [(0, .ref _), (1, .int x1), (2, .int x2), (3, .int x3), (4, .int 1), (5, .int 0)]) ?_ [2, 3, 4, 5, 1, 0] rfl
    refine tz_loop2_w (V := fun (x4_9 : Int32) (x5_10 : Int32) (σ_8 : tzS) => tz_V G E 20 [(0, .ref _), (1, .int x1), (2, .int x2), (3, .int x3), (4, .int x4_9), (5, .int x5_10)] [] σ_8) h (fun ag_7 ihag_7 x4_9 x5_10 σ_8 h => ?_)
    refine tz_iload 5 C dX10_isLike_20 rfl ?_
    refine tz_iload_n 2 2 C dX10_isLike_22 rfl rfl ?_
    refine tz_icmp_ge 75 C dX10_isLike_23 (by decide) h (fun h => ?_) (fun h => ?_)
    · refine tz_iload 4 C dX10_isLike_75 rfl ?_
      exact hret _ _ _ _ dX10_isLike_77 (tz_narz h.1) h.2
    · refine tz_iload 4 C dX10_isLike_26 rfl ?_
      refine tz_if_eq 75 C dX10_isLike_28 (by decide) h (fun h => ?_) (fun h => ?_)
      · refine tz_iload 4 C dX10_isLike_75 rfl ?_
        exact hret _ _ _ _ dX10_isLike_77 (tz_narz h.1) h.2
      · refine tz_aload_n 0 0 C dX10_isLike_31 rfl rfl ?_
        refine tz_getR C dX10_isLike_32 fl_RX10_7 (by decide) rfl rfl ?_
        refine tz_aload_n 0 0 C dX10_isLike_35 rfl rfl ?_
        refine tz_getR C dX10_isLike_36 fl_RX10_16 (by decide) rfl rfl ?_
        refine tz_iload_n 1 1 C dX10_isLike_39 rfl rfl ?_
        obtain ⟨hin, h⟩ := h
        refine tz_iald C dX10_isLike_40 (by decide) rfl hin ?_
        refine tz_iload 5 C dX10_isLike_41 rfl ?_
        refine tz_iadd C dX10_isLike_43 ?_
        obtain ⟨hin, h⟩ := h
        refine tz_iald C dX10_isLike_44 (by decide) rfl hin ?_
        refine tz_aload_n 0 0 C dX10_isLike_45 rfl rfl ?_
        refine tz_getR C dX10_isLike_46 fl_RX10_7 (by decide) rfl rfl ?_
        refine tz_aload_n 0 0 C dX10_isLike_49 rfl rfl ?_
        refine tz_getR C dX10_isLike_50 fl_RX10_28 (by decide) rfl rfl ?_
        refine tz_iload_n 3 3 C dX10_isLike_53 rfl rfl ?_
        obtain ⟨hin, h⟩ := h
        refine tz_iald C dX10_isLike_54 (by decide) rfl hin ?_
        refine tz_iload 5 C dX10_isLike_55 rfl ?_
        refine tz_iadd C dX10_isLike_57 ?_
        obtain ⟨hin, h⟩ := h
        refine tz_iald C dX10_isLike_58 (by decide) rfl hin ?_
        refine tz_icmp_ne 66 C dX10_isLike_59 (by decide) h (fun h => ?_) (fun h => ?_)
        · refine tz_iconst 0 (by decide) C dX10_isLike_66 ?_
          refine tz_istore_k [(0, .ref _), (1, .int x1), (2, .int x2), (3, .int x3), (5, .int x5_10)] C dX10_isLike_67 (Nat.le_of_ble_eq_true rfl) rfl ?_
          refine tz_iinc 5 [(4, .int 0), (0, .ref _), (1, .int x1), (2, .int x2), (3, .int x3)] 1 C dX10_isLike_69 (by decide) rfl (Nat.le_of_ble_eq_true rfl) rfl h (fun x5_11 h => ?_)
          refine tz_goto 20 C dX10_isLike_72 (by decide) ?_
          exact tz_sub (ihag_7 _ _ _ h) [2, 3, 4, 5, 1, 0] rfl
        · refine tz_iconst 1 (by decide) C dX10_isLike_62 ?_
          refine tz_goto 67 C dX10_isLike_63 (by decide) ?_
          refine tz_istore_k [(0, .ref _), (1, .int x1), (2, .int x2), (3, .int x3), (5, .int x5_10)] C dX10_isLike_67 (Nat.le_of_ble_eq_true rfl) rfl ?_
          refine tz_iinc 5 [(4, .int 1), (0, .ref _), (1, .int x1), (2, .int x2), (3, .int x3)] 1 C dX10_isLike_69 (by decide) rfl (Nat.le_of_ble_eq_true rfl) rfl h (fun x5_12 h => ?_)
          refine tz_goto 20 C dX10_isLike_72 (by decide) ?_
          exact tz_sub (ihag_7 _ _ _ h) [2, 3, 4, 5, 1, 0] rfl

def vc_X10_reads  (σ : tzS) (Q : tzS → Prop) : Prop :=
  vc_X10_readsText  σ (fun (σ_1 : tzS) =>
    ((σ_1.1 133 4) = (-1) →
      ∀ σ_2 : tzS, σ_2 = tz_st σ_1 133 9 0 →
      tz_loop1 (fun (x1_5 : Int32) (σ_4 : tzS) (ag_3 : Int32 → tzS → Prop) =>
        ((1320 : Int32) ≤ x1_5 →
          tz_loop1 (fun (x1_8 : Int32) (σ_7 : tzS) (ag_6 : Int32 → tzS → Prop) =>
            ((σ_7.1 133 8) ≤ x1_8 →
              vp_in (σ_7.1 133 7) 14 ∧ (
                ∀ σ_9 : tzS, σ_9 = tz_st σ_7 142 (σ_7.1 133 7).toNatClampNeg (σ_7.1 133 8) →
                ∀ σ_10 : tzS, σ_10 = tz_st σ_9 133 18 (-1) →
                Q σ_10)) ∧
            (¬ (σ_7.1 133 8) ≤ x1_8 →
              vc_X10_longOf x1_8 σ_7 (fun (r_12 : Int32) (σ_11 : tzS) =>
                tz_loop1 (fun (x3_15 : Int32) (σ_14 : tzS) (ag_13 : Int32 → tzS → Prop) =>
                  ((σ_14.1 133 9) ≤ x3_15 →
                    (¬ x3_15 = (σ_14.1 133 9) →
                      vp_in x1_8 110 ∧ (
                        ∀ σ_16 : tzS, σ_16 = tz_st σ_14 139 x1_8.toNatClampNeg x3_15 →
                        vp_in x1_8 110 ∧ (
                          vp_in ((110 * (σ_16.1 138 x1_8.toNatClampNeg)) + x3_15) 1320 ∧ (
                            vp_in ((110 * (σ_16.1 138 x1_8.toNatClampNeg)) + x3_15) 1320 ∧ (
                              ∀ σ_17 : tzS, σ_17 = tz_st σ_16 143 ((110 * (σ_16.1 138 x1_8.toNatClampNeg)) + x3_15).toNatClampNeg ((σ_16.1 143 ((110 * (σ_16.1 138 x1_8.toNatClampNeg)) + x3_15).toNatClampNeg) + 1) →
                              ∀ x1_18 : Int32, x1_18 = x1_8 + 1 →
                              ag_6 x1_18 σ_17))))) ∧
                    (x3_15 = (σ_14.1 133 9) →
                      vp_in x1_8 110 ∧ (
                        vp_in (σ_14.1 133 9) 110 ∧ (
                          ∀ σ_19 : tzS, σ_19 = tz_st σ_14 140 (σ_14.1 133 9).toNatClampNeg (σ_14.1 136 x1_8.toNatClampNeg) →
                          vp_in (σ_19.1 133 9) 110 ∧ (
                            ∀ σ_20 : tzS, σ_20 = tz_st σ_19 141 (σ_19.1 133 9).toNatClampNeg r_12 →
                            ∀ σ_21 : tzS, σ_21 = tz_st σ_20 133 9 ((σ_20.1 133 9) + 1) →
                            vp_in x1_8 110 ∧ (
                              ∀ σ_22 : tzS, σ_22 = tz_st σ_21 139 x1_8.toNatClampNeg x3_15 →
                              vp_in x1_8 110 ∧ (
                                vp_in ((110 * (σ_22.1 138 x1_8.toNatClampNeg)) + x3_15) 1320 ∧ (
                                  vp_in ((110 * (σ_22.1 138 x1_8.toNatClampNeg)) + x3_15) 1320 ∧ (
                                    ∀ σ_23 : tzS, σ_23 = tz_st σ_22 143 ((110 * (σ_22.1 138 x1_8.toNatClampNeg)) + x3_15).toNatClampNeg ((σ_22.1 143 ((110 * (σ_22.1 138 x1_8.toNatClampNeg)) + x3_15).toNatClampNeg) + 1) →
                                    ∀ x1_24 : Int32, x1_24 = x1_8 + 1 →
                                    ag_6 x1_24 σ_23))))))))) ∧
                  (¬ (σ_14.1 133 9) ≤ x3_15 →
                    vc_X10_isLike x1_8 r_12 x3_15 σ_14 (fun (r_26 : Int32) (σ_25 : tzS) =>
                      (¬ r_26 = 0 →
                        (¬ x3_15 = (σ_25.1 133 9) →
                          vp_in x1_8 110 ∧ (
                            ∀ σ_27 : tzS, σ_27 = tz_st σ_25 139 x1_8.toNatClampNeg x3_15 →
                            vp_in x1_8 110 ∧ (
                              vp_in ((110 * (σ_27.1 138 x1_8.toNatClampNeg)) + x3_15) 1320 ∧ (
                                vp_in ((110 * (σ_27.1 138 x1_8.toNatClampNeg)) + x3_15) 1320 ∧ (
                                  ∀ σ_28 : tzS, σ_28 = tz_st σ_27 143 ((110 * (σ_27.1 138 x1_8.toNatClampNeg)) + x3_15).toNatClampNeg ((σ_27.1 143 ((110 * (σ_27.1 138 x1_8.toNatClampNeg)) + x3_15).toNatClampNeg) + 1) →
                                  ∀ x1_29 : Int32, x1_29 = x1_8 + 1 →
                                  ag_6 x1_29 σ_28))))) ∧
                        (x3_15 = (σ_25.1 133 9) →
                          vp_in x1_8 110 ∧ (
                            vp_in (σ_25.1 133 9) 110 ∧ (
                              ∀ σ_30 : tzS, σ_30 = tz_st σ_25 140 (σ_25.1 133 9).toNatClampNeg (σ_25.1 136 x1_8.toNatClampNeg) →
                              vp_in (σ_30.1 133 9) 110 ∧ (
                                ∀ σ_31 : tzS, σ_31 = tz_st σ_30 141 (σ_30.1 133 9).toNatClampNeg r_12 →
                                ∀ σ_32 : tzS, σ_32 = tz_st σ_31 133 9 ((σ_31.1 133 9) + 1) →
                                vp_in x1_8 110 ∧ (
                                  ∀ σ_33 : tzS, σ_33 = tz_st σ_32 139 x1_8.toNatClampNeg x3_15 →
                                  vp_in x1_8 110 ∧ (
                                    vp_in ((110 * (σ_33.1 138 x1_8.toNatClampNeg)) + x3_15) 1320 ∧ (
                                      vp_in ((110 * (σ_33.1 138 x1_8.toNatClampNeg)) + x3_15) 1320 ∧ (
                                        ∀ σ_34 : tzS, σ_34 = tz_st σ_33 143 ((110 * (σ_33.1 138 x1_8.toNatClampNeg)) + x3_15).toNatClampNeg ((σ_33.1 143 ((110 * (σ_33.1 138 x1_8.toNatClampNeg)) + x3_15).toNatClampNeg) + 1) →
                                        ∀ x1_35 : Int32, x1_35 = x1_8 + 1 →
                                        ag_6 x1_35 σ_34))))))))) ∧
                      (r_26 = 0 →
                        ∀ x3_36 : Int32, x3_36 = x3_15 + 1 →
                        ag_13 x3_36 σ_25)))) (0 : Int32) σ_11))) (0 : Int32) σ_4) ∧
        (¬ (1320 : Int32) ≤ x1_5 →
          vp_in x1_5 1320 ∧ (
            ∀ σ_37 : tzS, σ_37 = tz_st σ_4 143 x1_5.toNatClampNeg 0 →
            ∀ x1_38 : Int32, x1_38 = x1_5 + 1 →
            ag_3 x1_38 σ_37))) (0 : Int32) σ_2) ∧
    (¬ (σ_1.1 133 4) = (-1) →
      ∀ σ_39 : tzS, σ_39 = tz_st σ_1 133 7 0 →
      ∀ σ_40 : tzS, σ_40 = tz_st σ_39 133 8 0 →
      ∀ σ_41 : tzS, σ_41 = tz_st σ_40 133 9 0 →
      tz_loop1 (fun (x1_44 : Int32) (σ_43 : tzS) (ag_42 : Int32 → tzS → Prop) =>
        ((1320 : Int32) ≤ x1_44 →
          tz_loop1 (fun (x1_47 : Int32) (σ_46 : tzS) (ag_45 : Int32 → tzS → Prop) =>
            ((σ_46.1 133 8) ≤ x1_47 →
              vp_in (σ_46.1 133 7) 14 ∧ (
                ∀ σ_48 : tzS, σ_48 = tz_st σ_46 142 (σ_46.1 133 7).toNatClampNeg (σ_46.1 133 8) →
                ∀ σ_49 : tzS, σ_49 = tz_st σ_48 133 18 (-1) →
                Q σ_49)) ∧
            (¬ (σ_46.1 133 8) ≤ x1_47 →
              vc_X10_longOf x1_47 σ_46 (fun (r_51 : Int32) (σ_50 : tzS) =>
                tz_loop1 (fun (x3_54 : Int32) (σ_53 : tzS) (ag_52 : Int32 → tzS → Prop) =>
                  ((σ_53.1 133 9) ≤ x3_54 →
                    (¬ x3_54 = (σ_53.1 133 9) →
                      vp_in x1_47 110 ∧ (
                        ∀ σ_55 : tzS, σ_55 = tz_st σ_53 139 x1_47.toNatClampNeg x3_54 →
                        vp_in x1_47 110 ∧ (
                          vp_in ((110 * (σ_55.1 138 x1_47.toNatClampNeg)) + x3_54) 1320 ∧ (
                            vp_in ((110 * (σ_55.1 138 x1_47.toNatClampNeg)) + x3_54) 1320 ∧ (
                              ∀ σ_56 : tzS, σ_56 = tz_st σ_55 143 ((110 * (σ_55.1 138 x1_47.toNatClampNeg)) + x3_54).toNatClampNeg ((σ_55.1 143 ((110 * (σ_55.1 138 x1_47.toNatClampNeg)) + x3_54).toNatClampNeg) + 1) →
                              ∀ x1_57 : Int32, x1_57 = x1_47 + 1 →
                              ag_45 x1_57 σ_56))))) ∧
                    (x3_54 = (σ_53.1 133 9) →
                      vp_in x1_47 110 ∧ (
                        vp_in (σ_53.1 133 9) 110 ∧ (
                          ∀ σ_58 : tzS, σ_58 = tz_st σ_53 140 (σ_53.1 133 9).toNatClampNeg (σ_53.1 136 x1_47.toNatClampNeg) →
                          vp_in (σ_58.1 133 9) 110 ∧ (
                            ∀ σ_59 : tzS, σ_59 = tz_st σ_58 141 (σ_58.1 133 9).toNatClampNeg r_51 →
                            ∀ σ_60 : tzS, σ_60 = tz_st σ_59 133 9 ((σ_59.1 133 9) + 1) →
                            vp_in x1_47 110 ∧ (
                              ∀ σ_61 : tzS, σ_61 = tz_st σ_60 139 x1_47.toNatClampNeg x3_54 →
                              vp_in x1_47 110 ∧ (
                                vp_in ((110 * (σ_61.1 138 x1_47.toNatClampNeg)) + x3_54) 1320 ∧ (
                                  vp_in ((110 * (σ_61.1 138 x1_47.toNatClampNeg)) + x3_54) 1320 ∧ (
                                    ∀ σ_62 : tzS, σ_62 = tz_st σ_61 143 ((110 * (σ_61.1 138 x1_47.toNatClampNeg)) + x3_54).toNatClampNeg ((σ_61.1 143 ((110 * (σ_61.1 138 x1_47.toNatClampNeg)) + x3_54).toNatClampNeg) + 1) →
                                    ∀ x1_63 : Int32, x1_63 = x1_47 + 1 →
                                    ag_45 x1_63 σ_62))))))))) ∧
                  (¬ (σ_53.1 133 9) ≤ x3_54 →
                    vc_X10_isLike x1_47 r_51 x3_54 σ_53 (fun (r_65 : Int32) (σ_64 : tzS) =>
                      (¬ r_65 = 0 →
                        (¬ x3_54 = (σ_64.1 133 9) →
                          vp_in x1_47 110 ∧ (
                            ∀ σ_66 : tzS, σ_66 = tz_st σ_64 139 x1_47.toNatClampNeg x3_54 →
                            vp_in x1_47 110 ∧ (
                              vp_in ((110 * (σ_66.1 138 x1_47.toNatClampNeg)) + x3_54) 1320 ∧ (
                                vp_in ((110 * (σ_66.1 138 x1_47.toNatClampNeg)) + x3_54) 1320 ∧ (
                                  ∀ σ_67 : tzS, σ_67 = tz_st σ_66 143 ((110 * (σ_66.1 138 x1_47.toNatClampNeg)) + x3_54).toNatClampNeg ((σ_66.1 143 ((110 * (σ_66.1 138 x1_47.toNatClampNeg)) + x3_54).toNatClampNeg) + 1) →
                                  ∀ x1_68 : Int32, x1_68 = x1_47 + 1 →
                                  ag_45 x1_68 σ_67))))) ∧
                        (x3_54 = (σ_64.1 133 9) →
                          vp_in x1_47 110 ∧ (
                            vp_in (σ_64.1 133 9) 110 ∧ (
                              ∀ σ_69 : tzS, σ_69 = tz_st σ_64 140 (σ_64.1 133 9).toNatClampNeg (σ_64.1 136 x1_47.toNatClampNeg) →
                              vp_in (σ_69.1 133 9) 110 ∧ (
                                ∀ σ_70 : tzS, σ_70 = tz_st σ_69 141 (σ_69.1 133 9).toNatClampNeg r_51 →
                                ∀ σ_71 : tzS, σ_71 = tz_st σ_70 133 9 ((σ_70.1 133 9) + 1) →
                                vp_in x1_47 110 ∧ (
                                  ∀ σ_72 : tzS, σ_72 = tz_st σ_71 139 x1_47.toNatClampNeg x3_54 →
                                  vp_in x1_47 110 ∧ (
                                    vp_in ((110 * (σ_72.1 138 x1_47.toNatClampNeg)) + x3_54) 1320 ∧ (
                                      vp_in ((110 * (σ_72.1 138 x1_47.toNatClampNeg)) + x3_54) 1320 ∧ (
                                        ∀ σ_73 : tzS, σ_73 = tz_st σ_72 143 ((110 * (σ_72.1 138 x1_47.toNatClampNeg)) + x3_54).toNatClampNeg ((σ_72.1 143 ((110 * (σ_72.1 138 x1_47.toNatClampNeg)) + x3_54).toNatClampNeg) + 1) →
                                        ∀ x1_74 : Int32, x1_74 = x1_47 + 1 →
                                        ag_45 x1_74 σ_73))))))))) ∧
                      (r_65 = 0 →
                        ∀ x3_75 : Int32, x3_75 = x3_54 + 1 →
                        ag_52 x3_75 σ_64)))) (0 : Int32) σ_50))) (0 : Int32) σ_43) ∧
        (¬ (1320 : Int32) ≤ x1_44 →
          vp_in x1_44 1320 ∧ (
            ∀ σ_76 : tzS, σ_76 = tz_st σ_43 143 x1_44.toNatClampNeg 0 →
            ∀ x1_77 : Int32, x1_77 = x1_44 + 1 →
            ag_42 x1_77 σ_76))) (0 : Int32) σ_41))
set_option maxRecDepth 20000 in
set_option maxHeartbeats 4000000 in
theorem m_X10_reads (G : tzG) (hG : tz_ok G)   {σ : tzS} {Q : tzS → Prop} (h : vc_X10_reads  σ Q) : tz_M G yX10_reads cX10_reads 4 (none) 3 72 [.ref 133] σ (tz_Qv G Q) := by
  unfold vc_X10_reads at h
  refine tz_startv hG RX10 [(0, .ref _)] (by decide) rfl (Nat.le_of_ble_eq_true rfl) rfl (fun E C hret => ?_)
  refine tz_aload_n 0 0 C dX10_reads_0 rfl rfl ?_
  refine tz_callvv C dX10_reads_1 lk_RX10_132 (m_X10_readsText G hG  h) (by decide) rfl rfl rfl rfl ⟨Nat.le_of_ble_eq_true rfl, Nat.le_of_ble_eq_true rfl⟩ (Nat.le_of_ble_eq_true rfl) rfl (fun σ_1 h => ?_)
  refine tz_aload_n 0 0 C dX10_reads_4 rfl rfl ?_
  refine tz_getI C dX10_reads_5 fl_RX10_103 (by decide) rfl rfl ?_
  refine tz_iconst (-1) (by decide) C dX10_reads_8 ?_
  refine tz_icmp_eq 22 C dX10_reads_9 (by decide) h (fun h => ?_) (fun h => ?_)
  · refine tz_aload_n 0 0 C dX10_reads_22 rfl rfl ?_
    refine tz_iconst 0 (by decide) C dX10_reads_23 ?_
    refine tz_put C dX10_reads_24 fp_RX10_135 (by decide) rfl rfl rfl rfl h (fun σ_2 h => ?_)
    refine tz_iconst 0 (by decide) C dX10_reads_27 ?_
    refine tz_istore_n_k 1 [(0, .ref _)] C dX10_reads_28 rfl (Nat.le_of_ble_eq_true rfl) rfl ?_
    refine tz_sub (L := [(0, .ref _), (1, .int 0)]) ?_ [1, 0] rfl
    refine tz_loop1_w (V := fun (x1_5 : Int32) (σ_4 : tzS) => tz_V G E 29 [(0, .ref _), (1, .int x1_5)] [] σ_4) h (fun ag_3 ihag_3 x1_5 σ_4 h => ?_)
    refine tz_iload_n 1 1 C dX10_reads_29 rfl rfl ?_
    refine tz_sipush 1320 (by decide) C dX10_reads_30 ?_
    refine tz_icmp_ge 49 C dX10_reads_33 (by decide) h (fun h => ?_) (fun h => ?_)
    · refine tz_iconst 0 (by decide) C dX10_reads_49 ?_
      refine tz_istore_n_k 1 [(0, .ref _)] C dX10_reads_50 rfl (Nat.le_of_ble_eq_true rfl) rfl ?_
      refine tz_sub (L := [(0, .ref _), (1, .int 0)]) ?_ [1, 0] rfl
      refine tz_loop1_w (V := fun (x1_8 : Int32) (σ_7 : tzS) => tz_V G E 51 [(0, .ref _), (1, .int x1_8)] [] σ_7) h (fun ag_6 ihag_6 x1_8 σ_7 h => ?_)
      refine tz_iload_n 1 1 C dX10_reads_51 rfl rfl ?_
      refine tz_aload_n 0 0 C dX10_reads_52 rfl rfl ?_
      refine tz_getI C dX10_reads_53 fl_RX10_115 (by decide) rfl rfl ?_
      refine tz_icmp_ge 167 C dX10_reads_56 (by decide) h (fun h => ?_) (fun h => ?_)
      · refine tz_aload_n 0 0 C dX10_reads_167 rfl rfl ?_
        refine tz_getR C dX10_reads_168 fl_RX10_34 (by decide) rfl rfl ?_
        refine tz_aload_n 0 0 C dX10_reads_171 rfl rfl ?_
        refine tz_getI C dX10_reads_172 fl_RX10_109 (by decide) rfl rfl ?_
        refine tz_aload_n 0 0 C dX10_reads_175 rfl rfl ?_
        refine tz_getI C dX10_reads_176 fl_RX10_115 (by decide) rfl rfl ?_
        refine tz_iast C dX10_reads_179 (by decide) rfl h (fun σ_9 h => ?_)
        refine tz_aload_n 0 0 C dX10_reads_180 rfl rfl ?_
        refine tz_iconst (-1) (by decide) C dX10_reads_181 ?_
        refine tz_put C dX10_reads_182 fp_RX10_144 (by decide) rfl rfl rfl rfl h (fun σ_10 h => ?_)
        exact hret _ _ _ dX10_reads_185 h
      · refine tz_aload_n 0 0 C dX10_reads_59 rfl rfl ?_
        refine tz_iload_n 1 1 C dX10_reads_60 rfl rfl ?_
        refine tz_calliv C dX10_reads_61 lk_RX10_138 (m_X10_longOf G hG  h) (by decide) rfl rfl rfl rfl ⟨Nat.le_of_ble_eq_true rfl, Nat.le_of_ble_eq_true rfl⟩ (Nat.le_of_ble_eq_true rfl) rfl (fun r_12 σ_11 h => ?_)
        refine tz_istore_n_k 2 [(0, .ref _), (1, .int x1_8)] C dX10_reads_64 rfl (Nat.le_of_ble_eq_true rfl) rfl ?_
        refine tz_iconst 0 (by decide) C dX10_reads_65 ?_
        refine tz_istore_n_k 3 [(2, .int r_12), (0, .ref _), (1, .int x1_8)] C dX10_reads_66 rfl (Nat.le_of_ble_eq_true rfl) rfl ?_
        refine tz_sub (L := [(0, .ref _), (1, .int x1_8), (2, .int r_12), (3, .int 0)]) ?_ [2, 3, 1, 0] rfl
        refine tz_loop1_w (V := fun (x3_15 : Int32) (σ_14 : tzS) => tz_V G E 67 [(0, .ref _), (1, .int x1_8), (2, .int r_12), (3, .int x3_15)] [] σ_14) h (fun ag_13 ihag_13 x3_15 σ_14 h => ?_)
        refine tz_iload_n 3 3 C dX10_reads_67 rfl rfl ?_
        refine tz_aload_n 0 0 C dX10_reads_68 rfl rfl ?_
        refine tz_getI C dX10_reads_69 fl_RX10_135 (by decide) rfl rfl ?_
        refine tz_icmp_ge 91 C dX10_reads_72 (by decide) h (fun h => ?_) (fun h => ?_)
        · refine tz_iload_n 3 3 C dX10_reads_91 rfl rfl ?_
          refine tz_aload_n 0 0 C dX10_reads_92 rfl rfl ?_
          refine tz_getI C dX10_reads_93 fl_RX10_135 (by decide) rfl rfl ?_
          refine tz_icmp_ne 134 C dX10_reads_96 (by decide) h (fun h => ?_) (fun h => ?_)
          · refine tz_aload_n 0 0 C dX10_reads_134 rfl rfl ?_
            refine tz_getR C dX10_reads_135 fl_RX10_25 (by decide) rfl rfl ?_
            refine tz_iload_n 1 1 C dX10_reads_138 rfl rfl ?_
            refine tz_iload_n 3 3 C dX10_reads_139 rfl rfl ?_
            refine tz_iast C dX10_reads_140 (by decide) rfl h (fun σ_16 h => ?_)
            refine tz_aload_n 0 0 C dX10_reads_141 rfl rfl ?_
            refine tz_getR C dX10_reads_142 fl_RX10_37 (by decide) rfl rfl ?_
            refine tz_bipush 110 (by decide) C dX10_reads_145 ?_
            refine tz_aload_n 0 0 C dX10_reads_147 rfl rfl ?_
            refine tz_getR C dX10_reads_148 fl_RX10_22 (by decide) rfl rfl ?_
            refine tz_iload_n 1 1 C dX10_reads_151 rfl rfl ?_
            obtain ⟨hin, h⟩ := h
            refine tz_iald C dX10_reads_152 (by decide) rfl hin ?_
            refine tz_imul C dX10_reads_153 ?_
            refine tz_iload_n 3 3 C dX10_reads_154 rfl rfl ?_
            refine tz_iadd C dX10_reads_155 ?_
            refine tz_dup2 C dX10_reads_156 rfl rfl ?_
            obtain ⟨hin, h⟩ := h
            refine tz_iald C dX10_reads_157 (by decide) rfl hin ?_
            refine tz_iconst 1 (by decide) C dX10_reads_158 ?_
            refine tz_iadd C dX10_reads_159 ?_
            refine tz_iast C dX10_reads_160 (by decide) rfl h (fun σ_17 h => ?_)
            refine tz_iinc 1 [(0, .ref _), (2, .int r_12), (3, .int x3_15)] 1 C dX10_reads_161 (by decide) rfl (Nat.le_of_ble_eq_true rfl) rfl h (fun x1_18 h => ?_)
            refine tz_goto 51 C dX10_reads_164 (by decide) ?_
            exact tz_sub (ihag_6 _ _ h) [1, 0] rfl
          · refine tz_aload_n 0 0 C dX10_reads_99 rfl rfl ?_
            refine tz_getR C dX10_reads_100 fl_RX10_28 (by decide) rfl rfl ?_
            refine tz_aload_n 0 0 C dX10_reads_103 rfl rfl ?_
            refine tz_getI C dX10_reads_104 fl_RX10_135 (by decide) rfl rfl ?_
            refine tz_aload_n 0 0 C dX10_reads_107 rfl rfl ?_
            refine tz_getR C dX10_reads_108 fl_RX10_16 (by decide) rfl rfl ?_
            refine tz_iload_n 1 1 C dX10_reads_111 rfl rfl ?_
            obtain ⟨hin, h⟩ := h
            refine tz_iald C dX10_reads_112 (by decide) rfl hin ?_
            refine tz_iast C dX10_reads_113 (by decide) rfl h (fun σ_19 h => ?_)
            refine tz_aload_n 0 0 C dX10_reads_114 rfl rfl ?_
            refine tz_getR C dX10_reads_115 fl_RX10_31 (by decide) rfl rfl ?_
            refine tz_aload_n 0 0 C dX10_reads_118 rfl rfl ?_
            refine tz_getI C dX10_reads_119 fl_RX10_135 (by decide) rfl rfl ?_
            refine tz_iload_n 2 2 C dX10_reads_122 rfl rfl ?_
            refine tz_iast C dX10_reads_123 (by decide) rfl h (fun σ_20 h => ?_)
            refine tz_aload_n 0 0 C dX10_reads_124 rfl rfl ?_
            refine tz_dup C dX10_reads_125 rfl ?_
            refine tz_getI C dX10_reads_126 fl_RX10_135 (by decide) rfl rfl ?_
            refine tz_iconst 1 (by decide) C dX10_reads_129 ?_
            refine tz_iadd C dX10_reads_130 ?_
            refine tz_put C dX10_reads_131 fp_RX10_135 (by decide) rfl rfl rfl rfl h (fun σ_21 h => ?_)
            refine tz_aload_n 0 0 C dX10_reads_134 rfl rfl ?_
            refine tz_getR C dX10_reads_135 fl_RX10_25 (by decide) rfl rfl ?_
            refine tz_iload_n 1 1 C dX10_reads_138 rfl rfl ?_
            refine tz_iload_n 3 3 C dX10_reads_139 rfl rfl ?_
            refine tz_iast C dX10_reads_140 (by decide) rfl h (fun σ_22 h => ?_)
            refine tz_aload_n 0 0 C dX10_reads_141 rfl rfl ?_
            refine tz_getR C dX10_reads_142 fl_RX10_37 (by decide) rfl rfl ?_
            refine tz_bipush 110 (by decide) C dX10_reads_145 ?_
            refine tz_aload_n 0 0 C dX10_reads_147 rfl rfl ?_
            refine tz_getR C dX10_reads_148 fl_RX10_22 (by decide) rfl rfl ?_
            refine tz_iload_n 1 1 C dX10_reads_151 rfl rfl ?_
            obtain ⟨hin, h⟩ := h
            refine tz_iald C dX10_reads_152 (by decide) rfl hin ?_
            refine tz_imul C dX10_reads_153 ?_
            refine tz_iload_n 3 3 C dX10_reads_154 rfl rfl ?_
            refine tz_iadd C dX10_reads_155 ?_
            refine tz_dup2 C dX10_reads_156 rfl rfl ?_
            obtain ⟨hin, h⟩ := h
            refine tz_iald C dX10_reads_157 (by decide) rfl hin ?_
            refine tz_iconst 1 (by decide) C dX10_reads_158 ?_
            refine tz_iadd C dX10_reads_159 ?_
            refine tz_iast C dX10_reads_160 (by decide) rfl h (fun σ_23 h => ?_)
            refine tz_iinc 1 [(0, .ref _), (2, .int r_12), (3, .int x3_15)] 1 C dX10_reads_161 (by decide) rfl (Nat.le_of_ble_eq_true rfl) rfl h (fun x1_24 h => ?_)
            refine tz_goto 51 C dX10_reads_164 (by decide) ?_
            exact tz_sub (ihag_6 _ _ h) [1, 0] rfl
        · refine tz_aload_n 0 0 C dX10_reads_75 rfl rfl ?_
          refine tz_iload_n 1 1 C dX10_reads_76 rfl rfl ?_
          refine tz_iload_n 2 2 C dX10_reads_77 rfl rfl ?_
          refine tz_iload_n 3 3 C dX10_reads_78 rfl rfl ?_
          refine tz_calliv C dX10_reads_79 lk_RX10_141 (m_X10_isLike G hG  h) (by decide) rfl rfl rfl rfl ⟨Nat.le_of_ble_eq_true rfl, Nat.le_of_ble_eq_true rfl⟩ (Nat.le_of_ble_eq_true rfl) rfl (fun r_26 σ_25 h => ?_)
          refine tz_if_ne 91 C dX10_reads_82 (by decide) h (fun h => ?_) (fun h => ?_)
          · refine tz_iload_n 3 3 C dX10_reads_91 rfl rfl ?_
            refine tz_aload_n 0 0 C dX10_reads_92 rfl rfl ?_
            refine tz_getI C dX10_reads_93 fl_RX10_135 (by decide) rfl rfl ?_
            refine tz_icmp_ne 134 C dX10_reads_96 (by decide) h (fun h => ?_) (fun h => ?_)
            · refine tz_aload_n 0 0 C dX10_reads_134 rfl rfl ?_
              refine tz_getR C dX10_reads_135 fl_RX10_25 (by decide) rfl rfl ?_
              refine tz_iload_n 1 1 C dX10_reads_138 rfl rfl ?_
              refine tz_iload_n 3 3 C dX10_reads_139 rfl rfl ?_
              refine tz_iast C dX10_reads_140 (by decide) rfl h (fun σ_27 h => ?_)
              refine tz_aload_n 0 0 C dX10_reads_141 rfl rfl ?_
              refine tz_getR C dX10_reads_142 fl_RX10_37 (by decide) rfl rfl ?_
              refine tz_bipush 110 (by decide) C dX10_reads_145 ?_
              refine tz_aload_n 0 0 C dX10_reads_147 rfl rfl ?_
              refine tz_getR C dX10_reads_148 fl_RX10_22 (by decide) rfl rfl ?_
              refine tz_iload_n 1 1 C dX10_reads_151 rfl rfl ?_
              obtain ⟨hin, h⟩ := h
              refine tz_iald C dX10_reads_152 (by decide) rfl hin ?_
              refine tz_imul C dX10_reads_153 ?_
              refine tz_iload_n 3 3 C dX10_reads_154 rfl rfl ?_
              refine tz_iadd C dX10_reads_155 ?_
              refine tz_dup2 C dX10_reads_156 rfl rfl ?_
              obtain ⟨hin, h⟩ := h
              refine tz_iald C dX10_reads_157 (by decide) rfl hin ?_
              refine tz_iconst 1 (by decide) C dX10_reads_158 ?_
              refine tz_iadd C dX10_reads_159 ?_
              refine tz_iast C dX10_reads_160 (by decide) rfl h (fun σ_28 h => ?_)
              refine tz_iinc 1 [(0, .ref _), (2, .int r_12), (3, .int x3_15)] 1 C dX10_reads_161 (by decide) rfl (Nat.le_of_ble_eq_true rfl) rfl h (fun x1_29 h => ?_)
              refine tz_goto 51 C dX10_reads_164 (by decide) ?_
              exact tz_sub (ihag_6 _ _ h) [1, 0] rfl
            · refine tz_aload_n 0 0 C dX10_reads_99 rfl rfl ?_
              refine tz_getR C dX10_reads_100 fl_RX10_28 (by decide) rfl rfl ?_
              refine tz_aload_n 0 0 C dX10_reads_103 rfl rfl ?_
              refine tz_getI C dX10_reads_104 fl_RX10_135 (by decide) rfl rfl ?_
              refine tz_aload_n 0 0 C dX10_reads_107 rfl rfl ?_
              refine tz_getR C dX10_reads_108 fl_RX10_16 (by decide) rfl rfl ?_
              refine tz_iload_n 1 1 C dX10_reads_111 rfl rfl ?_
              obtain ⟨hin, h⟩ := h
              refine tz_iald C dX10_reads_112 (by decide) rfl hin ?_
              refine tz_iast C dX10_reads_113 (by decide) rfl h (fun σ_30 h => ?_)
              refine tz_aload_n 0 0 C dX10_reads_114 rfl rfl ?_
              refine tz_getR C dX10_reads_115 fl_RX10_31 (by decide) rfl rfl ?_
              refine tz_aload_n 0 0 C dX10_reads_118 rfl rfl ?_
              refine tz_getI C dX10_reads_119 fl_RX10_135 (by decide) rfl rfl ?_
              refine tz_iload_n 2 2 C dX10_reads_122 rfl rfl ?_
              refine tz_iast C dX10_reads_123 (by decide) rfl h (fun σ_31 h => ?_)
              refine tz_aload_n 0 0 C dX10_reads_124 rfl rfl ?_
              refine tz_dup C dX10_reads_125 rfl ?_
              refine tz_getI C dX10_reads_126 fl_RX10_135 (by decide) rfl rfl ?_
              refine tz_iconst 1 (by decide) C dX10_reads_129 ?_
              refine tz_iadd C dX10_reads_130 ?_
              refine tz_put C dX10_reads_131 fp_RX10_135 (by decide) rfl rfl rfl rfl h (fun σ_32 h => ?_)
              refine tz_aload_n 0 0 C dX10_reads_134 rfl rfl ?_
              refine tz_getR C dX10_reads_135 fl_RX10_25 (by decide) rfl rfl ?_
              refine tz_iload_n 1 1 C dX10_reads_138 rfl rfl ?_
              refine tz_iload_n 3 3 C dX10_reads_139 rfl rfl ?_
              refine tz_iast C dX10_reads_140 (by decide) rfl h (fun σ_33 h => ?_)
              refine tz_aload_n 0 0 C dX10_reads_141 rfl rfl ?_
              refine tz_getR C dX10_reads_142 fl_RX10_37 (by decide) rfl rfl ?_
              refine tz_bipush 110 (by decide) C dX10_reads_145 ?_
              refine tz_aload_n 0 0 C dX10_reads_147 rfl rfl ?_
              refine tz_getR C dX10_reads_148 fl_RX10_22 (by decide) rfl rfl ?_
              refine tz_iload_n 1 1 C dX10_reads_151 rfl rfl ?_
              obtain ⟨hin, h⟩ := h
              refine tz_iald C dX10_reads_152 (by decide) rfl hin ?_
              refine tz_imul C dX10_reads_153 ?_
              refine tz_iload_n 3 3 C dX10_reads_154 rfl rfl ?_
              refine tz_iadd C dX10_reads_155 ?_
              refine tz_dup2 C dX10_reads_156 rfl rfl ?_
              obtain ⟨hin, h⟩ := h
              refine tz_iald C dX10_reads_157 (by decide) rfl hin ?_
              refine tz_iconst 1 (by decide) C dX10_reads_158 ?_
              refine tz_iadd C dX10_reads_159 ?_
              refine tz_iast C dX10_reads_160 (by decide) rfl h (fun σ_34 h => ?_)
              refine tz_iinc 1 [(0, .ref _), (2, .int r_12), (3, .int x3_15)] 1 C dX10_reads_161 (by decide) rfl (Nat.le_of_ble_eq_true rfl) rfl h (fun x1_35 h => ?_)
              refine tz_goto 51 C dX10_reads_164 (by decide) ?_
              exact tz_sub (ihag_6 _ _ h) [1, 0] rfl
          · refine tz_iinc 3 [(0, .ref _), (1, .int x1_8), (2, .int r_12)] 1 C dX10_reads_85 (by decide) rfl (Nat.le_of_ble_eq_true rfl) rfl h (fun x3_36 h => ?_)
            refine tz_goto 67 C dX10_reads_88 (by decide) ?_
            exact tz_sub (ihag_13 _ _ h) [1, 2, 3, 0] rfl
    · refine tz_aload_n 0 0 C dX10_reads_36 rfl rfl ?_
      refine tz_getR C dX10_reads_37 fl_RX10_37 (by decide) rfl rfl ?_
      refine tz_iload_n 1 1 C dX10_reads_40 rfl rfl ?_
      refine tz_iconst 0 (by decide) C dX10_reads_41 ?_
      refine tz_iast C dX10_reads_42 (by decide) rfl h (fun σ_37 h => ?_)
      refine tz_iinc 1 [(0, .ref _)] 1 C dX10_reads_43 (by decide) rfl (Nat.le_of_ble_eq_true rfl) rfl h (fun x1_38 h => ?_)
      refine tz_goto 29 C dX10_reads_46 (by decide) ?_
      exact tz_sub (ihag_3 _ _ h) [1, 0] rfl
  · refine tz_aload_n 0 0 C dX10_reads_12 rfl rfl ?_
    refine tz_iconst 0 (by decide) C dX10_reads_13 ?_
    refine tz_put C dX10_reads_14 fp_RX10_109 (by decide) rfl rfl rfl rfl h (fun σ_39 h => ?_)
    refine tz_aload_n 0 0 C dX10_reads_17 rfl rfl ?_
    refine tz_iconst 0 (by decide) C dX10_reads_18 ?_
    refine tz_put C dX10_reads_19 fp_RX10_115 (by decide) rfl rfl rfl rfl h (fun σ_40 h => ?_)
    refine tz_aload_n 0 0 C dX10_reads_22 rfl rfl ?_
    refine tz_iconst 0 (by decide) C dX10_reads_23 ?_
    refine tz_put C dX10_reads_24 fp_RX10_135 (by decide) rfl rfl rfl rfl h (fun σ_41 h => ?_)
    refine tz_iconst 0 (by decide) C dX10_reads_27 ?_
    refine tz_istore_n_k 1 [(0, .ref _)] C dX10_reads_28 rfl (Nat.le_of_ble_eq_true rfl) rfl ?_
    refine tz_sub (L := [(0, .ref _), (1, .int 0)]) ?_ [1, 0] rfl
    refine tz_loop1_w (V := fun (x1_44 : Int32) (σ_43 : tzS) => tz_V G E 29 [(0, .ref _), (1, .int x1_44)] [] σ_43) h (fun ag_42 ihag_42 x1_44 σ_43 h => ?_)
    refine tz_iload_n 1 1 C dX10_reads_29 rfl rfl ?_
    refine tz_sipush 1320 (by decide) C dX10_reads_30 ?_
    refine tz_icmp_ge 49 C dX10_reads_33 (by decide) h (fun h => ?_) (fun h => ?_)
    · refine tz_iconst 0 (by decide) C dX10_reads_49 ?_
      refine tz_istore_n_k 1 [(0, .ref _)] C dX10_reads_50 rfl (Nat.le_of_ble_eq_true rfl) rfl ?_
      refine tz_sub (L := [(0, .ref _), (1, .int 0)]) ?_ [1, 0] rfl
      refine tz_loop1_w (V := fun (x1_47 : Int32) (σ_46 : tzS) => tz_V G E 51 [(0, .ref _), (1, .int x1_47)] [] σ_46) h (fun ag_45 ihag_45 x1_47 σ_46 h => ?_)
      refine tz_iload_n 1 1 C dX10_reads_51 rfl rfl ?_
      refine tz_aload_n 0 0 C dX10_reads_52 rfl rfl ?_
      refine tz_getI C dX10_reads_53 fl_RX10_115 (by decide) rfl rfl ?_
      refine tz_icmp_ge 167 C dX10_reads_56 (by decide) h (fun h => ?_) (fun h => ?_)
      · refine tz_aload_n 0 0 C dX10_reads_167 rfl rfl ?_
        refine tz_getR C dX10_reads_168 fl_RX10_34 (by decide) rfl rfl ?_
        refine tz_aload_n 0 0 C dX10_reads_171 rfl rfl ?_
        refine tz_getI C dX10_reads_172 fl_RX10_109 (by decide) rfl rfl ?_
        refine tz_aload_n 0 0 C dX10_reads_175 rfl rfl ?_
        refine tz_getI C dX10_reads_176 fl_RX10_115 (by decide) rfl rfl ?_
        refine tz_iast C dX10_reads_179 (by decide) rfl h (fun σ_48 h => ?_)
        refine tz_aload_n 0 0 C dX10_reads_180 rfl rfl ?_
        refine tz_iconst (-1) (by decide) C dX10_reads_181 ?_
        refine tz_put C dX10_reads_182 fp_RX10_144 (by decide) rfl rfl rfl rfl h (fun σ_49 h => ?_)
        exact hret _ _ _ dX10_reads_185 h
      · refine tz_aload_n 0 0 C dX10_reads_59 rfl rfl ?_
        refine tz_iload_n 1 1 C dX10_reads_60 rfl rfl ?_
        refine tz_calliv C dX10_reads_61 lk_RX10_138 (m_X10_longOf G hG  h) (by decide) rfl rfl rfl rfl ⟨Nat.le_of_ble_eq_true rfl, Nat.le_of_ble_eq_true rfl⟩ (Nat.le_of_ble_eq_true rfl) rfl (fun r_51 σ_50 h => ?_)
        refine tz_istore_n_k 2 [(0, .ref _), (1, .int x1_47)] C dX10_reads_64 rfl (Nat.le_of_ble_eq_true rfl) rfl ?_
        refine tz_iconst 0 (by decide) C dX10_reads_65 ?_
        refine tz_istore_n_k 3 [(2, .int r_51), (0, .ref _), (1, .int x1_47)] C dX10_reads_66 rfl (Nat.le_of_ble_eq_true rfl) rfl ?_
        refine tz_sub (L := [(0, .ref _), (1, .int x1_47), (2, .int r_51), (3, .int 0)]) ?_ [2, 3, 1, 0] rfl
        refine tz_loop1_w (V := fun (x3_54 : Int32) (σ_53 : tzS) => tz_V G E 67 [(0, .ref _), (1, .int x1_47), (2, .int r_51), (3, .int x3_54)] [] σ_53) h (fun ag_52 ihag_52 x3_54 σ_53 h => ?_)
        refine tz_iload_n 3 3 C dX10_reads_67 rfl rfl ?_
        refine tz_aload_n 0 0 C dX10_reads_68 rfl rfl ?_
        refine tz_getI C dX10_reads_69 fl_RX10_135 (by decide) rfl rfl ?_
        refine tz_icmp_ge 91 C dX10_reads_72 (by decide) h (fun h => ?_) (fun h => ?_)
        · refine tz_iload_n 3 3 C dX10_reads_91 rfl rfl ?_
          refine tz_aload_n 0 0 C dX10_reads_92 rfl rfl ?_
          refine tz_getI C dX10_reads_93 fl_RX10_135 (by decide) rfl rfl ?_
          refine tz_icmp_ne 134 C dX10_reads_96 (by decide) h (fun h => ?_) (fun h => ?_)
          · refine tz_aload_n 0 0 C dX10_reads_134 rfl rfl ?_
            refine tz_getR C dX10_reads_135 fl_RX10_25 (by decide) rfl rfl ?_
            refine tz_iload_n 1 1 C dX10_reads_138 rfl rfl ?_
            refine tz_iload_n 3 3 C dX10_reads_139 rfl rfl ?_
            refine tz_iast C dX10_reads_140 (by decide) rfl h (fun σ_55 h => ?_)
            refine tz_aload_n 0 0 C dX10_reads_141 rfl rfl ?_
            refine tz_getR C dX10_reads_142 fl_RX10_37 (by decide) rfl rfl ?_
            refine tz_bipush 110 (by decide) C dX10_reads_145 ?_
            refine tz_aload_n 0 0 C dX10_reads_147 rfl rfl ?_
            refine tz_getR C dX10_reads_148 fl_RX10_22 (by decide) rfl rfl ?_
            refine tz_iload_n 1 1 C dX10_reads_151 rfl rfl ?_
            obtain ⟨hin, h⟩ := h
            refine tz_iald C dX10_reads_152 (by decide) rfl hin ?_
            refine tz_imul C dX10_reads_153 ?_
            refine tz_iload_n 3 3 C dX10_reads_154 rfl rfl ?_
            refine tz_iadd C dX10_reads_155 ?_
            refine tz_dup2 C dX10_reads_156 rfl rfl ?_
            obtain ⟨hin, h⟩ := h
            refine tz_iald C dX10_reads_157 (by decide) rfl hin ?_
            refine tz_iconst 1 (by decide) C dX10_reads_158 ?_
            refine tz_iadd C dX10_reads_159 ?_
            refine tz_iast C dX10_reads_160 (by decide) rfl h (fun σ_56 h => ?_)
            refine tz_iinc 1 [(0, .ref _), (2, .int r_51), (3, .int x3_54)] 1 C dX10_reads_161 (by decide) rfl (Nat.le_of_ble_eq_true rfl) rfl h (fun x1_57 h => ?_)
            refine tz_goto 51 C dX10_reads_164 (by decide) ?_
            exact tz_sub (ihag_45 _ _ h) [1, 0] rfl
          · refine tz_aload_n 0 0 C dX10_reads_99 rfl rfl ?_
            refine tz_getR C dX10_reads_100 fl_RX10_28 (by decide) rfl rfl ?_
            refine tz_aload_n 0 0 C dX10_reads_103 rfl rfl ?_
            refine tz_getI C dX10_reads_104 fl_RX10_135 (by decide) rfl rfl ?_
            refine tz_aload_n 0 0 C dX10_reads_107 rfl rfl ?_
            refine tz_getR C dX10_reads_108 fl_RX10_16 (by decide) rfl rfl ?_
            refine tz_iload_n 1 1 C dX10_reads_111 rfl rfl ?_
            obtain ⟨hin, h⟩ := h
            refine tz_iald C dX10_reads_112 (by decide) rfl hin ?_
            refine tz_iast C dX10_reads_113 (by decide) rfl h (fun σ_58 h => ?_)
            refine tz_aload_n 0 0 C dX10_reads_114 rfl rfl ?_
            refine tz_getR C dX10_reads_115 fl_RX10_31 (by decide) rfl rfl ?_
            refine tz_aload_n 0 0 C dX10_reads_118 rfl rfl ?_
            refine tz_getI C dX10_reads_119 fl_RX10_135 (by decide) rfl rfl ?_
            refine tz_iload_n 2 2 C dX10_reads_122 rfl rfl ?_
            refine tz_iast C dX10_reads_123 (by decide) rfl h (fun σ_59 h => ?_)
            refine tz_aload_n 0 0 C dX10_reads_124 rfl rfl ?_
            refine tz_dup C dX10_reads_125 rfl ?_
            refine tz_getI C dX10_reads_126 fl_RX10_135 (by decide) rfl rfl ?_
            refine tz_iconst 1 (by decide) C dX10_reads_129 ?_
            refine tz_iadd C dX10_reads_130 ?_
            refine tz_put C dX10_reads_131 fp_RX10_135 (by decide) rfl rfl rfl rfl h (fun σ_60 h => ?_)
            refine tz_aload_n 0 0 C dX10_reads_134 rfl rfl ?_
            refine tz_getR C dX10_reads_135 fl_RX10_25 (by decide) rfl rfl ?_
            refine tz_iload_n 1 1 C dX10_reads_138 rfl rfl ?_
            refine tz_iload_n 3 3 C dX10_reads_139 rfl rfl ?_
            refine tz_iast C dX10_reads_140 (by decide) rfl h (fun σ_61 h => ?_)
            refine tz_aload_n 0 0 C dX10_reads_141 rfl rfl ?_
            refine tz_getR C dX10_reads_142 fl_RX10_37 (by decide) rfl rfl ?_
            refine tz_bipush 110 (by decide) C dX10_reads_145 ?_
            refine tz_aload_n 0 0 C dX10_reads_147 rfl rfl ?_
            refine tz_getR C dX10_reads_148 fl_RX10_22 (by decide) rfl rfl ?_
            refine tz_iload_n 1 1 C dX10_reads_151 rfl rfl ?_
            obtain ⟨hin, h⟩ := h
            refine tz_iald C dX10_reads_152 (by decide) rfl hin ?_
            refine tz_imul C dX10_reads_153 ?_
            refine tz_iload_n 3 3 C dX10_reads_154 rfl rfl ?_
            refine tz_iadd C dX10_reads_155 ?_
            refine tz_dup2 C dX10_reads_156 rfl rfl ?_
            obtain ⟨hin, h⟩ := h
            refine tz_iald C dX10_reads_157 (by decide) rfl hin ?_
            refine tz_iconst 1 (by decide) C dX10_reads_158 ?_
            refine tz_iadd C dX10_reads_159 ?_
            refine tz_iast C dX10_reads_160 (by decide) rfl h (fun σ_62 h => ?_)
            refine tz_iinc 1 [(0, .ref _), (2, .int r_51), (3, .int x3_54)] 1 C dX10_reads_161 (by decide) rfl (Nat.le_of_ble_eq_true rfl) rfl h (fun x1_63 h => ?_)
            refine tz_goto 51 C dX10_reads_164 (by decide) ?_
            exact tz_sub (ihag_45 _ _ h) [1, 0] rfl
        · refine tz_aload_n 0 0 C dX10_reads_75 rfl rfl ?_
          refine tz_iload_n 1 1 C dX10_reads_76 rfl rfl ?_
          refine tz_iload_n 2 2 C dX10_reads_77 rfl rfl ?_
          refine tz_iload_n 3 3 C dX10_reads_78 rfl rfl ?_
          refine tz_calliv C dX10_reads_79 lk_RX10_141 (m_X10_isLike G hG  h) (by decide) rfl rfl rfl rfl ⟨Nat.le_of_ble_eq_true rfl, Nat.le_of_ble_eq_true rfl⟩ (Nat.le_of_ble_eq_true rfl) rfl (fun r_65 σ_64 h => ?_)
          refine tz_if_ne 91 C dX10_reads_82 (by decide) h (fun h => ?_) (fun h => ?_)
          · refine tz_iload_n 3 3 C dX10_reads_91 rfl rfl ?_
            refine tz_aload_n 0 0 C dX10_reads_92 rfl rfl ?_
            refine tz_getI C dX10_reads_93 fl_RX10_135 (by decide) rfl rfl ?_
            refine tz_icmp_ne 134 C dX10_reads_96 (by decide) h (fun h => ?_) (fun h => ?_)
            · refine tz_aload_n 0 0 C dX10_reads_134 rfl rfl ?_
              refine tz_getR C dX10_reads_135 fl_RX10_25 (by decide) rfl rfl ?_
              refine tz_iload_n 1 1 C dX10_reads_138 rfl rfl ?_
              refine tz_iload_n 3 3 C dX10_reads_139 rfl rfl ?_
              refine tz_iast C dX10_reads_140 (by decide) rfl h (fun σ_66 h => ?_)
              refine tz_aload_n 0 0 C dX10_reads_141 rfl rfl ?_
              refine tz_getR C dX10_reads_142 fl_RX10_37 (by decide) rfl rfl ?_
              refine tz_bipush 110 (by decide) C dX10_reads_145 ?_
              refine tz_aload_n 0 0 C dX10_reads_147 rfl rfl ?_
              refine tz_getR C dX10_reads_148 fl_RX10_22 (by decide) rfl rfl ?_
              refine tz_iload_n 1 1 C dX10_reads_151 rfl rfl ?_
              obtain ⟨hin, h⟩ := h
              refine tz_iald C dX10_reads_152 (by decide) rfl hin ?_
              refine tz_imul C dX10_reads_153 ?_
              refine tz_iload_n 3 3 C dX10_reads_154 rfl rfl ?_
              refine tz_iadd C dX10_reads_155 ?_
              refine tz_dup2 C dX10_reads_156 rfl rfl ?_
              obtain ⟨hin, h⟩ := h
              refine tz_iald C dX10_reads_157 (by decide) rfl hin ?_
              refine tz_iconst 1 (by decide) C dX10_reads_158 ?_
              refine tz_iadd C dX10_reads_159 ?_
              refine tz_iast C dX10_reads_160 (by decide) rfl h (fun σ_67 h => ?_)
              refine tz_iinc 1 [(0, .ref _), (2, .int r_51), (3, .int x3_54)] 1 C dX10_reads_161 (by decide) rfl (Nat.le_of_ble_eq_true rfl) rfl h (fun x1_68 h => ?_)
              refine tz_goto 51 C dX10_reads_164 (by decide) ?_
              exact tz_sub (ihag_45 _ _ h) [1, 0] rfl
            · refine tz_aload_n 0 0 C dX10_reads_99 rfl rfl ?_
              refine tz_getR C dX10_reads_100 fl_RX10_28 (by decide) rfl rfl ?_
              refine tz_aload_n 0 0 C dX10_reads_103 rfl rfl ?_
              refine tz_getI C dX10_reads_104 fl_RX10_135 (by decide) rfl rfl ?_
              refine tz_aload_n 0 0 C dX10_reads_107 rfl rfl ?_
              refine tz_getR C dX10_reads_108 fl_RX10_16 (by decide) rfl rfl ?_
              refine tz_iload_n 1 1 C dX10_reads_111 rfl rfl ?_
              obtain ⟨hin, h⟩ := h
              refine tz_iald C dX10_reads_112 (by decide) rfl hin ?_
              refine tz_iast C dX10_reads_113 (by decide) rfl h (fun σ_69 h => ?_)
              refine tz_aload_n 0 0 C dX10_reads_114 rfl rfl ?_
              refine tz_getR C dX10_reads_115 fl_RX10_31 (by decide) rfl rfl ?_
              refine tz_aload_n 0 0 C dX10_reads_118 rfl rfl ?_
              refine tz_getI C dX10_reads_119 fl_RX10_135 (by decide) rfl rfl ?_
              refine tz_iload_n 2 2 C dX10_reads_122 rfl rfl ?_
              refine tz_iast C dX10_reads_123 (by decide) rfl h (fun σ_70 h => ?_)
              refine tz_aload_n 0 0 C dX10_reads_124 rfl rfl ?_
              refine tz_dup C dX10_reads_125 rfl ?_
              refine tz_getI C dX10_reads_126 fl_RX10_135 (by decide) rfl rfl ?_
              refine tz_iconst 1 (by decide) C dX10_reads_129 ?_
              refine tz_iadd C dX10_reads_130 ?_
              refine tz_put C dX10_reads_131 fp_RX10_135 (by decide) rfl rfl rfl rfl h (fun σ_71 h => ?_)
              refine tz_aload_n 0 0 C dX10_reads_134 rfl rfl ?_
              refine tz_getR C dX10_reads_135 fl_RX10_25 (by decide) rfl rfl ?_
              refine tz_iload_n 1 1 C dX10_reads_138 rfl rfl ?_
              refine tz_iload_n 3 3 C dX10_reads_139 rfl rfl ?_
              refine tz_iast C dX10_reads_140 (by decide) rfl h (fun σ_72 h => ?_)
              refine tz_aload_n 0 0 C dX10_reads_141 rfl rfl ?_
              refine tz_getR C dX10_reads_142 fl_RX10_37 (by decide) rfl rfl ?_
              refine tz_bipush 110 (by decide) C dX10_reads_145 ?_
              refine tz_aload_n 0 0 C dX10_reads_147 rfl rfl ?_
              refine tz_getR C dX10_reads_148 fl_RX10_22 (by decide) rfl rfl ?_
              refine tz_iload_n 1 1 C dX10_reads_151 rfl rfl ?_
              obtain ⟨hin, h⟩ := h
              refine tz_iald C dX10_reads_152 (by decide) rfl hin ?_
              refine tz_imul C dX10_reads_153 ?_
              refine tz_iload_n 3 3 C dX10_reads_154 rfl rfl ?_
              refine tz_iadd C dX10_reads_155 ?_
              refine tz_dup2 C dX10_reads_156 rfl rfl ?_
              obtain ⟨hin, h⟩ := h
              refine tz_iald C dX10_reads_157 (by decide) rfl hin ?_
              refine tz_iconst 1 (by decide) C dX10_reads_158 ?_
              refine tz_iadd C dX10_reads_159 ?_
              refine tz_iast C dX10_reads_160 (by decide) rfl h (fun σ_73 h => ?_)
              refine tz_iinc 1 [(0, .ref _), (2, .int r_51), (3, .int x3_54)] 1 C dX10_reads_161 (by decide) rfl (Nat.le_of_ble_eq_true rfl) rfl h (fun x1_74 h => ?_)
              refine tz_goto 51 C dX10_reads_164 (by decide) ?_
              exact tz_sub (ihag_45 _ _ h) [1, 0] rfl
          · refine tz_iinc 3 [(0, .ref _), (1, .int x1_47), (2, .int r_51)] 1 C dX10_reads_85 (by decide) rfl (Nat.le_of_ble_eq_true rfl) rfl h (fun x3_75 h => ?_)
            refine tz_goto 67 C dX10_reads_88 (by decide) ?_
            exact tz_sub (ihag_52 _ _ h) [1, 2, 3, 0] rfl
    · refine tz_aload_n 0 0 C dX10_reads_36 rfl rfl ?_
      refine tz_getR C dX10_reads_37 fl_RX10_37 (by decide) rfl rfl ?_
      refine tz_iload_n 1 1 C dX10_reads_40 rfl rfl ?_
      refine tz_iconst 0 (by decide) C dX10_reads_41 ?_
      refine tz_iast C dX10_reads_42 (by decide) rfl h (fun σ_76 h => ?_)
      refine tz_iinc 1 [(0, .ref _)] 1 C dX10_reads_43 (by decide) rfl (Nat.le_of_ble_eq_true rfl) rfl h (fun x1_77 h => ?_)
      refine tz_goto 29 C dX10_reads_46 (by decide) ?_
      exact tz_sub (ihag_42 _ _ h) [1, 0] rfl

def vc_X10_faultOf (x1 : Int32) (σ : tzS) (Q : Int32 → tzS → Prop) : Prop :=
  vc_X10_reads  σ (fun (σ_1 : tzS) =>
    (¬ x1 = 0 →
      (¬ x1 = 1 →
        Q (σ_1.1 133 6) σ_1) ∧
      (x1 = 1 →
        Q (σ_1.1 133 5) σ_1)) ∧
    (x1 = 0 →
      Q (σ_1.1 133 4) σ_1))
set_option maxRecDepth 20000 in
set_option maxHeartbeats 4000000 in
theorem m_X10_faultOf (G : tzG) (hG : tz_ok G) {x1 : Int32}  {σ : tzS} {Q : Int32 → tzS → Prop} (h : vc_X10_faultOf x1 σ Q) : tz_M G yX10_faultOf cX10_faultOf 2 (some .int) 4 95 [.ref 133, .int x1] σ (tz_Qi G Q) := by
  unfold vc_X10_faultOf at h
  refine tz_starti hG RX10 [(0, .ref _), (1, .int x1)] (by decide) rfl (Nat.le_of_ble_eq_true rfl) rfl (fun E C hret => ?_)
  refine tz_aload_n 0 0 C dX10_faultOf_0 rfl rfl ?_
  refine tz_callvv C dX10_faultOf_1 lk_RX10_147 (m_X10_reads G hG  h) (by decide) rfl rfl rfl rfl ⟨Nat.le_of_ble_eq_true rfl, Nat.le_of_ble_eq_true rfl⟩ (Nat.le_of_ble_eq_true rfl) rfl (fun σ_1 h => ?_)
  refine tz_iload_n 1 1 C dX10_faultOf_4 rfl rfl ?_
  refine tz_if_ne 15 C dX10_faultOf_5 (by decide) h (fun h => ?_) (fun h => ?_)
  · refine tz_iload_n 1 1 C dX10_faultOf_15 rfl rfl ?_
    refine tz_iconst 1 (by decide) C dX10_faultOf_16 ?_
    refine tz_icmp_ne 27 C dX10_faultOf_17 (by decide) h (fun h => ?_) (fun h => ?_)
    · refine tz_aload_n 0 0 C dX10_faultOf_27 rfl rfl ?_
      refine tz_getI C dX10_faultOf_28 fl_RX10_112 (by decide) rfl rfl ?_
      exact hret _ _ _ _ dX10_faultOf_31 h
    · refine tz_aload_n 0 0 C dX10_faultOf_20 rfl rfl ?_
      refine tz_getI C dX10_faultOf_21 fl_RX10_106 (by decide) rfl rfl ?_
      refine tz_goto 31 C dX10_faultOf_24 (by decide) ?_
      exact hret _ _ _ _ dX10_faultOf_31 h
  · refine tz_aload_n 0 0 C dX10_faultOf_8 rfl rfl ?_
    refine tz_getI C dX10_faultOf_9 fl_RX10_103 (by decide) rfl rfl ?_
    refine tz_goto 31 C dX10_faultOf_12 (by decide) ?_
    exact hret _ _ _ _ dX10_faultOf_31 h

def vc_X10_fault (x1 : Int32) (σ : tzS) (Q : Int32 → tzS → Prop) : Prop :=
  vc_X10_in x1 0 2 σ (fun (r_2 : Int32) (σ_1 : tzS) =>
    (r_2 = 0 →
      Q (-2) σ_1) ∧
    (¬ r_2 = 0 →
      vc_X10_faultOf x1 σ_1 (fun (r_4 : Int32) (σ_3 : tzS) =>
        Q r_4 σ_3)))
set_option maxRecDepth 20000 in
set_option maxHeartbeats 4000000 in
theorem m_X10_fault (G : tzG) (hG : tz_ok G) {x1 : Int32}  {σ : tzS} {Q : Int32 → tzS → Prop} (h : vc_X10_fault x1 σ Q) : tz_M G yX10_fault cX10_fault 2 (some .int) 5 116 [.ref 133, .int x1] σ (tz_Qi G Q) := by
  unfold vc_X10_fault at h
  refine tz_starti hG RX10 [(0, .ref _), (1, .int x1)] (by decide) rfl (Nat.le_of_ble_eq_true rfl) rfl (fun E C hret => ?_)
  refine tz_iload_n 1 1 C dX10_fault_0 rfl rfl ?_
  refine tz_iconst 0 (by decide) C dX10_fault_1 ?_
  refine tz_iconst 2 (by decide) C dX10_fault_2 ?_
  refine tz_callis C dX10_fault_3 lk_RX10_77 (m_X10_in G hG  h) rfl ⟨Nat.le_of_ble_eq_true rfl, Nat.le_of_ble_eq_true rfl⟩ (Nat.le_of_ble_eq_true rfl) rfl (fun r_2 σ_1 h => ?_)
  refine tz_if_eq 17 C dX10_fault_6 (by decide) h (fun h => ?_) (fun h => ?_)
  · refine tz_bipush (-2) (by decide) C dX10_fault_17 ?_
    exact hret _ _ _ _ dX10_fault_19 h
  · refine tz_aload_n 0 0 C dX10_fault_9 rfl rfl ?_
    refine tz_iload_n 1 1 C dX10_fault_10 rfl rfl ?_
    refine tz_calliv C dX10_fault_11 lk_RX10_150 (m_X10_faultOf G hG  h) (by decide) rfl rfl rfl rfl ⟨Nat.le_of_ble_eq_true rfl, Nat.le_of_ble_eq_true rfl⟩ (Nat.le_of_ble_eq_true rfl) rfl (fun r_4 σ_3 h => ?_)
    refine tz_goto 19 C dX10_fault_14 (by decide) ?_
    exact hret _ _ _ _ dX10_fault_19 h

def vc_X10_isSentence (x1 : Int32) (σ : tzS) (Q : Int32 → tzS → Prop) : Prop :=
  vc_X10_reads  σ (fun (σ_1 : tzS) =>
    vc_X10_in x1 0 ((σ_1.1 133 7) - 1) σ_1 (fun (r_3 : Int32) (σ_2 : tzS) =>
      tz_bool r_3 ∧ Q r_3 σ_2))
set_option maxRecDepth 20000 in
set_option maxHeartbeats 4000000 in
theorem m_X10_isSentence (G : tzG) (hG : tz_ok G) {x1 : Int32}  {σ : tzS} {Q : Int32 → tzS → Prop} (h : vc_X10_isSentence x1 σ Q) : tz_M G yX10_isSentence cX10_isSentence 2 (some .boolean) 4 95 [.ref 133, .int x1] σ (tz_Qi G Q) := by
  unfold vc_X10_isSentence at h
  refine tz_startz hG RX10 [(0, .ref _), (1, .int x1)] (by decide) rfl (Nat.le_of_ble_eq_true rfl) rfl (fun E C hret => ?_)
  refine tz_aload_n 0 0 C dX10_isSentence_0 rfl rfl ?_
  refine tz_callvv C dX10_isSentence_1 lk_RX10_147 (m_X10_reads G hG  h) (by decide) rfl rfl rfl rfl ⟨Nat.le_of_ble_eq_true rfl, Nat.le_of_ble_eq_true rfl⟩ (Nat.le_of_ble_eq_true rfl) rfl (fun σ_1 h => ?_)
  refine tz_iload_n 1 1 C dX10_isSentence_4 rfl rfl ?_
  refine tz_iconst 0 (by decide) C dX10_isSentence_5 ?_
  refine tz_aload_n 0 0 C dX10_isSentence_6 rfl rfl ?_
  refine tz_getI C dX10_isSentence_7 fl_RX10_109 (by decide) rfl rfl ?_
  refine tz_iconst 1 (by decide) C dX10_isSentence_10 ?_
  refine tz_isub C dX10_isSentence_11 ?_
  refine tz_callis C dX10_isSentence_12 lk_RX10_77 (m_X10_in G hG  h) rfl ⟨Nat.le_of_ble_eq_true rfl, Nat.le_of_ble_eq_true rfl⟩ (Nat.le_of_ble_eq_true rfl) rfl (fun r_3 σ_2 h => ?_)
  exact hret _ _ _ _ dX10_isSentence_15 (tz_narz h.1) h.2

def vc_X10_looksOver (x1 : Int32) (x2 : Int32) (σ : tzS) (Q : tzS → Prop) : Prop :=
  ∀ σ_1 : tzS, σ_1 = tz_st σ 133 19 0 →
  ∀ σ_2 : tzS, σ_2 = tz_st σ_1 133 20 0 →
  ∀ σ_3 : tzS, σ_3 = tz_st σ_2 133 21 0 →
  tz_loop1 (fun (x3_6 : Int32) (σ_5 : tzS) (ag_4 : Int32 → tzS → Prop) =>
    ((σ_5.1 133 9) ≤ x3_6 →
      Q σ_5) ∧
    (¬ (σ_5.1 133 9) ≤ x3_6 →
      tz_loop2 (fun (x4_9 : Int32) (x5_10 : Int32) (σ_8 : tzS) (ag_7 : Int32 → Int32 → tzS → Prop) =>
        (x2 ≤ x5_10 →
          ∀ σ_11 : tzS, σ_11 = tz_st σ_8 133 19 ((σ_8.1 133 19) + x4_9) →
          (x4_9 ≤ 0 →
            ∀ σ_12 : tzS, σ_12 = tz_st σ_11 133 20 ((σ_11.1 133 20) + 0) →
            (¬ x4_9 = 1 →
              ∀ σ_13 : tzS, σ_13 = tz_st σ_12 133 21 ((σ_12.1 133 21) + 0) →
              ∀ x3_14 : Int32, x3_14 = x3_6 + 1 →
              ag_4 x3_14 σ_13) ∧
            (x4_9 = 1 →
              ∀ σ_15 : tzS, σ_15 = tz_st σ_12 133 21 ((σ_12.1 133 21) + 1) →
              ∀ x3_16 : Int32, x3_16 = x3_6 + 1 →
              ag_4 x3_16 σ_15)) ∧
          (¬ x4_9 ≤ 0 →
            ∀ σ_17 : tzS, σ_17 = tz_st σ_11 133 20 ((σ_11.1 133 20) + 1) →
            (¬ x4_9 = 1 →
              ∀ σ_18 : tzS, σ_18 = tz_st σ_17 133 21 ((σ_17.1 133 21) + 0) →
              ∀ x3_19 : Int32, x3_19 = x3_6 + 1 →
              ag_4 x3_19 σ_18) ∧
            (x4_9 = 1 →
              ∀ σ_20 : tzS, σ_20 = tz_st σ_17 133 21 ((σ_17.1 133 21) + 1) →
              ∀ x3_21 : Int32, x3_21 = x3_6 + 1 →
              ag_4 x3_21 σ_20))) ∧
        (¬ x2 ≤ x5_10 →
          (¬ x5_10 = (σ_8.1 133 18) →
            vp_in ((110 * x5_10) + x3_6) 1320 ∧ (
              ∀ x4_22 : Int32, x4_22 = (x4_9 + (σ_8.1 143 ((110 * x5_10) + x3_6).toNatClampNeg)) →
              ∀ x5_23 : Int32, x5_23 = x5_10 + 1 →
              ag_7 x4_22 x5_23 σ_8)) ∧
          (x5_10 = (σ_8.1 133 18) →
            ∀ x4_24 : Int32, x4_24 = (x4_9 + 0) →
            ∀ x5_25 : Int32, x5_25 = x5_10 + 1 →
            ag_7 x4_24 x5_25 σ_8))) (0 : Int32) x1 σ_5)) (0 : Int32) σ_3
set_option maxRecDepth 20000 in
set_option maxHeartbeats 4000000 in
theorem m_X10_looksOver (G : tzG) (hG : tz_ok G) {x1 : Int32} {x2 : Int32}  {σ : tzS} {Q : tzS → Prop} (h : vc_X10_looksOver x1 x2 σ Q) : tz_M G yX10_looksOver cX10_looksOver 6 (none) 0 0 [.ref 133, .int x1, .int x2] σ (tz_Qv G Q) := by
  unfold vc_X10_looksOver at h
  refine tz_startv hG RX10 [(0, .ref _), (1, .int x1), (2, .int x2)] (by decide) rfl (Nat.le_of_ble_eq_true rfl) rfl (fun E C hret => ?_)
  refine tz_aload_n 0 0 C dX10_looksOver_0 rfl rfl ?_
  refine tz_iconst 0 (by decide) C dX10_looksOver_1 ?_
  refine tz_put C dX10_looksOver_2 fp_RX10_153 (by decide) rfl rfl rfl rfl h (fun σ_1 h => ?_)
  refine tz_aload_n 0 0 C dX10_looksOver_5 rfl rfl ?_
  refine tz_iconst 0 (by decide) C dX10_looksOver_6 ?_
  refine tz_put C dX10_looksOver_7 fp_RX10_156 (by decide) rfl rfl rfl rfl h (fun σ_2 h => ?_)
  refine tz_aload_n 0 0 C dX10_looksOver_10 rfl rfl ?_
  refine tz_iconst 0 (by decide) C dX10_looksOver_11 ?_
  refine tz_put C dX10_looksOver_12 fp_RX10_159 (by decide) rfl rfl rfl rfl h (fun σ_3 h => ?_)
  refine tz_iconst 0 (by decide) C dX10_looksOver_15 ?_
  refine tz_istore_n_k 3 [(0, .ref _), (1, .int x1), (2, .int x2)] C dX10_looksOver_16 rfl (Nat.le_of_ble_eq_true rfl) rfl ?_
  refine tz_sub (L := [(0, .ref _), (1, .int x1), (2, .int x2), (3, .int 0)]) ?_ [1, 2, 3, 0] rfl
  refine tz_loop1_w (V := fun (x3_6 : Int32) (σ_5 : tzS) => tz_V G E 17 [(0, .ref _), (1, .int x1), (2, .int x2), (3, .int x3_6)] [] σ_5) h (fun ag_4 ihag_4 x3_6 σ_5 h => ?_)
  refine tz_iload_n 3 3 C dX10_looksOver_17 rfl rfl ?_
  refine tz_aload_n 0 0 C dX10_looksOver_18 rfl rfl ?_
  refine tz_getI C dX10_looksOver_19 fl_RX10_135 (by decide) rfl rfl ?_
  refine tz_icmp_ge 129 C dX10_looksOver_22 (by decide) h (fun h => ?_) (fun h => ?_)
  · exact hret _ _ _ dX10_looksOver_129 h
  · refine tz_iconst 0 (by decide) C dX10_looksOver_25 ?_
    refine tz_istore_k [(0, .ref _), (1, .int x1), (2, .int x2), (3, .int x3_6)] C dX10_looksOver_26 (Nat.le_of_ble_eq_true rfl) rfl ?_
    refine tz_iload_n 1 2 C dX10_looksOver_28 rfl rfl ?_
    refine tz_istore_k [(4, .int 0), (0, .ref _), (1, .int x1), (2, .int x2), (3, .int x3_6)] C dX10_looksOver_29 (Nat.le_of_ble_eq_true rfl) rfl ?_
    refine tz_sub (L := [(0, .ref _), (1, .int x1), (2, .int x2), (3, .int x3_6), (4, .int 0), (5, .int x1)]) ?_ [2, 3, 4, 5, 1, 0] rfl
    refine tz_loop2_w (V := fun (x4_9 : Int32) (x5_10 : Int32) (σ_8 : tzS) => tz_V G E 31 [(0, .ref _), (1, .int x1), (2, .int x2), (3, .int x3_6), (4, .int x4_9), (5, .int x5_10)] [] σ_8) h (fun ag_7 ihag_7 x4_9 x5_10 σ_8 h => ?_)
    refine tz_iload 5 C dX10_looksOver_31 rfl ?_
    refine tz_iload_n 2 2 C dX10_looksOver_33 rfl rfl ?_
    refine tz_icmp_ge 73 C dX10_looksOver_34 (by decide) h (fun h => ?_) (fun h => ?_)
    · refine tz_aload_n 0 0 C dX10_looksOver_73 rfl rfl ?_
      refine tz_dup C dX10_looksOver_74 rfl ?_
      refine tz_getI C dX10_looksOver_75 fl_RX10_153 (by decide) rfl rfl ?_
      refine tz_iload 4 C dX10_looksOver_78 rfl ?_
      refine tz_iadd C dX10_looksOver_80 ?_
      refine tz_put C dX10_looksOver_81 fp_RX10_153 (by decide) rfl rfl rfl rfl h (fun σ_11 h => ?_)
      refine tz_aload_n 0 0 C dX10_looksOver_84 rfl rfl ?_
      refine tz_dup C dX10_looksOver_85 rfl ?_
      refine tz_getI C dX10_looksOver_86 fl_RX10_156 (by decide) rfl rfl ?_
      refine tz_iload 4 C dX10_looksOver_89 rfl ?_
      refine tz_if_le 98 C dX10_looksOver_91 (by decide) h (fun h => ?_) (fun h => ?_)
      · refine tz_iconst 0 (by decide) C dX10_looksOver_98 ?_
        refine tz_iadd C dX10_looksOver_99 ?_
        refine tz_put C dX10_looksOver_100 fp_RX10_156 (by decide) rfl rfl rfl rfl h (fun σ_12 h => ?_)
        refine tz_aload_n 0 0 C dX10_looksOver_103 rfl rfl ?_
        refine tz_dup C dX10_looksOver_104 rfl ?_
        refine tz_getI C dX10_looksOver_105 fl_RX10_159 (by decide) rfl rfl ?_
        refine tz_iload 4 C dX10_looksOver_108 rfl ?_
        refine tz_iconst 1 (by decide) C dX10_looksOver_110 ?_
        refine tz_icmp_ne 118 C dX10_looksOver_111 (by decide) h (fun h => ?_) (fun h => ?_)
        · refine tz_iconst 0 (by decide) C dX10_looksOver_118 ?_
          refine tz_iadd C dX10_looksOver_119 ?_
          refine tz_put C dX10_looksOver_120 fp_RX10_159 (by decide) rfl rfl rfl rfl h (fun σ_13 h => ?_)
          refine tz_iinc 3 [(0, .ref _), (1, .int x1), (2, .int x2), (4, .int x4_9), (5, .int x5_10)] 1 C dX10_looksOver_123 (by decide) rfl (Nat.le_of_ble_eq_true rfl) rfl h (fun x3_14 h => ?_)
          refine tz_goto 17 C dX10_looksOver_126 (by decide) ?_
          exact tz_sub (ihag_4 _ _ h) [1, 2, 3, 0] rfl
        · refine tz_iconst 1 (by decide) C dX10_looksOver_114 ?_
          refine tz_goto 119 C dX10_looksOver_115 (by decide) ?_
          refine tz_iadd C dX10_looksOver_119 ?_
          refine tz_put C dX10_looksOver_120 fp_RX10_159 (by decide) rfl rfl rfl rfl h (fun σ_15 h => ?_)
          refine tz_iinc 3 [(0, .ref _), (1, .int x1), (2, .int x2), (4, .int x4_9), (5, .int x5_10)] 1 C dX10_looksOver_123 (by decide) rfl (Nat.le_of_ble_eq_true rfl) rfl h (fun x3_16 h => ?_)
          refine tz_goto 17 C dX10_looksOver_126 (by decide) ?_
          exact tz_sub (ihag_4 _ _ h) [1, 2, 3, 0] rfl
      · refine tz_iconst 1 (by decide) C dX10_looksOver_94 ?_
        refine tz_goto 99 C dX10_looksOver_95 (by decide) ?_
        refine tz_iadd C dX10_looksOver_99 ?_
        refine tz_put C dX10_looksOver_100 fp_RX10_156 (by decide) rfl rfl rfl rfl h (fun σ_17 h => ?_)
        refine tz_aload_n 0 0 C dX10_looksOver_103 rfl rfl ?_
        refine tz_dup C dX10_looksOver_104 rfl ?_
        refine tz_getI C dX10_looksOver_105 fl_RX10_159 (by decide) rfl rfl ?_
        refine tz_iload 4 C dX10_looksOver_108 rfl ?_
        refine tz_iconst 1 (by decide) C dX10_looksOver_110 ?_
        refine tz_icmp_ne 118 C dX10_looksOver_111 (by decide) h (fun h => ?_) (fun h => ?_)
        · refine tz_iconst 0 (by decide) C dX10_looksOver_118 ?_
          refine tz_iadd C dX10_looksOver_119 ?_
          refine tz_put C dX10_looksOver_120 fp_RX10_159 (by decide) rfl rfl rfl rfl h (fun σ_18 h => ?_)
          refine tz_iinc 3 [(0, .ref _), (1, .int x1), (2, .int x2), (4, .int x4_9), (5, .int x5_10)] 1 C dX10_looksOver_123 (by decide) rfl (Nat.le_of_ble_eq_true rfl) rfl h (fun x3_19 h => ?_)
          refine tz_goto 17 C dX10_looksOver_126 (by decide) ?_
          exact tz_sub (ihag_4 _ _ h) [1, 2, 3, 0] rfl
        · refine tz_iconst 1 (by decide) C dX10_looksOver_114 ?_
          refine tz_goto 119 C dX10_looksOver_115 (by decide) ?_
          refine tz_iadd C dX10_looksOver_119 ?_
          refine tz_put C dX10_looksOver_120 fp_RX10_159 (by decide) rfl rfl rfl rfl h (fun σ_20 h => ?_)
          refine tz_iinc 3 [(0, .ref _), (1, .int x1), (2, .int x2), (4, .int x4_9), (5, .int x5_10)] 1 C dX10_looksOver_123 (by decide) rfl (Nat.le_of_ble_eq_true rfl) rfl h (fun x3_21 h => ?_)
          refine tz_goto 17 C dX10_looksOver_126 (by decide) ?_
          exact tz_sub (ihag_4 _ _ h) [1, 2, 3, 0] rfl
    · refine tz_iload 4 C dX10_looksOver_37 rfl ?_
      refine tz_iload 5 C dX10_looksOver_39 rfl ?_
      refine tz_aload_n 0 0 C dX10_looksOver_41 rfl rfl ?_
      refine tz_getI C dX10_looksOver_42 fl_RX10_144 (by decide) rfl rfl ?_
      refine tz_icmp_ne 52 C dX10_looksOver_45 (by decide) h (fun h => ?_) (fun h => ?_)
      · refine tz_aload_n 0 0 C dX10_looksOver_52 rfl rfl ?_
        refine tz_getR C dX10_looksOver_53 fl_RX10_37 (by decide) rfl rfl ?_
        refine tz_bipush 110 (by decide) C dX10_looksOver_56 ?_
        refine tz_iload 5 C dX10_looksOver_58 rfl ?_
        refine tz_imul C dX10_looksOver_60 ?_
        refine tz_iload_n 3 3 C dX10_looksOver_61 rfl rfl ?_
        refine tz_iadd C dX10_looksOver_62 ?_
        obtain ⟨hin, h⟩ := h
        refine tz_iald C dX10_looksOver_63 (by decide) rfl hin ?_
        refine tz_iadd C dX10_looksOver_64 ?_
        refine tz_istore [(0, .ref _), (1, .int x1), (2, .int x2), (3, .int x3_6), (5, .int x5_10)] C dX10_looksOver_65 (Nat.le_of_ble_eq_true rfl) rfl h (fun x4_22 h => ?_)
        refine tz_iinc 5 [(4, .int x4_22), (0, .ref _), (1, .int x1), (2, .int x2), (3, .int x3_6)] 1 C dX10_looksOver_67 (by decide) rfl (Nat.le_of_ble_eq_true rfl) rfl h (fun x5_23 h => ?_)
        refine tz_goto 31 C dX10_looksOver_70 (by decide) ?_
        exact tz_sub (ihag_7 _ _ _ h) [2, 3, 4, 5, 1, 0] rfl
      · refine tz_iconst 0 (by decide) C dX10_looksOver_48 ?_
        refine tz_goto 64 C dX10_looksOver_49 (by decide) ?_
        refine tz_iadd C dX10_looksOver_64 ?_
        refine tz_istore [(0, .ref _), (1, .int x1), (2, .int x2), (3, .int x3_6), (5, .int x5_10)] C dX10_looksOver_65 (Nat.le_of_ble_eq_true rfl) rfl h (fun x4_24 h => ?_)
        refine tz_iinc 5 [(4, .int x4_24), (0, .ref _), (1, .int x1), (2, .int x2), (3, .int x3_6)] 1 C dX10_looksOver_67 (by decide) rfl (Nat.le_of_ble_eq_true rfl) rfl h (fun x5_25 h => ?_)
        refine tz_goto 31 C dX10_looksOver_70 (by decide) ?_
        exact tz_sub (ihag_7 _ _ _ h) [2, 3, 4, 5, 1, 0] rfl

def vc_X10_sentenceOf (x1 : Int32) (x2 : Int32) (σ : tzS) (Q : Int32 → tzS → Prop) : Prop :=
  vc_X10_looksOver x1 (x1 + 1) σ (fun (σ_1 : tzS) =>
    (¬ x2 = 0 →
      (¬ x2 = 1 →
        (¬ x2 = 2 →
          vp_in x1 14 ∧ (
            vp_in (σ_1.1 142 x1.toNatClampNeg) 110 ∧ (
              Q (σ_1.1 136 (σ_1.1 142 x1.toNatClampNeg).toNatClampNeg) σ_1))) ∧
        (x2 = 2 →
          Q (σ_1.1 133 21) σ_1)) ∧
      (x2 = 1 →
        Q (σ_1.1 133 20) σ_1)) ∧
    (x2 = 0 →
      Q (σ_1.1 133 19) σ_1))
set_option maxRecDepth 20000 in
set_option maxHeartbeats 4000000 in
theorem m_X10_sentenceOf (G : tzG) (hG : tz_ok G) {x1 : Int32} {x2 : Int32}  {σ : tzS} {Q : Int32 → tzS → Prop} (h : vc_X10_sentenceOf x1 x2 σ Q) : tz_M G yX10_sentenceOf cX10_sentenceOf 3 (some .int) 1 25 [.ref 133, .int x1, .int x2] σ (tz_Qi G Q) := by
  unfold vc_X10_sentenceOf at h
  refine tz_starti hG RX10 [(0, .ref _), (1, .int x1), (2, .int x2)] (by decide) rfl (Nat.le_of_ble_eq_true rfl) rfl (fun E C hret => ?_)
  refine tz_aload_n 0 0 C dX10_sentenceOf_0 rfl rfl ?_
  refine tz_iload_n 1 1 C dX10_sentenceOf_1 rfl rfl ?_
  refine tz_iload_n 1 1 C dX10_sentenceOf_2 rfl rfl ?_
  refine tz_iconst 1 (by decide) C dX10_sentenceOf_3 ?_
  refine tz_iadd C dX10_sentenceOf_4 ?_
  refine tz_callvv C dX10_sentenceOf_5 lk_RX10_162 (m_X10_looksOver G hG  h) (by decide) rfl rfl rfl rfl ⟨Nat.le_of_ble_eq_true rfl, Nat.le_of_ble_eq_true rfl⟩ (Nat.le_of_ble_eq_true rfl) rfl (fun σ_1 h => ?_)
  refine tz_iload_n 2 2 C dX10_sentenceOf_8 rfl rfl ?_
  refine tz_if_ne 19 C dX10_sentenceOf_9 (by decide) h (fun h => ?_) (fun h => ?_)
  · refine tz_iload_n 2 2 C dX10_sentenceOf_19 rfl rfl ?_
    refine tz_iconst 1 (by decide) C dX10_sentenceOf_20 ?_
    refine tz_icmp_ne 31 C dX10_sentenceOf_21 (by decide) h (fun h => ?_) (fun h => ?_)
    · refine tz_iload_n 2 2 C dX10_sentenceOf_31 rfl rfl ?_
      refine tz_iconst 2 (by decide) C dX10_sentenceOf_32 ?_
      refine tz_icmp_ne 43 C dX10_sentenceOf_33 (by decide) h (fun h => ?_) (fun h => ?_)
      · refine tz_aload_n 0 0 C dX10_sentenceOf_43 rfl rfl ?_
        refine tz_getR C dX10_sentenceOf_44 fl_RX10_16 (by decide) rfl rfl ?_
        refine tz_aload_n 0 0 C dX10_sentenceOf_47 rfl rfl ?_
        refine tz_getR C dX10_sentenceOf_48 fl_RX10_34 (by decide) rfl rfl ?_
        refine tz_iload_n 1 1 C dX10_sentenceOf_51 rfl rfl ?_
        obtain ⟨hin, h⟩ := h
        refine tz_iald C dX10_sentenceOf_52 (by decide) rfl hin ?_
        obtain ⟨hin, h⟩ := h
        refine tz_iald C dX10_sentenceOf_53 (by decide) rfl hin ?_
        exact hret _ _ _ _ dX10_sentenceOf_54 h
      · refine tz_aload_n 0 0 C dX10_sentenceOf_36 rfl rfl ?_
        refine tz_getI C dX10_sentenceOf_37 fl_RX10_159 (by decide) rfl rfl ?_
        refine tz_goto 54 C dX10_sentenceOf_40 (by decide) ?_
        exact hret _ _ _ _ dX10_sentenceOf_54 h
    · refine tz_aload_n 0 0 C dX10_sentenceOf_24 rfl rfl ?_
      refine tz_getI C dX10_sentenceOf_25 fl_RX10_156 (by decide) rfl rfl ?_
      refine tz_goto 54 C dX10_sentenceOf_28 (by decide) ?_
      exact hret _ _ _ _ dX10_sentenceOf_54 h
  · refine tz_aload_n 0 0 C dX10_sentenceOf_12 rfl rfl ?_
    refine tz_getI C dX10_sentenceOf_13 fl_RX10_153 (by decide) rfl rfl ?_
    refine tz_goto 54 C dX10_sentenceOf_16 (by decide) ?_
    exact hret _ _ _ _ dX10_sentenceOf_54 h

def vc_X10_sentence (x1 : Int32) (x2 : Int32) (σ : tzS) (Q : Int32 → tzS → Prop) : Prop :=
  vc_X10_isSentence x1 σ (fun (r_2 : Int32) (σ_1 : tzS) =>
    (r_2 = 0 →
      Q (-2) σ_1) ∧
    (¬ r_2 = 0 →
      vc_X10_in x2 0 3 σ_1 (fun (r_4 : Int32) (σ_3 : tzS) =>
        (r_4 = 0 →
          Q (-2) σ_3) ∧
        (¬ r_4 = 0 →
          vc_X10_sentenceOf x1 x2 σ_3 (fun (r_6 : Int32) (σ_5 : tzS) =>
            Q r_6 σ_5)))))
set_option maxRecDepth 20000 in
set_option maxHeartbeats 4000000 in
theorem m_X10_sentence (G : tzG) (hG : tz_ok G) {x1 : Int32} {x2 : Int32}  {σ : tzS} {Q : Int32 → tzS → Prop} (h : vc_X10_sentence x1 x2 σ Q) : tz_M G yX10_sentence cX10_sentence 3 (some .int) 5 116 [.ref 133, .int x1, .int x2] σ (tz_Qi G Q) := by
  unfold vc_X10_sentence at h
  refine tz_starti hG RX10 [(0, .ref _), (1, .int x1), (2, .int x2)] (by decide) rfl (Nat.le_of_ble_eq_true rfl) rfl (fun E C hret => ?_)
  refine tz_aload_n 0 0 C dX10_sentence_0 rfl rfl ?_
  refine tz_iload_n 1 1 C dX10_sentence_1 rfl rfl ?_
  refine tz_calliv C dX10_sentence_2 lk_RX10_165 (m_X10_isSentence G hG  h) (by decide) rfl rfl rfl rfl ⟨Nat.le_of_ble_eq_true rfl, Nat.le_of_ble_eq_true rfl⟩ (Nat.le_of_ble_eq_true rfl) rfl (fun r_2 σ_1 h => ?_)
  refine tz_if_eq 26 C dX10_sentence_5 (by decide) h (fun h => ?_) (fun h => ?_)
  · refine tz_bipush (-2) (by decide) C dX10_sentence_26 ?_
    exact hret _ _ _ _ dX10_sentence_28 h
  · refine tz_iload_n 2 2 C dX10_sentence_8 rfl rfl ?_
    refine tz_iconst 0 (by decide) C dX10_sentence_9 ?_
    refine tz_iconst 3 (by decide) C dX10_sentence_10 ?_
    refine tz_callis C dX10_sentence_11 lk_RX10_77 (m_X10_in G hG  h) rfl ⟨Nat.le_of_ble_eq_true rfl, Nat.le_of_ble_eq_true rfl⟩ (Nat.le_of_ble_eq_true rfl) rfl (fun r_4 σ_3 h => ?_)
    refine tz_if_eq 26 C dX10_sentence_14 (by decide) h (fun h => ?_) (fun h => ?_)
    · refine tz_bipush (-2) (by decide) C dX10_sentence_26 ?_
      exact hret _ _ _ _ dX10_sentence_28 h
    · refine tz_aload_n 0 0 C dX10_sentence_17 rfl rfl ?_
      refine tz_iload_n 1 1 C dX10_sentence_18 rfl rfl ?_
      refine tz_iload_n 2 2 C dX10_sentence_19 rfl rfl ?_
      refine tz_calliv C dX10_sentence_20 lk_RX10_168 (m_X10_sentenceOf G hG  h) (by decide) rfl rfl rfl rfl ⟨Nat.le_of_ble_eq_true rfl, Nat.le_of_ble_eq_true rfl⟩ (Nat.le_of_ble_eq_true rfl) rfl (fun r_6 σ_5 h => ?_)
      refine tz_goto 28 C dX10_sentence_23 (by decide) ?_
      exact hret _ _ _ _ dX10_sentence_28 h

def vc_X10_wordOf (x1 : Int32) (x2 : Int32) (σ : tzS) (Q : Int32 → tzS → Prop) : Prop :=
  vp_in (x1 + 1) 14 ∧ (
    vp_in x1 14 ∧ (
      vc_X10_in x2 0 (((σ.1 142 (x1 + 1).toNatClampNeg) - (σ.1 142 x1.toNatClampNeg)) - 1) σ (fun (r_2 : Int32) (σ_1 : tzS) =>
        (r_2 = 0 →
          Q (-2) σ_1) ∧
        (¬ r_2 = 0 →
          vp_in x1 14 ∧ (
            vp_in ((σ_1.1 142 x1.toNatClampNeg) + x2) 110 ∧ (
              Q (σ_1.1 139 ((σ_1.1 142 x1.toNatClampNeg) + x2).toNatClampNeg) σ_1))))))
set_option maxRecDepth 20000 in
set_option maxHeartbeats 4000000 in
theorem m_X10_wordOf (G : tzG) (hG : tz_ok G) {x1 : Int32} {x2 : Int32}  {σ : tzS} {Q : Int32 → tzS → Prop} (h : vc_X10_wordOf x1 x2 σ Q) : tz_M G yX10_wordOf cX10_wordOf 3 (some .int) 1 22 [.ref 133, .int x1, .int x2] σ (tz_Qi G Q) := by
  unfold vc_X10_wordOf at h
  refine tz_starti hG RX10 [(0, .ref _), (1, .int x1), (2, .int x2)] (by decide) rfl (Nat.le_of_ble_eq_true rfl) rfl (fun E C hret => ?_)
  refine tz_iload_n 2 2 C dX10_wordOf_0 rfl rfl ?_
  refine tz_iconst 0 (by decide) C dX10_wordOf_1 ?_
  refine tz_aload_n 0 0 C dX10_wordOf_2 rfl rfl ?_
  refine tz_getR C dX10_wordOf_3 fl_RX10_34 (by decide) rfl rfl ?_
  refine tz_iload_n 1 1 C dX10_wordOf_6 rfl rfl ?_
  refine tz_iconst 1 (by decide) C dX10_wordOf_7 ?_
  refine tz_iadd C dX10_wordOf_8 ?_
  obtain ⟨hin, h⟩ := h
  refine tz_iald C dX10_wordOf_9 (by decide) rfl hin ?_
  refine tz_aload_n 0 0 C dX10_wordOf_10 rfl rfl ?_
  refine tz_getR C dX10_wordOf_11 fl_RX10_34 (by decide) rfl rfl ?_
  refine tz_iload_n 1 1 C dX10_wordOf_14 rfl rfl ?_
  obtain ⟨hin, h⟩ := h
  refine tz_iald C dX10_wordOf_15 (by decide) rfl hin ?_
  refine tz_isub C dX10_wordOf_16 ?_
  refine tz_iconst 1 (by decide) C dX10_wordOf_17 ?_
  refine tz_isub C dX10_wordOf_18 ?_
  refine tz_callis C dX10_wordOf_19 lk_RX10_77 (m_X10_in G hG  h) rfl ⟨Nat.le_of_ble_eq_true rfl, Nat.le_of_ble_eq_true rfl⟩ (Nat.le_of_ble_eq_true rfl) rfl (fun r_2 σ_1 h => ?_)
  refine tz_if_eq 41 C dX10_wordOf_22 (by decide) h (fun h => ?_) (fun h => ?_)
  · refine tz_bipush (-2) (by decide) C dX10_wordOf_41 ?_
    exact hret _ _ _ _ dX10_wordOf_43 h
  · refine tz_aload_n 0 0 C dX10_wordOf_25 rfl rfl ?_
    refine tz_getR C dX10_wordOf_26 fl_RX10_25 (by decide) rfl rfl ?_
    refine tz_aload_n 0 0 C dX10_wordOf_29 rfl rfl ?_
    refine tz_getR C dX10_wordOf_30 fl_RX10_34 (by decide) rfl rfl ?_
    refine tz_iload_n 1 1 C dX10_wordOf_33 rfl rfl ?_
    obtain ⟨hin, h⟩ := h
    refine tz_iald C dX10_wordOf_34 (by decide) rfl hin ?_
    refine tz_iload_n 2 2 C dX10_wordOf_35 rfl rfl ?_
    refine tz_iadd C dX10_wordOf_36 ?_
    obtain ⟨hin, h⟩ := h
    refine tz_iald C dX10_wordOf_37 (by decide) rfl hin ?_
    refine tz_goto 43 C dX10_wordOf_38 (by decide) ?_
    exact hret _ _ _ _ dX10_wordOf_43 h
