def vc_X10_isLike (x1 : Int32) (x2 : Int32) (x3 : Int32) (σ : tzS) (Q : Int32 → tzS → Prop) : Prop :=
  vp_in x3 110 ∧ (
    (¬ (σ.1 141 x3.toNatClampNeg) = x2 →
      tz_loop2 (fun (x4_5 : Int32) (x5_6 : Int32) (σ_4 : tzS) (ag_3 : Int32 → Int32 → tzS → Prop) =>
        (x2 ≤ x5_6 →
          tz_bool x4_5 ∧ Q x4_5 σ_4) ∧
        (¬ x2 ≤ x5_6 →
          (x4_5 = 0 →
            tz_bool x4_5 ∧ Q x4_5 σ_4) ∧
          (¬ x4_5 = 0 →
            vp_in x1 110 ∧ (
              vp_in ((σ_4.1 136 x1.toNatClampNeg) + x5_6) 200 ∧ (
                vp_in ((σ_4.1 140 x3.toNatClampNeg) + x5_6) 200 ∧ (
                  (¬ (σ_4.1 134 ((σ_4.1 136 x1.toNatClampNeg) + x5_6).toNatClampNeg) = (σ_4.1 134 ((σ_4.1 140 x3.toNatClampNeg) + x5_6).toNatClampNeg) →
                    ∀ x5_13 : Int32, x5_13 = x5_6 + 1 →
                    ag_3 0 x5_13 σ_4) ∧
                  ((σ_4.1 134 ((σ_4.1 136 x1.toNatClampNeg) + x5_6).toNatClampNeg) = (σ_4.1 134 ((σ_4.1 140 x3.toNatClampNeg) + x5_6).toNatClampNeg) →
                    ∀ x5_14 : Int32, x5_14 = x5_6 + 1 →
                    ag_3 1 x5_14 σ_4))))))) (0 : Int32) (0 : Int32) σ) ∧
    ((σ.1 141 x3.toNatClampNeg) = x2 →
      tz_loop2 (fun (x4_17 : Int32) (x5_18 : Int32) (σ_16 : tzS) (ag_15 : Int32 → Int32 → tzS → Prop) =>
        (x2 ≤ x5_18 →
          tz_bool x4_17 ∧ Q x4_17 σ_16) ∧
        (¬ x2 ≤ x5_18 →
          (x4_17 = 0 →
            tz_bool x4_17 ∧ Q x4_17 σ_16) ∧
          (¬ x4_17 = 0 →
            vp_in x1 110 ∧ (
              vp_in ((σ_16.1 136 x1.toNatClampNeg) + x5_18) 200 ∧ (
                vp_in ((σ_16.1 140 x3.toNatClampNeg) + x5_18) 200 ∧ (
                  (¬ (σ_16.1 134 ((σ_16.1 136 x1.toNatClampNeg) + x5_18).toNatClampNeg) = (σ_16.1 134 ((σ_16.1 140 x3.toNatClampNeg) + x5_18).toNatClampNeg) →
                    ∀ x5_25 : Int32, x5_25 = x5_18 + 1 →
                    ag_15 0 x5_25 σ_16) ∧
                  ((σ_16.1 134 ((σ_16.1 136 x1.toNatClampNeg) + x5_18).toNatClampNeg) = (σ_16.1 134 ((σ_16.1 140 x3.toNatClampNeg) + x5_18).toNatClampNeg) →
                    ∀ x5_26 : Int32, x5_26 = x5_18 + 1 →
                    ag_15 1 x5_26 σ_16))))))) (1 : Int32) (0 : Int32) σ))
set_option maxRecDepth 20000 in
set_option maxHeartbeats 4000000 in
theorem m_X10_isLike (G : tzG) (hG : tz_ok G) {x1 : Int32} {x2 : Int32} {x3 : Int32}  {σ : tzS} {Q : Int32 → tzS → Prop} (h : vc_X10_isLike x1 x2 x3 σ Q) : tz_M G yX10_isLike cX10_isLike 6 (some .boolean) 0 0 [.ref 133, .int x1, .int x2, .int x3] σ (tz_Qi G Q) := by
  unfold vc_X10_isLike at h
  refine tz_startz hG RX10 [(0, .ref _), (1, .int x1), (2, .int x2), (3, .int x3)] (by decide) rfl (Nat.le_of_ble_eq_true rfl) rfl (fun E C hret => ?_)
  refine tz_aload_n 0 0 C dX10_isLike_0 rfl rfl ?_
  refine tz_getR C dX10_isLike_1 fl_RX10_31 (by decide) rfl rfl ?_
  refine tz_iload_n 3 3 C dX10_isLike_4 rfl rfl ?_
  obtain ⟨hin_1, h⟩ := h
  refine tz_iald C dX10_isLike_5 (by decide) rfl hin_1 ?_
  refine tz_iload_n 2 2 C dX10_isLike_6 rfl rfl ?_
  refine tz_icmp_ne 14 C dX10_isLike_7 (by decide) h (fun c_2 h => ?_) (fun c_2 h => ?_)
  · refine tz_iconst 0 (by decide) C dX10_isLike_14 ?_
    refine tz_istore_k [(0, .ref _), (1, .int x1), (2, .int x2), (3, .int x3)] C dX10_isLike_15 (Nat.le_of_ble_eq_true rfl) rfl ?_
    refine tz_iconst 0 (by decide) C dX10_isLike_17 ?_
    refine tz_istore_k [(4, .int 0), (0, .ref _), (1, .int x1), (2, .int x2), (3, .int x3)] C dX10_isLike_18 (Nat.le_of_ble_eq_true rfl) rfl ?_
    refine tz_sub (L := [(0, .ref _), (1, .int x1), (2, .int x2), (3, .int x3), (4, .int 0), (5, .int 0)]) ?_ [2, 3, 4, 5, 1, 0] rfl
    refine tz_loop2_w (V := fun (x4_5 : Int32) (x5_6 : Int32) (σ_4 : tzS) => tz_V G E 20 [(0, .ref _), (1, .int x1), (2, .int x2), (3, .int x3), (4, .int x4_5), (5, .int x5_6)] [] σ_4) h (fun ag_3 ihag_3 x4_5 x5_6 σ_4 h => ?_)
    refine tz_iload 5 C dX10_isLike_20 rfl ?_
    refine tz_iload_n 2 2 C dX10_isLike_22 rfl rfl ?_
    refine tz_icmp_ge 75 C dX10_isLike_23 (by decide) h (fun c_7 h => ?_) (fun c_7 h => ?_)
    · refine tz_iload 4 C dX10_isLike_75 rfl ?_
      exact hret _ _ _ _ dX10_isLike_77 (tz_narz h.1) h.2
    · refine tz_iload 4 C dX10_isLike_26 rfl ?_
      refine tz_if_eq 75 C dX10_isLike_28 (by decide) h (fun c_8 h => ?_) (fun c_8 h => ?_)
      · refine tz_iload 4 C dX10_isLike_75 rfl ?_
        exact hret _ _ _ _ dX10_isLike_77 (tz_narz h.1) h.2
      · refine tz_aload_n 0 0 C dX10_isLike_31 rfl rfl ?_
        refine tz_getR C dX10_isLike_32 fl_RX10_7 (by decide) rfl rfl ?_
        refine tz_aload_n 0 0 C dX10_isLike_35 rfl rfl ?_
        refine tz_getR C dX10_isLike_36 fl_RX10_16 (by decide) rfl rfl ?_
        refine tz_iload_n 1 1 C dX10_isLike_39 rfl rfl ?_
        obtain ⟨hin_9, h⟩ := h
        refine tz_iald C dX10_isLike_40 (by decide) rfl hin_9 ?_
        refine tz_iload 5 C dX10_isLike_41 rfl ?_
        refine tz_iadd C dX10_isLike_43 ?_
        obtain ⟨hin_10, h⟩ := h
        refine tz_iald C dX10_isLike_44 (by decide) rfl hin_10 ?_
        refine tz_aload_n 0 0 C dX10_isLike_45 rfl rfl ?_
        refine tz_getR C dX10_isLike_46 fl_RX10_7 (by decide) rfl rfl ?_
        refine tz_aload_n 0 0 C dX10_isLike_49 rfl rfl ?_
        refine tz_getR C dX10_isLike_50 fl_RX10_28 (by decide) rfl rfl ?_
        refine tz_iload_n 3 3 C dX10_isLike_53 rfl rfl ?_
        refine tz_iald C dX10_isLike_54 (by decide) rfl hin_1 ?_
        refine tz_iload 5 C dX10_isLike_55 rfl ?_
        refine tz_iadd C dX10_isLike_57 ?_
        obtain ⟨hin_11, h⟩ := h
        refine tz_iald C dX10_isLike_58 (by decide) rfl hin_11 ?_
        refine tz_icmp_ne 66 C dX10_isLike_59 (by decide) h (fun c_12 h => ?_) (fun c_12 h => ?_)
        · refine tz_iconst 0 (by decide) C dX10_isLike_66 ?_
          refine tz_istore_k [(0, .ref _), (1, .int x1), (2, .int x2), (3, .int x3), (5, .int x5_6)] C dX10_isLike_67 (Nat.le_of_ble_eq_true rfl) rfl ?_
          refine tz_iinc 5 [(4, .int 0), (0, .ref _), (1, .int x1), (2, .int x2), (3, .int x3)] 1 C dX10_isLike_69 (by decide) rfl (Nat.le_of_ble_eq_true rfl) rfl h (fun x5_13 h => ?_)
          refine tz_goto 20 C dX10_isLike_72 (by decide) ?_
          exact tz_sub (ihag_3 _ _ _ h) [2, 3, 4, 5, 1, 0] rfl
        · refine tz_iconst 1 (by decide) C dX10_isLike_62 ?_
          refine tz_goto 67 C dX10_isLike_63 (by decide) ?_
          refine tz_istore_k [(0, .ref _), (1, .int x1), (2, .int x2), (3, .int x3), (5, .int x5_6)] C dX10_isLike_67 (Nat.le_of_ble_eq_true rfl) rfl ?_
          refine tz_iinc 5 [(4, .int 1), (0, .ref _), (1, .int x1), (2, .int x2), (3, .int x3)] 1 C dX10_isLike_69 (by decide) rfl (Nat.le_of_ble_eq_true rfl) rfl h (fun x5_14 h => ?_)
          refine tz_goto 20 C dX10_isLike_72 (by decide) ?_
          exact tz_sub (ihag_3 _ _ _ h) [2, 3, 4, 5, 1, 0] rfl
  · refine tz_iconst 1 (by decide) C dX10_isLike_10 ?_
    refine tz_goto 15 C dX10_isLike_11 (by decide) ?_
    refine tz_istore_k [(0, .ref _), (1, .int x1), (2, .int x2), (3, .int x3)] C dX10_isLike_15 (Nat.le_of_ble_eq_true rfl) rfl ?_
    refine tz_iconst 0 (by decide) C dX10_isLike_17 ?_
    refine tz_istore_k [(4, .int 1), (0, .ref _), (1, .int x1), (2, .int x2), (3, .int x3)] C dX10_isLike_18 (Nat.le_of_ble_eq_true rfl) rfl ?_
    refine tz_sub (L := [(0, .ref _), (1, .int x1), (2, .int x2), (3, .int x3), (4, .int 1), (5, .int 0)]) ?_ [2, 3, 4, 5, 1, 0] rfl
    refine tz_loop2_w (V := fun (x4_17 : Int32) (x5_18 : Int32) (σ_16 : tzS) => tz_V G E 20 [(0, .ref _), (1, .int x1), (2, .int x2), (3, .int x3), (4, .int x4_17), (5, .int x5_18)] [] σ_16) h (fun ag_15 ihag_15 x4_17 x5_18 σ_16 h => ?_)
    refine tz_iload 5 C dX10_isLike_20 rfl ?_
    refine tz_iload_n 2 2 C dX10_isLike_22 rfl rfl ?_
    refine tz_icmp_ge 75 C dX10_isLike_23 (by decide) h (fun c_19 h => ?_) (fun c_19 h => ?_)
    · refine tz_iload 4 C dX10_isLike_75 rfl ?_
      exact hret _ _ _ _ dX10_isLike_77 (tz_narz h.1) h.2
    · refine tz_iload 4 C dX10_isLike_26 rfl ?_
      refine tz_if_eq 75 C dX10_isLike_28 (by decide) h (fun c_20 h => ?_) (fun c_20 h => ?_)
      · refine tz_iload 4 C dX10_isLike_75 rfl ?_
        exact hret _ _ _ _ dX10_isLike_77 (tz_narz h.1) h.2
      · refine tz_aload_n 0 0 C dX10_isLike_31 rfl rfl ?_
        refine tz_getR C dX10_isLike_32 fl_RX10_7 (by decide) rfl rfl ?_
        refine tz_aload_n 0 0 C dX10_isLike_35 rfl rfl ?_
        refine tz_getR C dX10_isLike_36 fl_RX10_16 (by decide) rfl rfl ?_
        refine tz_iload_n 1 1 C dX10_isLike_39 rfl rfl ?_
        obtain ⟨hin_21, h⟩ := h
        refine tz_iald C dX10_isLike_40 (by decide) rfl hin_21 ?_
        refine tz_iload 5 C dX10_isLike_41 rfl ?_
        refine tz_iadd C dX10_isLike_43 ?_
        obtain ⟨hin_22, h⟩ := h
        refine tz_iald C dX10_isLike_44 (by decide) rfl hin_22 ?_
        refine tz_aload_n 0 0 C dX10_isLike_45 rfl rfl ?_
        refine tz_getR C dX10_isLike_46 fl_RX10_7 (by decide) rfl rfl ?_
        refine tz_aload_n 0 0 C dX10_isLike_49 rfl rfl ?_
        refine tz_getR C dX10_isLike_50 fl_RX10_28 (by decide) rfl rfl ?_
        refine tz_iload_n 3 3 C dX10_isLike_53 rfl rfl ?_
        refine tz_iald C dX10_isLike_54 (by decide) rfl hin_1 ?_
        refine tz_iload 5 C dX10_isLike_55 rfl ?_
        refine tz_iadd C dX10_isLike_57 ?_
        obtain ⟨hin_23, h⟩ := h
        refine tz_iald C dX10_isLike_58 (by decide) rfl hin_23 ?_
        refine tz_icmp_ne 66 C dX10_isLike_59 (by decide) h (fun c_24 h => ?_) (fun c_24 h => ?_)
        · refine tz_iconst 0 (by decide) C dX10_isLike_66 ?_
          refine tz_istore_k [(0, .ref _), (1, .int x1), (2, .int x2), (3, .int x3), (5, .int x5_18)] C dX10_isLike_67 (Nat.le_of_ble_eq_true rfl) rfl ?_
          refine tz_iinc 5 [(4, .int 0), (0, .ref _), (1, .int x1), (2, .int x2), (3, .int x3)] 1 C dX10_isLike_69 (by decide) rfl (Nat.le_of_ble_eq_true rfl) rfl h (fun x5_25 h => ?_)
          refine tz_goto 20 C dX10_isLike_72 (by decide) ?_
          exact tz_sub (ihag_15 _ _ _ h) [2, 3, 4, 5, 1, 0] rfl
        · refine tz_iconst 1 (by decide) C dX10_isLike_62 ?_
          refine tz_goto 67 C dX10_isLike_63 (by decide) ?_
          refine tz_istore_k [(0, .ref _), (1, .int x1), (2, .int x2), (3, .int x3), (5, .int x5_18)] C dX10_isLike_67 (Nat.le_of_ble_eq_true rfl) rfl ?_
          refine tz_iinc 5 [(4, .int 1), (0, .ref _), (1, .int x1), (2, .int x2), (3, .int x3)] 1 C dX10_isLike_69 (by decide) rfl (Nat.le_of_ble_eq_true rfl) rfl h (fun x5_26 h => ?_)
          refine tz_goto 20 C dX10_isLike_72 (by decide) ?_
          exact tz_sub (ihag_15 _ _ _ h) [2, 3, 4, 5, 1, 0] rfl

def vc_X10_reads  (σ : tzS) (Q : tzS → Prop) : Prop :=
  vc_X10_readsText  σ (fun (σ_1 : tzS) =>
    ((σ_1.1 133 4) = (-1) →
      ∀ σ_3 : tzS, σ_3 = tz_st σ_1 133 9 0 →
      tz_loop1 (fun (x1_6 : Int32) (σ_5 : tzS) (ag_4 : Int32 → tzS → Prop) =>
        ((1320 : Int32) ≤ x1_6 →
          tz_loop1 (fun (x1_10 : Int32) (σ_9 : tzS) (ag_8 : Int32 → tzS → Prop) =>
            ((σ_9.1 133 8) ≤ x1_10 →
              vp_in (σ_9.1 133 7) 14 ∧ (
                ∀ σ_12 : tzS, σ_12 = tz_st σ_9 142 (σ_9.1 133 7).toNatClampNeg (σ_9.1 133 8) →
                ∀ σ_14 : tzS, σ_14 = tz_st σ_12 133 18 (-1) →
                Q σ_14)) ∧
            (¬ (σ_9.1 133 8) ≤ x1_10 →
              vc_X10_longOf x1_10 σ_9 (fun (r_16 : Int32) (σ_15 : tzS) =>
                tz_loop1 (fun (x3_19 : Int32) (σ_18 : tzS) (ag_17 : Int32 → tzS → Prop) =>
                  ((σ_18.1 133 9) ≤ x3_19 →
                    (¬ x3_19 = (σ_18.1 133 9) →
                      vp_in x1_10 110 ∧ (
                        ∀ σ_22 : tzS, σ_22 = tz_st σ_18 139 x1_10.toNatClampNeg x3_19 →
                        vp_in ((110 * (σ_22.1 138 x1_10.toNatClampNeg)) + x3_19) 1320 ∧ (
                          ∀ σ_25 : tzS, σ_25 = tz_st σ_22 143 ((110 * (σ_22.1 138 x1_10.toNatClampNeg)) + x3_19).toNatClampNeg ((σ_22.1 143 ((110 * (σ_22.1 138 x1_10.toNatClampNeg)) + x3_19).toNatClampNeg) + 1) →
                          ∀ x1_26 : Int32, x1_26 = x1_10 + 1 →
                          ag_8 x1_26 σ_25))) ∧
                    (x3_19 = (σ_18.1 133 9) →
                      vp_in x1_10 110 ∧ (
                        vp_in (σ_18.1 133 9) 110 ∧ (
                          ∀ σ_28 : tzS, σ_28 = tz_st σ_18 140 (σ_18.1 133 9).toNatClampNeg (σ_18.1 136 x1_10.toNatClampNeg) →
                          vp_in (σ_28.1 133 9) 110 ∧ (
                            ∀ σ_30 : tzS, σ_30 = tz_st σ_28 141 (σ_28.1 133 9).toNatClampNeg r_16 →
                            ∀ σ_32 : tzS, σ_32 = tz_st σ_30 133 9 ((σ_30.1 133 9) + 1) →
                            ∀ σ_33 : tzS, σ_33 = tz_st σ_32 139 x1_10.toNatClampNeg x3_19 →
                            vp_in ((110 * (σ_33.1 138 x1_10.toNatClampNeg)) + x3_19) 1320 ∧ (
                              ∀ σ_35 : tzS, σ_35 = tz_st σ_33 143 ((110 * (σ_33.1 138 x1_10.toNatClampNeg)) + x3_19).toNatClampNeg ((σ_33.1 143 ((110 * (σ_33.1 138 x1_10.toNatClampNeg)) + x3_19).toNatClampNeg) + 1) →
                              ∀ x1_36 : Int32, x1_36 = x1_10 + 1 →
                              ag_8 x1_36 σ_35)))))) ∧
                  (¬ (σ_18.1 133 9) ≤ x3_19 →
                    vc_X10_isLike x1_10 r_16 x3_19 σ_18 (fun (r_38 : Int32) (σ_37 : tzS) =>
                      (¬ r_38 = 0 →
                        (¬ x3_19 = (σ_37.1 133 9) →
                          vp_in x1_10 110 ∧ (
                            ∀ σ_41 : tzS, σ_41 = tz_st σ_37 139 x1_10.toNatClampNeg x3_19 →
                            vp_in ((110 * (σ_41.1 138 x1_10.toNatClampNeg)) + x3_19) 1320 ∧ (
                              ∀ σ_44 : tzS, σ_44 = tz_st σ_41 143 ((110 * (σ_41.1 138 x1_10.toNatClampNeg)) + x3_19).toNatClampNeg ((σ_41.1 143 ((110 * (σ_41.1 138 x1_10.toNatClampNeg)) + x3_19).toNatClampNeg) + 1) →
                              ∀ x1_45 : Int32, x1_45 = x1_10 + 1 →
                              ag_8 x1_45 σ_44))) ∧
                        (x3_19 = (σ_37.1 133 9) →
                          vp_in x1_10 110 ∧ (
                            vp_in (σ_37.1 133 9) 110 ∧ (
                              ∀ σ_47 : tzS, σ_47 = tz_st σ_37 140 (σ_37.1 133 9).toNatClampNeg (σ_37.1 136 x1_10.toNatClampNeg) →
                              vp_in (σ_47.1 133 9) 110 ∧ (
                                ∀ σ_49 : tzS, σ_49 = tz_st σ_47 141 (σ_47.1 133 9).toNatClampNeg r_16 →
                                ∀ σ_51 : tzS, σ_51 = tz_st σ_49 133 9 ((σ_49.1 133 9) + 1) →
                                ∀ σ_52 : tzS, σ_52 = tz_st σ_51 139 x1_10.toNatClampNeg x3_19 →
                                vp_in ((110 * (σ_52.1 138 x1_10.toNatClampNeg)) + x3_19) 1320 ∧ (
                                  ∀ σ_54 : tzS, σ_54 = tz_st σ_52 143 ((110 * (σ_52.1 138 x1_10.toNatClampNeg)) + x3_19).toNatClampNeg ((σ_52.1 143 ((110 * (σ_52.1 138 x1_10.toNatClampNeg)) + x3_19).toNatClampNeg) + 1) →
                                  ∀ x1_55 : Int32, x1_55 = x1_10 + 1 →
                                  ag_8 x1_55 σ_54)))))) ∧
                      (r_38 = 0 →
                        ∀ x3_56 : Int32, x3_56 = x3_19 + 1 →
                        ag_17 x3_56 σ_37)))) (0 : Int32) σ_15))) (0 : Int32) σ_5) ∧
        (¬ (1320 : Int32) ≤ x1_6 →
          vp_in x1_6 1320 ∧ (
            ∀ σ_57 : tzS, σ_57 = tz_st σ_5 143 x1_6.toNatClampNeg 0 →
            ∀ x1_59 : Int32, x1_59 = x1_6 + 1 →
            ag_4 x1_59 σ_57))) (0 : Int32) σ_3) ∧
    (¬ (σ_1.1 133 4) = (-1) →
      ∀ σ_60 : tzS, σ_60 = tz_st σ_1 133 7 0 →
      ∀ σ_61 : tzS, σ_61 = tz_st σ_60 133 8 0 →
      ∀ σ_62 : tzS, σ_62 = tz_st σ_61 133 9 0 →
      tz_loop1 (fun (x1_65 : Int32) (σ_64 : tzS) (ag_63 : Int32 → tzS → Prop) =>
        ((1320 : Int32) ≤ x1_65 →
          tz_loop1 (fun (x1_69 : Int32) (σ_68 : tzS) (ag_67 : Int32 → tzS → Prop) =>
            ((σ_68.1 133 8) ≤ x1_69 →
              vp_in (σ_68.1 133 7) 14 ∧ (
                ∀ σ_71 : tzS, σ_71 = tz_st σ_68 142 (σ_68.1 133 7).toNatClampNeg (σ_68.1 133 8) →
                ∀ σ_73 : tzS, σ_73 = tz_st σ_71 133 18 (-1) →
                Q σ_73)) ∧
            (¬ (σ_68.1 133 8) ≤ x1_69 →
              vc_X10_longOf x1_69 σ_68 (fun (r_75 : Int32) (σ_74 : tzS) =>
                tz_loop1 (fun (x3_78 : Int32) (σ_77 : tzS) (ag_76 : Int32 → tzS → Prop) =>
                  ((σ_77.1 133 9) ≤ x3_78 →
                    (¬ x3_78 = (σ_77.1 133 9) →
                      vp_in x1_69 110 ∧ (
                        ∀ σ_81 : tzS, σ_81 = tz_st σ_77 139 x1_69.toNatClampNeg x3_78 →
                        vp_in ((110 * (σ_81.1 138 x1_69.toNatClampNeg)) + x3_78) 1320 ∧ (
                          ∀ σ_84 : tzS, σ_84 = tz_st σ_81 143 ((110 * (σ_81.1 138 x1_69.toNatClampNeg)) + x3_78).toNatClampNeg ((σ_81.1 143 ((110 * (σ_81.1 138 x1_69.toNatClampNeg)) + x3_78).toNatClampNeg) + 1) →
                          ∀ x1_85 : Int32, x1_85 = x1_69 + 1 →
                          ag_67 x1_85 σ_84))) ∧
                    (x3_78 = (σ_77.1 133 9) →
                      vp_in x1_69 110 ∧ (
                        vp_in (σ_77.1 133 9) 110 ∧ (
                          ∀ σ_87 : tzS, σ_87 = tz_st σ_77 140 (σ_77.1 133 9).toNatClampNeg (σ_77.1 136 x1_69.toNatClampNeg) →
                          vp_in (σ_87.1 133 9) 110 ∧ (
                            ∀ σ_89 : tzS, σ_89 = tz_st σ_87 141 (σ_87.1 133 9).toNatClampNeg r_75 →
                            ∀ σ_91 : tzS, σ_91 = tz_st σ_89 133 9 ((σ_89.1 133 9) + 1) →
                            ∀ σ_92 : tzS, σ_92 = tz_st σ_91 139 x1_69.toNatClampNeg x3_78 →
                            vp_in ((110 * (σ_92.1 138 x1_69.toNatClampNeg)) + x3_78) 1320 ∧ (
                              ∀ σ_94 : tzS, σ_94 = tz_st σ_92 143 ((110 * (σ_92.1 138 x1_69.toNatClampNeg)) + x3_78).toNatClampNeg ((σ_92.1 143 ((110 * (σ_92.1 138 x1_69.toNatClampNeg)) + x3_78).toNatClampNeg) + 1) →
                              ∀ x1_95 : Int32, x1_95 = x1_69 + 1 →
                              ag_67 x1_95 σ_94)))))) ∧
                  (¬ (σ_77.1 133 9) ≤ x3_78 →
                    vc_X10_isLike x1_69 r_75 x3_78 σ_77 (fun (r_97 : Int32) (σ_96 : tzS) =>
                      (¬ r_97 = 0 →
                        (¬ x3_78 = (σ_96.1 133 9) →
                          vp_in x1_69 110 ∧ (
                            ∀ σ_100 : tzS, σ_100 = tz_st σ_96 139 x1_69.toNatClampNeg x3_78 →
                            vp_in ((110 * (σ_100.1 138 x1_69.toNatClampNeg)) + x3_78) 1320 ∧ (
                              ∀ σ_103 : tzS, σ_103 = tz_st σ_100 143 ((110 * (σ_100.1 138 x1_69.toNatClampNeg)) + x3_78).toNatClampNeg ((σ_100.1 143 ((110 * (σ_100.1 138 x1_69.toNatClampNeg)) + x3_78).toNatClampNeg) + 1) →
                              ∀ x1_104 : Int32, x1_104 = x1_69 + 1 →
                              ag_67 x1_104 σ_103))) ∧
                        (x3_78 = (σ_96.1 133 9) →
                          vp_in x1_69 110 ∧ (
                            vp_in (σ_96.1 133 9) 110 ∧ (
                              ∀ σ_106 : tzS, σ_106 = tz_st σ_96 140 (σ_96.1 133 9).toNatClampNeg (σ_96.1 136 x1_69.toNatClampNeg) →
                              vp_in (σ_106.1 133 9) 110 ∧ (
                                ∀ σ_108 : tzS, σ_108 = tz_st σ_106 141 (σ_106.1 133 9).toNatClampNeg r_75 →
                                ∀ σ_110 : tzS, σ_110 = tz_st σ_108 133 9 ((σ_108.1 133 9) + 1) →
                                ∀ σ_111 : tzS, σ_111 = tz_st σ_110 139 x1_69.toNatClampNeg x3_78 →
                                vp_in ((110 * (σ_111.1 138 x1_69.toNatClampNeg)) + x3_78) 1320 ∧ (
                                  ∀ σ_113 : tzS, σ_113 = tz_st σ_111 143 ((110 * (σ_111.1 138 x1_69.toNatClampNeg)) + x3_78).toNatClampNeg ((σ_111.1 143 ((110 * (σ_111.1 138 x1_69.toNatClampNeg)) + x3_78).toNatClampNeg) + 1) →
                                  ∀ x1_114 : Int32, x1_114 = x1_69 + 1 →
                                  ag_67 x1_114 σ_113)))))) ∧
                      (r_97 = 0 →
                        ∀ x3_115 : Int32, x3_115 = x3_78 + 1 →
                        ag_76 x3_115 σ_96)))) (0 : Int32) σ_74))) (0 : Int32) σ_64) ∧
        (¬ (1320 : Int32) ≤ x1_65 →
          vp_in x1_65 1320 ∧ (
            ∀ σ_116 : tzS, σ_116 = tz_st σ_64 143 x1_65.toNatClampNeg 0 →
            ∀ x1_118 : Int32, x1_118 = x1_65 + 1 →
            ag_63 x1_118 σ_116))) (0 : Int32) σ_62))
set_option maxRecDepth 20000 in
set_option maxHeartbeats 4000000 in
theorem m_X10_reads (G : tzG) (hG : tz_ok G)   {σ : tzS} {Q : tzS → Prop} (h : vc_X10_reads  σ Q) : tz_M G yX10_reads cX10_reads 4 (none) 3 72 [.ref 133] σ (tz_Qv G Q) := by
  unfold vc_X10_reads at h
  refine tz_startv hG RX10 [(0, .ref _)] (by decide) rfl (Nat.le_of_ble_eq_true rfl) rfl (fun E C hret => ?_)
  refine tz_aload_n 0 0 C dX10_reads_0 rfl rfl ?_
  refine tz_callvv C dX10_reads_1 lk_RX10_132 (m_X10_readsText G hG  h) (by decide) rfl rfl rfl rfl ⟨Nat.le_of_ble_eq_true rfl, Nat.le_of_ble_eq_true rfl⟩ (Nat.le_of_ble_eq_true rfl) rfl (fun σ_1 h => ?_)
  refine tz_aload_n 0 0 C dX10_reads_4 rfl rfl ?_
  refine tz_getI C dX10_reads_5 fl_RX10_103 (by decide) rfl rfl ?_
  refine tz_iconst (-1) (by decide) C dX10_reads_8 ?_
  refine tz_icmp_eq 22 C dX10_reads_9 (by decide) h (fun c_2 h => ?_) (fun c_2 h => ?_)
  · refine tz_aload_n 0 0 C dX10_reads_22 rfl rfl ?_
    refine tz_iconst 0 (by decide) C dX10_reads_23 ?_
    refine tz_put C dX10_reads_24 fp_RX10_135 (by decide) rfl rfl rfl rfl h (fun σ_3 h => ?_)
    refine tz_iconst 0 (by decide) C dX10_reads_27 ?_
    refine tz_istore_n_k 1 [(0, .ref _)] C dX10_reads_28 rfl (Nat.le_of_ble_eq_true rfl) rfl ?_
    refine tz_sub (L := [(0, .ref _), (1, .int 0)]) ?_ [1, 0] rfl
    refine tz_loop1_w (V := fun (x1_6 : Int32) (σ_5 : tzS) => tz_V G E 29 [(0, .ref _), (1, .int x1_6)] [] σ_5) h (fun ag_4 ihag_4 x1_6 σ_5 h => ?_)
    refine tz_iload_n 1 1 C dX10_reads_29 rfl rfl ?_
    refine tz_sipush 1320 (by decide) C dX10_reads_30 ?_
    refine tz_icmp_ge 49 C dX10_reads_33 (by decide) h (fun c_7 h => ?_) (fun c_7 h => ?_)
    · refine tz_iconst 0 (by decide) C dX10_reads_49 ?_
      refine tz_istore_n_k 1 [(0, .ref _)] C dX10_reads_50 rfl (Nat.le_of_ble_eq_true rfl) rfl ?_
      refine tz_sub (L := [(0, .ref _), (1, .int 0)]) ?_ [1, 0] rfl
      refine tz_loop1_w (V := fun (x1_10 : Int32) (σ_9 : tzS) => tz_V G E 51 [(0, .ref _), (1, .int x1_10)] [] σ_9) h (fun ag_8 ihag_8 x1_10 σ_9 h => ?_)
      refine tz_iload_n 1 1 C dX10_reads_51 rfl rfl ?_
      refine tz_aload_n 0 0 C dX10_reads_52 rfl rfl ?_
      refine tz_getI C dX10_reads_53 fl_RX10_115 (by decide) rfl rfl ?_
      refine tz_icmp_ge 167 C dX10_reads_56 (by decide) h (fun c_11 h => ?_) (fun c_11 h => ?_)
      · refine tz_aload_n 0 0 C dX10_reads_167 rfl rfl ?_
        refine tz_getR C dX10_reads_168 fl_RX10_34 (by decide) rfl rfl ?_
        refine tz_aload_n 0 0 C dX10_reads_171 rfl rfl ?_
        refine tz_getI C dX10_reads_172 fl_RX10_109 (by decide) rfl rfl ?_
        refine tz_aload_n 0 0 C dX10_reads_175 rfl rfl ?_
        refine tz_getI C dX10_reads_176 fl_RX10_115 (by decide) rfl rfl ?_
        have hin_13 := h.1
        refine tz_iast C dX10_reads_179 (by decide) rfl h (fun σ_12 h => ?_)
        refine tz_aload_n 0 0 C dX10_reads_180 rfl rfl ?_
        refine tz_iconst (-1) (by decide) C dX10_reads_181 ?_
        refine tz_put C dX10_reads_182 fp_RX10_144 (by decide) rfl rfl rfl rfl h (fun σ_14 h => ?_)
        exact hret _ _ _ dX10_reads_185 h
      · refine tz_aload_n 0 0 C dX10_reads_59 rfl rfl ?_
        refine tz_iload_n 1 1 C dX10_reads_60 rfl rfl ?_
        refine tz_calliv C dX10_reads_61 lk_RX10_138 (m_X10_longOf G hG  h) (by decide) rfl rfl rfl rfl ⟨Nat.le_of_ble_eq_true rfl, Nat.le_of_ble_eq_true rfl⟩ (Nat.le_of_ble_eq_true rfl) rfl (fun r_16 σ_15 h => ?_)
        refine tz_istore_n_k 2 [(0, .ref _), (1, .int x1_10)] C dX10_reads_64 rfl (Nat.le_of_ble_eq_true rfl) rfl ?_
        refine tz_iconst 0 (by decide) C dX10_reads_65 ?_
        refine tz_istore_n_k 3 [(2, .int r_16), (0, .ref _), (1, .int x1_10)] C dX10_reads_66 rfl (Nat.le_of_ble_eq_true rfl) rfl ?_
        refine tz_sub (L := [(0, .ref _), (1, .int x1_10), (2, .int r_16), (3, .int 0)]) ?_ [2, 3, 1, 0] rfl
        refine tz_loop1_w (V := fun (x3_19 : Int32) (σ_18 : tzS) => tz_V G E 67 [(0, .ref _), (1, .int x1_10), (2, .int r_16), (3, .int x3_19)] [] σ_18) h (fun ag_17 ihag_17 x3_19 σ_18 h => ?_)
        refine tz_iload_n 3 3 C dX10_reads_67 rfl rfl ?_
        refine tz_aload_n 0 0 C dX10_reads_68 rfl rfl ?_
        refine tz_getI C dX10_reads_69 fl_RX10_135 (by decide) rfl rfl ?_
        refine tz_icmp_ge 91 C dX10_reads_72 (by decide) h (fun c_20 h => ?_) (fun c_20 h => ?_)
        · refine tz_iload_n 3 3 C dX10_reads_91 rfl rfl ?_
          refine tz_aload_n 0 0 C dX10_reads_92 rfl rfl ?_
          refine tz_getI C dX10_reads_93 fl_RX10_135 (by decide) rfl rfl ?_
          refine tz_icmp_ne 134 C dX10_reads_96 (by decide) h (fun c_21 h => ?_) (fun c_21 h => ?_)
          · refine tz_aload_n 0 0 C dX10_reads_134 rfl rfl ?_
            refine tz_getR C dX10_reads_135 fl_RX10_25 (by decide) rfl rfl ?_
            refine tz_iload_n 1 1 C dX10_reads_138 rfl rfl ?_
            refine tz_iload_n 3 3 C dX10_reads_139 rfl rfl ?_
            have hin_23 := h.1
            refine tz_iast C dX10_reads_140 (by decide) rfl h (fun σ_22 h => ?_)
            refine tz_aload_n 0 0 C dX10_reads_141 rfl rfl ?_
            refine tz_getR C dX10_reads_142 fl_RX10_37 (by decide) rfl rfl ?_
            refine tz_bipush 110 (by decide) C dX10_reads_145 ?_
            refine tz_aload_n 0 0 C dX10_reads_147 rfl rfl ?_
            refine tz_getR C dX10_reads_148 fl_RX10_22 (by decide) rfl rfl ?_
            refine tz_iload_n 1 1 C dX10_reads_151 rfl rfl ?_
            refine tz_iald C dX10_reads_152 (by decide) rfl hin_23 ?_
            refine tz_imul C dX10_reads_153 ?_
            refine tz_iload_n 3 3 C dX10_reads_154 rfl rfl ?_
            refine tz_iadd C dX10_reads_155 ?_
            refine tz_dup2 C dX10_reads_156 rfl rfl ?_
            obtain ⟨hin_24, h⟩ := h
            refine tz_iald C dX10_reads_157 (by decide) rfl hin_24 ?_
            refine tz_iconst 1 (by decide) C dX10_reads_158 ?_
            refine tz_iadd C dX10_reads_159 ?_
            refine tz_iast_c _ C dX10_reads_160 (by decide) rfl hin_24 rfl h (fun σ_25 h => ?_)
            refine tz_iinc 1 [(0, .ref _), (2, .int r_16), (3, .int x3_19)] 1 C dX10_reads_161 (by decide) rfl (Nat.le_of_ble_eq_true rfl) rfl h (fun x1_26 h => ?_)
            refine tz_goto 51 C dX10_reads_164 (by decide) ?_
            exact tz_sub (ihag_8 _ _ h) [1, 0] rfl
          · refine tz_aload_n 0 0 C dX10_reads_99 rfl rfl ?_
            refine tz_getR C dX10_reads_100 fl_RX10_28 (by decide) rfl rfl ?_
            refine tz_aload_n 0 0 C dX10_reads_103 rfl rfl ?_
            refine tz_getI C dX10_reads_104 fl_RX10_135 (by decide) rfl rfl ?_
            refine tz_aload_n 0 0 C dX10_reads_107 rfl rfl ?_
            refine tz_getR C dX10_reads_108 fl_RX10_16 (by decide) rfl rfl ?_
            refine tz_iload_n 1 1 C dX10_reads_111 rfl rfl ?_
            obtain ⟨hin_27, h⟩ := h
            refine tz_iald C dX10_reads_112 (by decide) rfl hin_27 ?_
            have hin_29 := h.1
            refine tz_iast C dX10_reads_113 (by decide) rfl h (fun σ_28 h => ?_)
            refine tz_aload_n 0 0 C dX10_reads_114 rfl rfl ?_
            refine tz_getR C dX10_reads_115 fl_RX10_31 (by decide) rfl rfl ?_
            refine tz_aload_n 0 0 C dX10_reads_118 rfl rfl ?_
            refine tz_getI C dX10_reads_119 fl_RX10_135 (by decide) rfl rfl ?_
            refine tz_iload_n 2 2 C dX10_reads_122 rfl rfl ?_
            have hin_31 := h.1
            refine tz_iast C dX10_reads_123 (by decide) rfl h (fun σ_30 h => ?_)
            refine tz_aload_n 0 0 C dX10_reads_124 rfl rfl ?_
            refine tz_dup C dX10_reads_125 rfl ?_
            refine tz_getI C dX10_reads_126 fl_RX10_135 (by decide) rfl rfl ?_
            refine tz_iconst 1 (by decide) C dX10_reads_129 ?_
            refine tz_iadd C dX10_reads_130 ?_
            refine tz_put C dX10_reads_131 fp_RX10_135 (by decide) rfl rfl rfl rfl h (fun σ_32 h => ?_)
            refine tz_aload_n 0 0 C dX10_reads_134 rfl rfl ?_
            refine tz_getR C dX10_reads_135 fl_RX10_25 (by decide) rfl rfl ?_
            refine tz_iload_n 1 1 C dX10_reads_138 rfl rfl ?_
            refine tz_iload_n 3 3 C dX10_reads_139 rfl rfl ?_
            refine tz_iast_c _ C dX10_reads_140 (by decide) rfl hin_27 rfl h (fun σ_33 h => ?_)
            refine tz_aload_n 0 0 C dX10_reads_141 rfl rfl ?_
            refine tz_getR C dX10_reads_142 fl_RX10_37 (by decide) rfl rfl ?_
            refine tz_bipush 110 (by decide) C dX10_reads_145 ?_
            refine tz_aload_n 0 0 C dX10_reads_147 rfl rfl ?_
            refine tz_getR C dX10_reads_148 fl_RX10_22 (by decide) rfl rfl ?_
            refine tz_iload_n 1 1 C dX10_reads_151 rfl rfl ?_
            refine tz_iald C dX10_reads_152 (by decide) rfl hin_27 ?_
            refine tz_imul C dX10_reads_153 ?_
            refine tz_iload_n 3 3 C dX10_reads_154 rfl rfl ?_
            refine tz_iadd C dX10_reads_155 ?_
            refine tz_dup2 C dX10_reads_156 rfl rfl ?_
            obtain ⟨hin_34, h⟩ := h
            refine tz_iald C dX10_reads_157 (by decide) rfl hin_34 ?_
            refine tz_iconst 1 (by decide) C dX10_reads_158 ?_
            refine tz_iadd C dX10_reads_159 ?_
            refine tz_iast_c _ C dX10_reads_160 (by decide) rfl hin_34 rfl h (fun σ_35 h => ?_)
            refine tz_iinc 1 [(0, .ref _), (2, .int r_16), (3, .int x3_19)] 1 C dX10_reads_161 (by decide) rfl (Nat.le_of_ble_eq_true rfl) rfl h (fun x1_36 h => ?_)
            refine tz_goto 51 C dX10_reads_164 (by decide) ?_
            exact tz_sub (ihag_8 _ _ h) [1, 0] rfl
        · refine tz_aload_n 0 0 C dX10_reads_75 rfl rfl ?_
          refine tz_iload_n 1 1 C dX10_reads_76 rfl rfl ?_
          refine tz_iload_n 2 2 C dX10_reads_77 rfl rfl ?_
          refine tz_iload_n 3 3 C dX10_reads_78 rfl rfl ?_
          refine tz_calliv C dX10_reads_79 lk_RX10_141 (m_X10_isLike G hG  h) (by decide) rfl rfl rfl rfl ⟨Nat.le_of_ble_eq_true rfl, Nat.le_of_ble_eq_true rfl⟩ (Nat.le_of_ble_eq_true rfl) rfl (fun r_38 σ_37 h => ?_)
          refine tz_if_ne 91 C dX10_reads_82 (by decide) h (fun c_39 h => ?_) (fun c_39 h => ?_)
          · refine tz_iload_n 3 3 C dX10_reads_91 rfl rfl ?_
            refine tz_aload_n 0 0 C dX10_reads_92 rfl rfl ?_
            refine tz_getI C dX10_reads_93 fl_RX10_135 (by decide) rfl rfl ?_
            refine tz_icmp_ne 134 C dX10_reads_96 (by decide) h (fun c_40 h => ?_) (fun c_40 h => ?_)
            · refine tz_aload_n 0 0 C dX10_reads_134 rfl rfl ?_
              refine tz_getR C dX10_reads_135 fl_RX10_25 (by decide) rfl rfl ?_
              refine tz_iload_n 1 1 C dX10_reads_138 rfl rfl ?_
              refine tz_iload_n 3 3 C dX10_reads_139 rfl rfl ?_
              have hin_42 := h.1
              refine tz_iast C dX10_reads_140 (by decide) rfl h (fun σ_41 h => ?_)
              refine tz_aload_n 0 0 C dX10_reads_141 rfl rfl ?_
              refine tz_getR C dX10_reads_142 fl_RX10_37 (by decide) rfl rfl ?_
              refine tz_bipush 110 (by decide) C dX10_reads_145 ?_
              refine tz_aload_n 0 0 C dX10_reads_147 rfl rfl ?_
              refine tz_getR C dX10_reads_148 fl_RX10_22 (by decide) rfl rfl ?_
              refine tz_iload_n 1 1 C dX10_reads_151 rfl rfl ?_
              refine tz_iald C dX10_reads_152 (by decide) rfl hin_42 ?_
              refine tz_imul C dX10_reads_153 ?_
              refine tz_iload_n 3 3 C dX10_reads_154 rfl rfl ?_
              refine tz_iadd C dX10_reads_155 ?_
              refine tz_dup2 C dX10_reads_156 rfl rfl ?_
              obtain ⟨hin_43, h⟩ := h
              refine tz_iald C dX10_reads_157 (by decide) rfl hin_43 ?_
              refine tz_iconst 1 (by decide) C dX10_reads_158 ?_
              refine tz_iadd C dX10_reads_159 ?_
              refine tz_iast_c _ C dX10_reads_160 (by decide) rfl hin_43 rfl h (fun σ_44 h => ?_)
              refine tz_iinc 1 [(0, .ref _), (2, .int r_16), (3, .int x3_19)] 1 C dX10_reads_161 (by decide) rfl (Nat.le_of_ble_eq_true rfl) rfl h (fun x1_45 h => ?_)
              refine tz_goto 51 C dX10_reads_164 (by decide) ?_
              exact tz_sub (ihag_8 _ _ h) [1, 0] rfl
            · refine tz_aload_n 0 0 C dX10_reads_99 rfl rfl ?_
              refine tz_getR C dX10_reads_100 fl_RX10_28 (by decide) rfl rfl ?_
              refine tz_aload_n 0 0 C dX10_reads_103 rfl rfl ?_
              refine tz_getI C dX10_reads_104 fl_RX10_135 (by decide) rfl rfl ?_
              refine tz_aload_n 0 0 C dX10_reads_107 rfl rfl ?_
              refine tz_getR C dX10_reads_108 fl_RX10_16 (by decide) rfl rfl ?_
              refine tz_iload_n 1 1 C dX10_reads_111 rfl rfl ?_
              obtain ⟨hin_46, h⟩ := h
              refine tz_iald C dX10_reads_112 (by decide) rfl hin_46 ?_
              have hin_48 := h.1
              refine tz_iast C dX10_reads_113 (by decide) rfl h (fun σ_47 h => ?_)
              refine tz_aload_n 0 0 C dX10_reads_114 rfl rfl ?_
              refine tz_getR C dX10_reads_115 fl_RX10_31 (by decide) rfl rfl ?_
              refine tz_aload_n 0 0 C dX10_reads_118 rfl rfl ?_
              refine tz_getI C dX10_reads_119 fl_RX10_135 (by decide) rfl rfl ?_
              refine tz_iload_n 2 2 C dX10_reads_122 rfl rfl ?_
              have hin_50 := h.1
              refine tz_iast C dX10_reads_123 (by decide) rfl h (fun σ_49 h => ?_)
              refine tz_aload_n 0 0 C dX10_reads_124 rfl rfl ?_
              refine tz_dup C dX10_reads_125 rfl ?_
              refine tz_getI C dX10_reads_126 fl_RX10_135 (by decide) rfl rfl ?_
              refine tz_iconst 1 (by decide) C dX10_reads_129 ?_
              refine tz_iadd C dX10_reads_130 ?_
              refine tz_put C dX10_reads_131 fp_RX10_135 (by decide) rfl rfl rfl rfl h (fun σ_51 h => ?_)
              refine tz_aload_n 0 0 C dX10_reads_134 rfl rfl ?_
              refine tz_getR C dX10_reads_135 fl_RX10_25 (by decide) rfl rfl ?_
              refine tz_iload_n 1 1 C dX10_reads_138 rfl rfl ?_
              refine tz_iload_n 3 3 C dX10_reads_139 rfl rfl ?_
              refine tz_iast_c _ C dX10_reads_140 (by decide) rfl hin_46 rfl h (fun σ_52 h => ?_)
              refine tz_aload_n 0 0 C dX10_reads_141 rfl rfl ?_
              refine tz_getR C dX10_reads_142 fl_RX10_37 (by decide) rfl rfl ?_
              refine tz_bipush 110 (by decide) C dX10_reads_145 ?_
              refine tz_aload_n 0 0 C dX10_reads_147 rfl rfl ?_
              refine tz_getR C dX10_reads_148 fl_RX10_22 (by decide) rfl rfl ?_
              refine tz_iload_n 1 1 C dX10_reads_151 rfl rfl ?_
              refine tz_iald C dX10_reads_152 (by decide) rfl hin_46 ?_
              refine tz_imul C dX10_reads_153 ?_
              refine tz_iload_n 3 3 C dX10_reads_154 rfl rfl ?_
              refine tz_iadd C dX10_reads_155 ?_
              refine tz_dup2 C dX10_reads_156 rfl rfl ?_
              obtain ⟨hin_53, h⟩ := h
              refine tz_iald C dX10_reads_157 (by decide) rfl hin_53 ?_
              refine tz_iconst 1 (by decide) C dX10_reads_158 ?_
              refine tz_iadd C dX10_reads_159 ?_
              refine tz_iast_c _ C dX10_reads_160 (by decide) rfl hin_53 rfl h (fun σ_54 h => ?_)
              refine tz_iinc 1 [(0, .ref _), (2, .int r_16), (3, .int x3_19)] 1 C dX10_reads_161 (by decide) rfl (Nat.le_of_ble_eq_true rfl) rfl h (fun x1_55 h => ?_)
              refine tz_goto 51 C dX10_reads_164 (by decide) ?_
              exact tz_sub (ihag_8 _ _ h) [1, 0] rfl
          · refine tz_iinc 3 [(0, .ref _), (1, .int x1_10), (2, .int r_16)] 1 C dX10_reads_85 (by decide) rfl (Nat.le_of_ble_eq_true rfl) rfl h (fun x3_56 h => ?_)
            refine tz_goto 67 C dX10_reads_88 (by decide) ?_
            exact tz_sub (ihag_17 _ _ h) [1, 2, 3, 0] rfl
    · refine tz_aload_n 0 0 C dX10_reads_36 rfl rfl ?_
      refine tz_getR C dX10_reads_37 fl_RX10_37 (by decide) rfl rfl ?_
      refine tz_iload_n 1 1 C dX10_reads_40 rfl rfl ?_
      refine tz_iconst 0 (by decide) C dX10_reads_41 ?_
      have hin_58 := h.1
      refine tz_iast C dX10_reads_42 (by decide) rfl h (fun σ_57 h => ?_)
      refine tz_iinc 1 [(0, .ref _)] 1 C dX10_reads_43 (by decide) rfl (Nat.le_of_ble_eq_true rfl) rfl h (fun x1_59 h => ?_)
      refine tz_goto 29 C dX10_reads_46 (by decide) ?_
      exact tz_sub (ihag_4 _ _ h) [1, 0] rfl
  · refine tz_aload_n 0 0 C dX10_reads_12 rfl rfl ?_
    refine tz_iconst 0 (by decide) C dX10_reads_13 ?_
    refine tz_put C dX10_reads_14 fp_RX10_109 (by decide) rfl rfl rfl rfl h (fun σ_60 h => ?_)
    refine tz_aload_n 0 0 C dX10_reads_17 rfl rfl ?_
    refine tz_iconst 0 (by decide) C dX10_reads_18 ?_
    refine tz_put C dX10_reads_19 fp_RX10_115 (by decide) rfl rfl rfl rfl h (fun σ_61 h => ?_)
    refine tz_aload_n 0 0 C dX10_reads_22 rfl rfl ?_
    refine tz_iconst 0 (by decide) C dX10_reads_23 ?_
    refine tz_put C dX10_reads_24 fp_RX10_135 (by decide) rfl rfl rfl rfl h (fun σ_62 h => ?_)
    refine tz_iconst 0 (by decide) C dX10_reads_27 ?_
    refine tz_istore_n_k 1 [(0, .ref _)] C dX10_reads_28 rfl (Nat.le_of_ble_eq_true rfl) rfl ?_
    refine tz_sub (L := [(0, .ref _), (1, .int 0)]) ?_ [1, 0] rfl
    refine tz_loop1_w (V := fun (x1_65 : Int32) (σ_64 : tzS) => tz_V G E 29 [(0, .ref _), (1, .int x1_65)] [] σ_64) h (fun ag_63 ihag_63 x1_65 σ_64 h => ?_)
    refine tz_iload_n 1 1 C dX10_reads_29 rfl rfl ?_
    refine tz_sipush 1320 (by decide) C dX10_reads_30 ?_
    refine tz_icmp_ge 49 C dX10_reads_33 (by decide) h (fun c_66 h => ?_) (fun c_66 h => ?_)
    · refine tz_iconst 0 (by decide) C dX10_reads_49 ?_
      refine tz_istore_n_k 1 [(0, .ref _)] C dX10_reads_50 rfl (Nat.le_of_ble_eq_true rfl) rfl ?_
      refine tz_sub (L := [(0, .ref _), (1, .int 0)]) ?_ [1, 0] rfl
      refine tz_loop1_w (V := fun (x1_69 : Int32) (σ_68 : tzS) => tz_V G E 51 [(0, .ref _), (1, .int x1_69)] [] σ_68) h (fun ag_67 ihag_67 x1_69 σ_68 h => ?_)
      refine tz_iload_n 1 1 C dX10_reads_51 rfl rfl ?_
      refine tz_aload_n 0 0 C dX10_reads_52 rfl rfl ?_
      refine tz_getI C dX10_reads_53 fl_RX10_115 (by decide) rfl rfl ?_
      refine tz_icmp_ge 167 C dX10_reads_56 (by decide) h (fun c_70 h => ?_) (fun c_70 h => ?_)
      · refine tz_aload_n 0 0 C dX10_reads_167 rfl rfl ?_
        refine tz_getR C dX10_reads_168 fl_RX10_34 (by decide) rfl rfl ?_
        refine tz_aload_n 0 0 C dX10_reads_171 rfl rfl ?_
        refine tz_getI C dX10_reads_172 fl_RX10_109 (by decide) rfl rfl ?_
        refine tz_aload_n 0 0 C dX10_reads_175 rfl rfl ?_
        refine tz_getI C dX10_reads_176 fl_RX10_115 (by decide) rfl rfl ?_
        have hin_72 := h.1
        refine tz_iast C dX10_reads_179 (by decide) rfl h (fun σ_71 h => ?_)
        refine tz_aload_n 0 0 C dX10_reads_180 rfl rfl ?_
        refine tz_iconst (-1) (by decide) C dX10_reads_181 ?_
        refine tz_put C dX10_reads_182 fp_RX10_144 (by decide) rfl rfl rfl rfl h (fun σ_73 h => ?_)
        exact hret _ _ _ dX10_reads_185 h
      · refine tz_aload_n 0 0 C dX10_reads_59 rfl rfl ?_
        refine tz_iload_n 1 1 C dX10_reads_60 rfl rfl ?_
        refine tz_calliv C dX10_reads_61 lk_RX10_138 (m_X10_longOf G hG  h) (by decide) rfl rfl rfl rfl ⟨Nat.le_of_ble_eq_true rfl, Nat.le_of_ble_eq_true rfl⟩ (Nat.le_of_ble_eq_true rfl) rfl (fun r_75 σ_74 h => ?_)
        refine tz_istore_n_k 2 [(0, .ref _), (1, .int x1_69)] C dX10_reads_64 rfl (Nat.le_of_ble_eq_true rfl) rfl ?_
        refine tz_iconst 0 (by decide) C dX10_reads_65 ?_
        refine tz_istore_n_k 3 [(2, .int r_75), (0, .ref _), (1, .int x1_69)] C dX10_reads_66 rfl (Nat.le_of_ble_eq_true rfl) rfl ?_
        refine tz_sub (L := [(0, .ref _), (1, .int x1_69), (2, .int r_75), (3, .int 0)]) ?_ [2, 3, 1, 0] rfl
        refine tz_loop1_w (V := fun (x3_78 : Int32) (σ_77 : tzS) => tz_V G E 67 [(0, .ref _), (1, .int x1_69), (2, .int r_75), (3, .int x3_78)] [] σ_77) h (fun ag_76 ihag_76 x3_78 σ_77 h => ?_)
        refine tz_iload_n 3 3 C dX10_reads_67 rfl rfl ?_
        refine tz_aload_n 0 0 C dX10_reads_68 rfl rfl ?_
        refine tz_getI C dX10_reads_69 fl_RX10_135 (by decide) rfl rfl ?_
        refine tz_icmp_ge 91 C dX10_reads_72 (by decide) h (fun c_79 h => ?_) (fun c_79 h => ?_)
        · refine tz_iload_n 3 3 C dX10_reads_91 rfl rfl ?_
          refine tz_aload_n 0 0 C dX10_reads_92 rfl rfl ?_
          refine tz_getI C dX10_reads_93 fl_RX10_135 (by decide) rfl rfl ?_
          refine tz_icmp_ne 134 C dX10_reads_96 (by decide) h (fun c_80 h => ?_) (fun c_80 h => ?_)
          · refine tz_aload_n 0 0 C dX10_reads_134 rfl rfl ?_
            refine tz_getR C dX10_reads_135 fl_RX10_25 (by decide) rfl rfl ?_
            refine tz_iload_n 1 1 C dX10_reads_138 rfl rfl ?_
            refine tz_iload_n 3 3 C dX10_reads_139 rfl rfl ?_
            have hin_82 := h.1
            refine tz_iast C dX10_reads_140 (by decide) rfl h (fun σ_81 h => ?_)
            refine tz_aload_n 0 0 C dX10_reads_141 rfl rfl ?_
            refine tz_getR C dX10_reads_142 fl_RX10_37 (by decide) rfl rfl ?_
            refine tz_bipush 110 (by decide) C dX10_reads_145 ?_
            refine tz_aload_n 0 0 C dX10_reads_147 rfl rfl ?_
            refine tz_getR C dX10_reads_148 fl_RX10_22 (by decide) rfl rfl ?_
            refine tz_iload_n 1 1 C dX10_reads_151 rfl rfl ?_
            refine tz_iald C dX10_reads_152 (by decide) rfl hin_82 ?_
            refine tz_imul C dX10_reads_153 ?_
            refine tz_iload_n 3 3 C dX10_reads_154 rfl rfl ?_
            refine tz_iadd C dX10_reads_155 ?_
            refine tz_dup2 C dX10_reads_156 rfl rfl ?_
            obtain ⟨hin_83, h⟩ := h
            refine tz_iald C dX10_reads_157 (by decide) rfl hin_83 ?_
            refine tz_iconst 1 (by decide) C dX10_reads_158 ?_
            refine tz_iadd C dX10_reads_159 ?_
            refine tz_iast_c _ C dX10_reads_160 (by decide) rfl hin_83 rfl h (fun σ_84 h => ?_)
            refine tz_iinc 1 [(0, .ref _), (2, .int r_75), (3, .int x3_78)] 1 C dX10_reads_161 (by decide) rfl (Nat.le_of_ble_eq_true rfl) rfl h (fun x1_85 h => ?_)
            refine tz_goto 51 C dX10_reads_164 (by decide) ?_
            exact tz_sub (ihag_67 _ _ h) [1, 0] rfl
          · refine tz_aload_n 0 0 C dX10_reads_99 rfl rfl ?_
            refine tz_getR C dX10_reads_100 fl_RX10_28 (by decide) rfl rfl ?_
            refine tz_aload_n 0 0 C dX10_reads_103 rfl rfl ?_
            refine tz_getI C dX10_reads_104 fl_RX10_135 (by decide) rfl rfl ?_
            refine tz_aload_n 0 0 C dX10_reads_107 rfl rfl ?_
            refine tz_getR C dX10_reads_108 fl_RX10_16 (by decide) rfl rfl ?_
            refine tz_iload_n 1 1 C dX10_reads_111 rfl rfl ?_
            obtain ⟨hin_86, h⟩ := h
            refine tz_iald C dX10_reads_112 (by decide) rfl hin_86 ?_
            have hin_88 := h.1
            refine tz_iast C dX10_reads_113 (by decide) rfl h (fun σ_87 h => ?_)
            refine tz_aload_n 0 0 C dX10_reads_114 rfl rfl ?_
            refine tz_getR C dX10_reads_115 fl_RX10_31 (by decide) rfl rfl ?_
            refine tz_aload_n 0 0 C dX10_reads_118 rfl rfl ?_
            refine tz_getI C dX10_reads_119 fl_RX10_135 (by decide) rfl rfl ?_
            refine tz_iload_n 2 2 C dX10_reads_122 rfl rfl ?_
            have hin_90 := h.1
            refine tz_iast C dX10_reads_123 (by decide) rfl h (fun σ_89 h => ?_)
            refine tz_aload_n 0 0 C dX10_reads_124 rfl rfl ?_
            refine tz_dup C dX10_reads_125 rfl ?_
            refine tz_getI C dX10_reads_126 fl_RX10_135 (by decide) rfl rfl ?_
            refine tz_iconst 1 (by decide) C dX10_reads_129 ?_
            refine tz_iadd C dX10_reads_130 ?_
            refine tz_put C dX10_reads_131 fp_RX10_135 (by decide) rfl rfl rfl rfl h (fun σ_91 h => ?_)
            refine tz_aload_n 0 0 C dX10_reads_134 rfl rfl ?_
            refine tz_getR C dX10_reads_135 fl_RX10_25 (by decide) rfl rfl ?_
            refine tz_iload_n 1 1 C dX10_reads_138 rfl rfl ?_
            refine tz_iload_n 3 3 C dX10_reads_139 rfl rfl ?_
            refine tz_iast_c _ C dX10_reads_140 (by decide) rfl hin_86 rfl h (fun σ_92 h => ?_)
            refine tz_aload_n 0 0 C dX10_reads_141 rfl rfl ?_
            refine tz_getR C dX10_reads_142 fl_RX10_37 (by decide) rfl rfl ?_
            refine tz_bipush 110 (by decide) C dX10_reads_145 ?_
            refine tz_aload_n 0 0 C dX10_reads_147 rfl rfl ?_
            refine tz_getR C dX10_reads_148 fl_RX10_22 (by decide) rfl rfl ?_
            refine tz_iload_n 1 1 C dX10_reads_151 rfl rfl ?_
            refine tz_iald C dX10_reads_152 (by decide) rfl hin_86 ?_
            refine tz_imul C dX10_reads_153 ?_
            refine tz_iload_n 3 3 C dX10_reads_154 rfl rfl ?_
            refine tz_iadd C dX10_reads_155 ?_
            refine tz_dup2 C dX10_reads_156 rfl rfl ?_
            obtain ⟨hin_93, h⟩ := h
            refine tz_iald C dX10_reads_157 (by decide) rfl hin_93 ?_
            refine tz_iconst 1 (by decide) C dX10_reads_158 ?_
            refine tz_iadd C dX10_reads_159 ?_
            refine tz_iast_c _ C dX10_reads_160 (by decide) rfl hin_93 rfl h (fun σ_94 h => ?_)
            refine tz_iinc 1 [(0, .ref _), (2, .int r_75), (3, .int x3_78)] 1 C dX10_reads_161 (by decide) rfl (Nat.le_of_ble_eq_true rfl) rfl h (fun x1_95 h => ?_)
            refine tz_goto 51 C dX10_reads_164 (by decide) ?_
            exact tz_sub (ihag_67 _ _ h) [1, 0] rfl
        · refine tz_aload_n 0 0 C dX10_reads_75 rfl rfl ?_
          refine tz_iload_n 1 1 C dX10_reads_76 rfl rfl ?_
          refine tz_iload_n 2 2 C dX10_reads_77 rfl rfl ?_
          refine tz_iload_n 3 3 C dX10_reads_78 rfl rfl ?_
          refine tz_calliv C dX10_reads_79 lk_RX10_141 (m_X10_isLike G hG  h) (by decide) rfl rfl rfl rfl ⟨Nat.le_of_ble_eq_true rfl, Nat.le_of_ble_eq_true rfl⟩ (Nat.le_of_ble_eq_true rfl) rfl (fun r_97 σ_96 h => ?_)
          refine tz_if_ne 91 C dX10_reads_82 (by decide) h (fun c_98 h => ?_) (fun c_98 h => ?_)
          · refine tz_iload_n 3 3 C dX10_reads_91 rfl rfl ?_
            refine tz_aload_n 0 0 C dX10_reads_92 rfl rfl ?_
            refine tz_getI C dX10_reads_93 fl_RX10_135 (by decide) rfl rfl ?_
            refine tz_icmp_ne 134 C dX10_reads_96 (by decide) h (fun c_99 h => ?_) (fun c_99 h => ?_)
            · refine tz_aload_n 0 0 C dX10_reads_134 rfl rfl ?_
              refine tz_getR C dX10_reads_135 fl_RX10_25 (by decide) rfl rfl ?_
              refine tz_iload_n 1 1 C dX10_reads_138 rfl rfl ?_
              refine tz_iload_n 3 3 C dX10_reads_139 rfl rfl ?_
              have hin_101 := h.1
              refine tz_iast C dX10_reads_140 (by decide) rfl h (fun σ_100 h => ?_)
              refine tz_aload_n 0 0 C dX10_reads_141 rfl rfl ?_
              refine tz_getR C dX10_reads_142 fl_RX10_37 (by decide) rfl rfl ?_
              refine tz_bipush 110 (by decide) C dX10_reads_145 ?_
              refine tz_aload_n 0 0 C dX10_reads_147 rfl rfl ?_
              refine tz_getR C dX10_reads_148 fl_RX10_22 (by decide) rfl rfl ?_
              refine tz_iload_n 1 1 C dX10_reads_151 rfl rfl ?_
              refine tz_iald C dX10_reads_152 (by decide) rfl hin_101 ?_
              refine tz_imul C dX10_reads_153 ?_
              refine tz_iload_n 3 3 C dX10_reads_154 rfl rfl ?_
              refine tz_iadd C dX10_reads_155 ?_
              refine tz_dup2 C dX10_reads_156 rfl rfl ?_
              obtain ⟨hin_102, h⟩ := h
              refine tz_iald C dX10_reads_157 (by decide) rfl hin_102 ?_
              refine tz_iconst 1 (by decide) C dX10_reads_158 ?_
              refine tz_iadd C dX10_reads_159 ?_
              refine tz_iast_c _ C dX10_reads_160 (by decide) rfl hin_102 rfl h (fun σ_103 h => ?_)
              refine tz_iinc 1 [(0, .ref _), (2, .int r_75), (3, .int x3_78)] 1 C dX10_reads_161 (by decide) rfl (Nat.le_of_ble_eq_true rfl) rfl h (fun x1_104 h => ?_)
              refine tz_goto 51 C dX10_reads_164 (by decide) ?_
              exact tz_sub (ihag_67 _ _ h) [1, 0] rfl
            · refine tz_aload_n 0 0 C dX10_reads_99 rfl rfl ?_
              refine tz_getR C dX10_reads_100 fl_RX10_28 (by decide) rfl rfl ?_
              refine tz_aload_n 0 0 C dX10_reads_103 rfl rfl ?_
              refine tz_getI C dX10_reads_104 fl_RX10_135 (by decide) rfl rfl ?_
              refine tz_aload_n 0 0 C dX10_reads_107 rfl rfl ?_
              refine tz_getR C dX10_reads_108 fl_RX10_16 (by decide) rfl rfl ?_
              refine tz_iload_n 1 1 C dX10_reads_111 rfl rfl ?_
              obtain ⟨hin_105, h⟩ := h
              refine tz_iald C dX10_reads_112 (by decide) rfl hin_105 ?_
              have hin_107 := h.1
              refine tz_iast C dX10_reads_113 (by decide) rfl h (fun σ_106 h => ?_)
              refine tz_aload_n 0 0 C dX10_reads_114 rfl rfl ?_
              refine tz_getR C dX10_reads_115 fl_RX10_31 (by decide) rfl rfl ?_
              refine tz_aload_n 0 0 C dX10_reads_118 rfl rfl ?_
              refine tz_getI C dX10_reads_119 fl_RX10_135 (by decide) rfl rfl ?_
              refine tz_iload_n 2 2 C dX10_reads_122 rfl rfl ?_
              have hin_109 := h.1
              refine tz_iast C dX10_reads_123 (by decide) rfl h (fun σ_108 h => ?_)
              refine tz_aload_n 0 0 C dX10_reads_124 rfl rfl ?_
              refine tz_dup C dX10_reads_125 rfl ?_
              refine tz_getI C dX10_reads_126 fl_RX10_135 (by decide) rfl rfl ?_
              refine tz_iconst 1 (by decide) C dX10_reads_129 ?_
              refine tz_iadd C dX10_reads_130 ?_
              refine tz_put C dX10_reads_131 fp_RX10_135 (by decide) rfl rfl rfl rfl h (fun σ_110 h => ?_)
              refine tz_aload_n 0 0 C dX10_reads_134 rfl rfl ?_
              refine tz_getR C dX10_reads_135 fl_RX10_25 (by decide) rfl rfl ?_
              refine tz_iload_n 1 1 C dX10_reads_138 rfl rfl ?_
              refine tz_iload_n 3 3 C dX10_reads_139 rfl rfl ?_
              refine tz_iast_c _ C dX10_reads_140 (by decide) rfl hin_105 rfl h (fun σ_111 h => ?_)
              refine tz_aload_n 0 0 C dX10_reads_141 rfl rfl ?_
              refine tz_getR C dX10_reads_142 fl_RX10_37 (by decide) rfl rfl ?_
              refine tz_bipush 110 (by decide) C dX10_reads_145 ?_
              refine tz_aload_n 0 0 C dX10_reads_147 rfl rfl ?_
              refine tz_getR C dX10_reads_148 fl_RX10_22 (by decide) rfl rfl ?_
              refine tz_iload_n 1 1 C dX10_reads_151 rfl rfl ?_
              refine tz_iald C dX10_reads_152 (by decide) rfl hin_105 ?_
              refine tz_imul C dX10_reads_153 ?_
              refine tz_iload_n 3 3 C dX10_reads_154 rfl rfl ?_
              refine tz_iadd C dX10_reads_155 ?_
              refine tz_dup2 C dX10_reads_156 rfl rfl ?_
              obtain ⟨hin_112, h⟩ := h
              refine tz_iald C dX10_reads_157 (by decide) rfl hin_112 ?_
              refine tz_iconst 1 (by decide) C dX10_reads_158 ?_
              refine tz_iadd C dX10_reads_159 ?_
              refine tz_iast_c _ C dX10_reads_160 (by decide) rfl hin_112 rfl h (fun σ_113 h => ?_)
              refine tz_iinc 1 [(0, .ref _), (2, .int r_75), (3, .int x3_78)] 1 C dX10_reads_161 (by decide) rfl (Nat.le_of_ble_eq_true rfl) rfl h (fun x1_114 h => ?_)
              refine tz_goto 51 C dX10_reads_164 (by decide) ?_
              exact tz_sub (ihag_67 _ _ h) [1, 0] rfl
          · refine tz_iinc 3 [(0, .ref _), (1, .int x1_69), (2, .int r_75)] 1 C dX10_reads_85 (by decide) rfl (Nat.le_of_ble_eq_true rfl) rfl h (fun x3_115 h => ?_)
            refine tz_goto 67 C dX10_reads_88 (by decide) ?_
            exact tz_sub (ihag_76 _ _ h) [1, 2, 3, 0] rfl
    · refine tz_aload_n 0 0 C dX10_reads_36 rfl rfl ?_
      refine tz_getR C dX10_reads_37 fl_RX10_37 (by decide) rfl rfl ?_
      refine tz_iload_n 1 1 C dX10_reads_40 rfl rfl ?_
      refine tz_iconst 0 (by decide) C dX10_reads_41 ?_
      have hin_117 := h.1
      refine tz_iast C dX10_reads_42 (by decide) rfl h (fun σ_116 h => ?_)
      refine tz_iinc 1 [(0, .ref _)] 1 C dX10_reads_43 (by decide) rfl (Nat.le_of_ble_eq_true rfl) rfl h (fun x1_118 h => ?_)
      refine tz_goto 29 C dX10_reads_46 (by decide) ?_
      exact tz_sub (ihag_63 _ _ h) [1, 0] rfl

def vc_X10_faultOf (x1 : Int32) (σ : tzS) (Q : Int32 → tzS → Prop) : Prop :=
  vc_X10_reads  σ (fun (σ_1 : tzS) =>
    (¬ x1 = 0 →
      (¬ x1 = 1 →
        Q (σ_1.1 133 6) σ_1) ∧
      (x1 = 1 →
        Q (σ_1.1 133 5) σ_1)) ∧
    (x1 = 0 →
      Q (σ_1.1 133 4) σ_1))
set_option maxRecDepth 20000 in
set_option maxHeartbeats 4000000 in
theorem m_X10_faultOf (G : tzG) (hG : tz_ok G) {x1 : Int32}  {σ : tzS} {Q : Int32 → tzS → Prop} (h : vc_X10_faultOf x1 σ Q) : tz_M G yX10_faultOf cX10_faultOf 2 (some .int) 4 95 [.ref 133, .int x1] σ (tz_Qi G Q) := by
  unfold vc_X10_faultOf at h
  refine tz_starti hG RX10 [(0, .ref _), (1, .int x1)] (by decide) rfl (Nat.le_of_ble_eq_true rfl) rfl (fun E C hret => ?_)
  refine tz_aload_n 0 0 C dX10_faultOf_0 rfl rfl ?_
  refine tz_callvv C dX10_faultOf_1 lk_RX10_147 (m_X10_reads G hG  h) (by decide) rfl rfl rfl rfl ⟨Nat.le_of_ble_eq_true rfl, Nat.le_of_ble_eq_true rfl⟩ (Nat.le_of_ble_eq_true rfl) rfl (fun σ_1 h => ?_)
  refine tz_iload_n 1 1 C dX10_faultOf_4 rfl rfl ?_
  refine tz_if_ne 15 C dX10_faultOf_5 (by decide) h (fun c_2 h => ?_) (fun c_2 h => ?_)
  · refine tz_iload_n 1 1 C dX10_faultOf_15 rfl rfl ?_
    refine tz_iconst 1 (by decide) C dX10_faultOf_16 ?_
    refine tz_icmp_ne 27 C dX10_faultOf_17 (by decide) h (fun c_3 h => ?_) (fun c_3 h => ?_)
    · refine tz_aload_n 0 0 C dX10_faultOf_27 rfl rfl ?_
      refine tz_getI C dX10_faultOf_28 fl_RX10_112 (by decide) rfl rfl ?_
      exact hret _ _ _ _ dX10_faultOf_31 h
    · refine tz_aload_n 0 0 C dX10_faultOf_20 rfl rfl ?_
      refine tz_getI C dX10_faultOf_21 fl_RX10_106 (by decide) rfl rfl ?_
      refine tz_goto 31 C dX10_faultOf_24 (by decide) ?_
      exact hret _ _ _ _ dX10_faultOf_31 h
  · refine tz_aload_n 0 0 C dX10_faultOf_8 rfl rfl ?_
    refine tz_getI C dX10_faultOf_9 fl_RX10_103 (by decide) rfl rfl ?_
    refine tz_goto 31 C dX10_faultOf_12 (by decide) ?_
    exact hret _ _ _ _ dX10_faultOf_31 h

def vc_X10_fault (x1 : Int32) (σ : tzS) (Q : Int32 → tzS → Prop) : Prop :=
  vc_X10_in x1 0 2 σ (fun (r_2 : Int32) (σ_1 : tzS) =>
    (r_2 = 0 →
      Q (-2) σ_1) ∧
    (¬ r_2 = 0 →
      vc_X10_faultOf x1 σ_1 (fun (r_5 : Int32) (σ_4 : tzS) =>
        Q r_5 σ_4)))
set_option maxRecDepth 20000 in
set_option maxHeartbeats 4000000 in
theorem m_X10_fault (G : tzG) (hG : tz_ok G) {x1 : Int32}  {σ : tzS} {Q : Int32 → tzS → Prop} (h : vc_X10_fault x1 σ Q) : tz_M G yX10_fault cX10_fault 2 (some .int) 5 116 [.ref 133, .int x1] σ (tz_Qi G Q) := by
  unfold vc_X10_fault at h
  refine tz_starti hG RX10 [(0, .ref _), (1, .int x1)] (by decide) rfl (Nat.le_of_ble_eq_true rfl) rfl (fun E C hret => ?_)
  refine tz_iload_n 1 1 C dX10_fault_0 rfl rfl ?_
  refine tz_iconst 0 (by decide) C dX10_fault_1 ?_
  refine tz_iconst 2 (by decide) C dX10_fault_2 ?_
  refine tz_callis C dX10_fault_3 lk_RX10_77 (m_X10_in G hG  h) rfl ⟨Nat.le_of_ble_eq_true rfl, Nat.le_of_ble_eq_true rfl⟩ (Nat.le_of_ble_eq_true rfl) rfl (fun r_2 σ_1 h => ?_)
  refine tz_if_eq 17 C dX10_fault_6 (by decide) h (fun c_3 h => ?_) (fun c_3 h => ?_)
  · refine tz_bipush (-2) (by decide) C dX10_fault_17 ?_
    exact hret _ _ _ _ dX10_fault_19 h
  · refine tz_aload_n 0 0 C dX10_fault_9 rfl rfl ?_
    refine tz_iload_n 1 1 C dX10_fault_10 rfl rfl ?_
    refine tz_calliv C dX10_fault_11 lk_RX10_150 (m_X10_faultOf G hG  h) (by decide) rfl rfl rfl rfl ⟨Nat.le_of_ble_eq_true rfl, Nat.le_of_ble_eq_true rfl⟩ (Nat.le_of_ble_eq_true rfl) rfl (fun r_5 σ_4 h => ?_)
    refine tz_goto 19 C dX10_fault_14 (by decide) ?_
    exact hret _ _ _ _ dX10_fault_19 h

def vc_X10_isSentence (x1 : Int32) (σ : tzS) (Q : Int32 → tzS → Prop) : Prop :=
  vc_X10_reads  σ (fun (σ_1 : tzS) =>
    vc_X10_in x1 0 ((σ_1.1 133 7) - 1) σ_1 (fun (r_3 : Int32) (σ_2 : tzS) =>
      tz_bool r_3 ∧ Q r_3 σ_2))
set_option maxRecDepth 20000 in
set_option maxHeartbeats 4000000 in
theorem m_X10_isSentence (G : tzG) (hG : tz_ok G) {x1 : Int32}  {σ : tzS} {Q : Int32 → tzS → Prop} (h : vc_X10_isSentence x1 σ Q) : tz_M G yX10_isSentence cX10_isSentence 2 (some .boolean) 4 95 [.ref 133, .int x1] σ (tz_Qi G Q) := by
  unfold vc_X10_isSentence at h
  refine tz_startz hG RX10 [(0, .ref _), (1, .int x1)] (by decide) rfl (Nat.le_of_ble_eq_true rfl) rfl (fun E C hret => ?_)
  refine tz_aload_n 0 0 C dX10_isSentence_0 rfl rfl ?_
  refine tz_callvv C dX10_isSentence_1 lk_RX10_147 (m_X10_reads G hG  h) (by decide) rfl rfl rfl rfl ⟨Nat.le_of_ble_eq_true rfl, Nat.le_of_ble_eq_true rfl⟩ (Nat.le_of_ble_eq_true rfl) rfl (fun σ_1 h => ?_)
  refine tz_iload_n 1 1 C dX10_isSentence_4 rfl rfl ?_
  refine tz_iconst 0 (by decide) C dX10_isSentence_5 ?_
  refine tz_aload_n 0 0 C dX10_isSentence_6 rfl rfl ?_
  refine tz_getI C dX10_isSentence_7 fl_RX10_109 (by decide) rfl rfl ?_
  refine tz_iconst 1 (by decide) C dX10_isSentence_10 ?_
  refine tz_isub C dX10_isSentence_11 ?_
  refine tz_callis C dX10_isSentence_12 lk_RX10_77 (m_X10_in G hG  h) rfl ⟨Nat.le_of_ble_eq_true rfl, Nat.le_of_ble_eq_true rfl⟩ (Nat.le_of_ble_eq_true rfl) rfl (fun r_3 σ_2 h => ?_)
  exact hret _ _ _ _ dX10_isSentence_15 (tz_narz h.1) h.2

def vc_X10_looksOver (x1 : Int32) (x2 : Int32) (σ : tzS) (Q : tzS → Prop) : Prop :=
  ∀ σ_1 : tzS, σ_1 = tz_st σ 133 19 0 →
  ∀ σ_2 : tzS, σ_2 = tz_st σ_1 133 20 0 →
  ∀ σ_3 : tzS, σ_3 = tz_st σ_2 133 21 0 →
  tz_loop1 (fun (x3_6 : Int32) (σ_5 : tzS) (ag_4 : Int32 → tzS → Prop) =>
    ((σ_5.1 133 9) ≤ x3_6 →
      Q σ_5) ∧
    (¬ (σ_5.1 133 9) ≤ x3_6 →
      tz_loop2 (fun (x4_10 : Int32) (x5_11 : Int32) (σ_9 : tzS) (ag_8 : Int32 → Int32 → tzS → Prop) =>
        (x2 ≤ x5_11 →
          ∀ σ_13 : tzS, σ_13 = tz_st σ_9 133 19 ((σ_9.1 133 19) + x4_10) →
          (x4_10 ≤ 0 →
            ∀ σ_15 : tzS, σ_15 = tz_st σ_13 133 20 ((σ_13.1 133 20) + 0) →
            (¬ x4_10 = 1 →
              ∀ σ_17 : tzS, σ_17 = tz_st σ_15 133 21 ((σ_15.1 133 21) + 0) →
              ∀ x3_18 : Int32, x3_18 = x3_6 + 1 →
              ag_4 x3_18 σ_17) ∧
            (x4_10 = 1 →
              ∀ σ_19 : tzS, σ_19 = tz_st σ_15 133 21 ((σ_15.1 133 21) + 1) →
              ∀ x3_20 : Int32, x3_20 = x3_6 + 1 →
              ag_4 x3_20 σ_19)) ∧
          (¬ x4_10 ≤ 0 →
            ∀ σ_21 : tzS, σ_21 = tz_st σ_13 133 20 ((σ_13.1 133 20) + 1) →
            (¬ x4_10 = 1 →
              ∀ σ_23 : tzS, σ_23 = tz_st σ_21 133 21 ((σ_21.1 133 21) + 0) →
              ∀ x3_24 : Int32, x3_24 = x3_6 + 1 →
              ag_4 x3_24 σ_23) ∧
            (x4_10 = 1 →
              ∀ σ_25 : tzS, σ_25 = tz_st σ_21 133 21 ((σ_21.1 133 21) + 1) →
              ∀ x3_26 : Int32, x3_26 = x3_6 + 1 →
              ag_4 x3_26 σ_25))) ∧
        (¬ x2 ≤ x5_11 →
          (¬ x5_11 = (σ_9.1 133 18) →
            vp_in ((110 * x5_11) + x3_6) 1320 ∧ (
              ∀ x4_29 : Int32, x4_29 = (x4_10 + (σ_9.1 143 ((110 * x5_11) + x3_6).toNatClampNeg)) →
              ∀ x5_30 : Int32, x5_30 = x5_11 + 1 →
              ag_8 x4_29 x5_30 σ_9)) ∧
          (x5_11 = (σ_9.1 133 18) →
            ∀ x4_31 : Int32, x4_31 = (x4_10 + 0) →
            ∀ x5_32 : Int32, x5_32 = x5_11 + 1 →
            ag_8 x4_31 x5_32 σ_9))) (0 : Int32) x1 σ_5)) (0 : Int32) σ_3
set_option maxRecDepth 20000 in
set_option maxHeartbeats 4000000 in
theorem m_X10_looksOver (G : tzG) (hG : tz_ok G) {x1 : Int32} {x2 : Int32}  {σ : tzS} {Q : tzS → Prop} (h : vc_X10_looksOver x1 x2 σ Q) : tz_M G yX10_looksOver cX10_looksOver 6 (none) 0 0 [.ref 133, .int x1, .int x2] σ (tz_Qv G Q) := by
  unfold vc_X10_looksOver at h
  refine tz_startv hG RX10 [(0, .ref _), (1, .int x1), (2, .int x2)] (by decide) rfl (Nat.le_of_ble_eq_true rfl) rfl (fun E C hret => ?_)
  refine tz_aload_n 0 0 C dX10_looksOver_0 rfl rfl ?_
  refine tz_iconst 0 (by decide) C dX10_looksOver_1 ?_
  refine tz_put C dX10_looksOver_2 fp_RX10_153 (by decide) rfl rfl rfl rfl h (fun σ_1 h => ?_)
  refine tz_aload_n 0 0 C dX10_looksOver_5 rfl rfl ?_
  refine tz_iconst 0 (by decide) C dX10_looksOver_6 ?_
  refine tz_put C dX10_looksOver_7 fp_RX10_156 (by decide) rfl rfl rfl rfl h (fun σ_2 h => ?_)
  refine tz_aload_n 0 0 C dX10_looksOver_10 rfl rfl ?_
  refine tz_iconst 0 (by decide) C dX10_looksOver_11 ?_
  refine tz_put C dX10_looksOver_12 fp_RX10_159 (by decide) rfl rfl rfl rfl h (fun σ_3 h => ?_)
  refine tz_iconst 0 (by decide) C dX10_looksOver_15 ?_
  refine tz_istore_n_k 3 [(0, .ref _), (1, .int x1), (2, .int x2)] C dX10_looksOver_16 rfl (Nat.le_of_ble_eq_true rfl) rfl ?_
  refine tz_sub (L := [(0, .ref _), (1, .int x1), (2, .int x2), (3, .int 0)]) ?_ [1, 2, 3, 0] rfl
  refine tz_loop1_w (V := fun (x3_6 : Int32) (σ_5 : tzS) => tz_V G E 17 [(0, .ref _), (1, .int x1), (2, .int x2), (3, .int x3_6)] [] σ_5) h (fun ag_4 ihag_4 x3_6 σ_5 h => ?_)
  refine tz_iload_n 3 3 C dX10_looksOver_17 rfl rfl ?_
  refine tz_aload_n 0 0 C dX10_looksOver_18 rfl rfl ?_
  refine tz_getI C dX10_looksOver_19 fl_RX10_135 (by decide) rfl rfl ?_
  refine tz_icmp_ge 129 C dX10_looksOver_22 (by decide) h (fun c_7 h => ?_) (fun c_7 h => ?_)
  · exact hret _ _ _ dX10_looksOver_129 h
  · refine tz_iconst 0 (by decide) C dX10_looksOver_25 ?_
    refine tz_istore_k [(0, .ref _), (1, .int x1), (2, .int x2), (3, .int x3_6)] C dX10_looksOver_26 (Nat.le_of_ble_eq_true rfl) rfl ?_
    refine tz_iload_n 1 2 C dX10_looksOver_28 rfl rfl ?_
    refine tz_istore_k [(4, .int 0), (0, .ref _), (1, .int x1), (2, .int x2), (3, .int x3_6)] C dX10_looksOver_29 (Nat.le_of_ble_eq_true rfl) rfl ?_
    refine tz_sub (L := [(0, .ref _), (1, .int x1), (2, .int x2), (3, .int x3_6), (4, .int 0), (5, .int x1)]) ?_ [2, 3, 4, 5, 1, 0] rfl
    refine tz_loop2_w (V := fun (x4_10 : Int32) (x5_11 : Int32) (σ_9 : tzS) => tz_V G E 31 [(0, .ref _), (1, .int x1), (2, .int x2), (3, .int x3_6), (4, .int x4_10), (5, .int x5_11)] [] σ_9) h (fun ag_8 ihag_8 x4_10 x5_11 σ_9 h => ?_)
    refine tz_iload 5 C dX10_looksOver_31 rfl ?_
    refine tz_iload_n 2 2 C dX10_looksOver_33 rfl rfl ?_
    refine tz_icmp_ge 73 C dX10_looksOver_34 (by decide) h (fun c_12 h => ?_) (fun c_12 h => ?_)
    · refine tz_aload_n 0 0 C dX10_looksOver_73 rfl rfl ?_
      refine tz_dup C dX10_looksOver_74 rfl ?_
      refine tz_getI C dX10_looksOver_75 fl_RX10_153 (by decide) rfl rfl ?_
      refine tz_iload 4 C dX10_looksOver_78 rfl ?_
      refine tz_iadd C dX10_looksOver_80 ?_
      refine tz_put C dX10_looksOver_81 fp_RX10_153 (by decide) rfl rfl rfl rfl h (fun σ_13 h => ?_)
      refine tz_aload_n 0 0 C dX10_looksOver_84 rfl rfl ?_
      refine tz_dup C dX10_looksOver_85 rfl ?_
      refine tz_getI C dX10_looksOver_86 fl_RX10_156 (by decide) rfl rfl ?_
      refine tz_iload 4 C dX10_looksOver_89 rfl ?_
      refine tz_if_le 98 C dX10_looksOver_91 (by decide) h (fun c_14 h => ?_) (fun c_14 h => ?_)
      · refine tz_iconst 0 (by decide) C dX10_looksOver_98 ?_
        refine tz_iadd C dX10_looksOver_99 ?_
        refine tz_put C dX10_looksOver_100 fp_RX10_156 (by decide) rfl rfl rfl rfl h (fun σ_15 h => ?_)
        refine tz_aload_n 0 0 C dX10_looksOver_103 rfl rfl ?_
        refine tz_dup C dX10_looksOver_104 rfl ?_
        refine tz_getI C dX10_looksOver_105 fl_RX10_159 (by decide) rfl rfl ?_
        refine tz_iload 4 C dX10_looksOver_108 rfl ?_
        refine tz_iconst 1 (by decide) C dX10_looksOver_110 ?_
        refine tz_icmp_ne 118 C dX10_looksOver_111 (by decide) h (fun c_16 h => ?_) (fun c_16 h => ?_)
        · refine tz_iconst 0 (by decide) C dX10_looksOver_118 ?_
          refine tz_iadd C dX10_looksOver_119 ?_
          refine tz_put C dX10_looksOver_120 fp_RX10_159 (by decide) rfl rfl rfl rfl h (fun σ_17 h => ?_)
          refine tz_iinc 3 [(0, .ref _), (1, .int x1), (2, .int x2), (4, .int x4_10), (5, .int x5_11)] 1 C dX10_looksOver_123 (by decide) rfl (Nat.le_of_ble_eq_true rfl) rfl h (fun x3_18 h => ?_)
          refine tz_goto 17 C dX10_looksOver_126 (by decide) ?_
          exact tz_sub (ihag_4 _ _ h) [1, 2, 3, 0] rfl
        · refine tz_iconst 1 (by decide) C dX10_looksOver_114 ?_
          refine tz_goto 119 C dX10_looksOver_115 (by decide) ?_
          refine tz_iadd C dX10_looksOver_119 ?_
          refine tz_put C dX10_looksOver_120 fp_RX10_159 (by decide) rfl rfl rfl rfl h (fun σ_19 h => ?_)
          refine tz_iinc 3 [(0, .ref _), (1, .int x1), (2, .int x2), (4, .int x4_10), (5, .int x5_11)] 1 C dX10_looksOver_123 (by decide) rfl (Nat.le_of_ble_eq_true rfl) rfl h (fun x3_20 h => ?_)
          refine tz_goto 17 C dX10_looksOver_126 (by decide) ?_
          exact tz_sub (ihag_4 _ _ h) [1, 2, 3, 0] rfl
      · refine tz_iconst 1 (by decide) C dX10_looksOver_94 ?_
        refine tz_goto 99 C dX10_looksOver_95 (by decide) ?_
        refine tz_iadd C dX10_looksOver_99 ?_
        refine tz_put C dX10_looksOver_100 fp_RX10_156 (by decide) rfl rfl rfl rfl h (fun σ_21 h => ?_)
        refine tz_aload_n 0 0 C dX10_looksOver_103 rfl rfl ?_
        refine tz_dup C dX10_looksOver_104 rfl ?_
        refine tz_getI C dX10_looksOver_105 fl_RX10_159 (by decide) rfl rfl ?_
        refine tz_iload 4 C dX10_looksOver_108 rfl ?_
        refine tz_iconst 1 (by decide) C dX10_looksOver_110 ?_
        refine tz_icmp_ne 118 C dX10_looksOver_111 (by decide) h (fun c_22 h => ?_) (fun c_22 h => ?_)
        · refine tz_iconst 0 (by decide) C dX10_looksOver_118 ?_
          refine tz_iadd C dX10_looksOver_119 ?_
          refine tz_put C dX10_looksOver_120 fp_RX10_159 (by decide) rfl rfl rfl rfl h (fun σ_23 h => ?_)
          refine tz_iinc 3 [(0, .ref _), (1, .int x1), (2, .int x2), (4, .int x4_10), (5, .int x5_11)] 1 C dX10_looksOver_123 (by decide) rfl (Nat.le_of_ble_eq_true rfl) rfl h (fun x3_24 h => ?_)
          refine tz_goto 17 C dX10_looksOver_126 (by decide) ?_
          exact tz_sub (ihag_4 _ _ h) [1, 2, 3, 0] rfl
        · refine tz_iconst 1 (by decide) C dX10_looksOver_114 ?_
          refine tz_goto 119 C dX10_looksOver_115 (by decide) ?_
          refine tz_iadd C dX10_looksOver_119 ?_
          refine tz_put C dX10_looksOver_120 fp_RX10_159 (by decide) rfl rfl rfl rfl h (fun σ_25 h => ?_)
          refine tz_iinc 3 [(0, .ref _), (1, .int x1), (2, .int x2), (4, .int x4_10), (5, .int x5_11)] 1 C dX10_looksOver_123 (by decide) rfl (Nat.le_of_ble_eq_true rfl) rfl h (fun x3_26 h => ?_)
          refine tz_goto 17 C dX10_looksOver_126 (by decide) ?_
          exact tz_sub (ihag_4 _ _ h) [1, 2, 3, 0] rfl
    · refine tz_iload 4 C dX10_looksOver_37 rfl ?_
      refine tz_iload 5 C dX10_looksOver_39 rfl ?_
      refine tz_aload_n 0 0 C dX10_looksOver_41 rfl rfl ?_
      refine tz_getI C dX10_looksOver_42 fl_RX10_144 (by decide) rfl rfl ?_
      refine tz_icmp_ne 52 C dX10_looksOver_45 (by decide) h (fun c_27 h => ?_) (fun c_27 h => ?_)
      · refine tz_aload_n 0 0 C dX10_looksOver_52 rfl rfl ?_
        refine tz_getR C dX10_looksOver_53 fl_RX10_37 (by decide) rfl rfl ?_
        refine tz_bipush 110 (by decide) C dX10_looksOver_56 ?_
        refine tz_iload 5 C dX10_looksOver_58 rfl ?_
        refine tz_imul C dX10_looksOver_60 ?_
        refine tz_iload_n 3 3 C dX10_looksOver_61 rfl rfl ?_
        refine tz_iadd C dX10_looksOver_62 ?_
        obtain ⟨hin_28, h⟩ := h
        refine tz_iald C dX10_looksOver_63 (by decide) rfl hin_28 ?_
        refine tz_iadd C dX10_looksOver_64 ?_
        refine tz_istore [(0, .ref _), (1, .int x1), (2, .int x2), (3, .int x3_6), (5, .int x5_11)] C dX10_looksOver_65 (Nat.le_of_ble_eq_true rfl) rfl h (fun x4_29 h => ?_)
        refine tz_iinc 5 [(4, .int x4_29), (0, .ref _), (1, .int x1), (2, .int x2), (3, .int x3_6)] 1 C dX10_looksOver_67 (by decide) rfl (Nat.le_of_ble_eq_true rfl) rfl h (fun x5_30 h => ?_)
        refine tz_goto 31 C dX10_looksOver_70 (by decide) ?_
        exact tz_sub (ihag_8 _ _ _ h) [2, 3, 4, 5, 1, 0] rfl
      · refine tz_iconst 0 (by decide) C dX10_looksOver_48 ?_
        refine tz_goto 64 C dX10_looksOver_49 (by decide) ?_
        refine tz_iadd C dX10_looksOver_64 ?_
        refine tz_istore [(0, .ref _), (1, .int x1), (2, .int x2), (3, .int x3_6), (5, .int x5_11)] C dX10_looksOver_65 (Nat.le_of_ble_eq_true rfl) rfl h (fun x4_31 h => ?_)
        refine tz_iinc 5 [(4, .int x4_31), (0, .ref _), (1, .int x1), (2, .int x2), (3, .int x3_6)] 1 C dX10_looksOver_67 (by decide) rfl (Nat.le_of_ble_eq_true rfl) rfl h (fun x5_32 h => ?_)
        refine tz_goto 31 C dX10_looksOver_70 (by decide) ?_
        exact tz_sub (ihag_8 _ _ _ h) [2, 3, 4, 5, 1, 0] rfl

def vc_X10_sentenceOf (x1 : Int32) (x2 : Int32) (σ : tzS) (Q : Int32 → tzS → Prop) : Prop :=
  vc_X10_looksOver x1 (x1 + 1) σ (fun (σ_1 : tzS) =>
    (¬ x2 = 0 →
      (¬ x2 = 1 →
        (¬ x2 = 2 →
          vp_in x1 14 ∧ (
            vp_in (σ_1.1 142 x1.toNatClampNeg) 110 ∧ (
              Q (σ_1.1 136 (σ_1.1 142 x1.toNatClampNeg).toNatClampNeg) σ_1))) ∧
        (x2 = 2 →
          Q (σ_1.1 133 21) σ_1)) ∧
      (x2 = 1 →
        Q (σ_1.1 133 20) σ_1)) ∧
    (x2 = 0 →
      Q (σ_1.1 133 19) σ_1))
set_option maxRecDepth 20000 in
set_option maxHeartbeats 4000000 in
theorem m_X10_sentenceOf (G : tzG) (hG : tz_ok G) {x1 : Int32} {x2 : Int32}  {σ : tzS} {Q : Int32 → tzS → Prop} (h : vc_X10_sentenceOf x1 x2 σ Q) : tz_M G yX10_sentenceOf cX10_sentenceOf 3 (some .int) 1 25 [.ref 133, .int x1, .int x2] σ (tz_Qi G Q) := by
  unfold vc_X10_sentenceOf at h
  refine tz_starti hG RX10 [(0, .ref _), (1, .int x1), (2, .int x2)] (by decide) rfl (Nat.le_of_ble_eq_true rfl) rfl (fun E C hret => ?_)
  refine tz_aload_n 0 0 C dX10_sentenceOf_0 rfl rfl ?_
  refine tz_iload_n 1 1 C dX10_sentenceOf_1 rfl rfl ?_
  refine tz_iload_n 1 1 C dX10_sentenceOf_2 rfl rfl ?_
  refine tz_iconst 1 (by decide) C dX10_sentenceOf_3 ?_
  refine tz_iadd C dX10_sentenceOf_4 ?_
  refine tz_callvv C dX10_sentenceOf_5 lk_RX10_162 (m_X10_looksOver G hG  h) (by decide) rfl rfl rfl rfl ⟨Nat.le_of_ble_eq_true rfl, Nat.le_of_ble_eq_true rfl⟩ (Nat.le_of_ble_eq_true rfl) rfl (fun σ_1 h => ?_)
  refine tz_iload_n 2 2 C dX10_sentenceOf_8 rfl rfl ?_
  refine tz_if_ne 19 C dX10_sentenceOf_9 (by decide) h (fun c_2 h => ?_) (fun c_2 h => ?_)
  · refine tz_iload_n 2 2 C dX10_sentenceOf_19 rfl rfl ?_
    refine tz_iconst 1 (by decide) C dX10_sentenceOf_20 ?_
    refine tz_icmp_ne 31 C dX10_sentenceOf_21 (by decide) h (fun c_3 h => ?_) (fun c_3 h => ?_)
    · refine tz_iload_n 2 2 C dX10_sentenceOf_31 rfl rfl ?_
      refine tz_iconst 2 (by decide) C dX10_sentenceOf_32 ?_
      refine tz_icmp_ne 43 C dX10_sentenceOf_33 (by decide) h (fun c_4 h => ?_) (fun c_4 h => ?_)
      · refine tz_aload_n 0 0 C dX10_sentenceOf_43 rfl rfl ?_
        refine tz_getR C dX10_sentenceOf_44 fl_RX10_16 (by decide) rfl rfl ?_
        refine tz_aload_n 0 0 C dX10_sentenceOf_47 rfl rfl ?_
        refine tz_getR C dX10_sentenceOf_48 fl_RX10_34 (by decide) rfl rfl ?_
        refine tz_iload_n 1 1 C dX10_sentenceOf_51 rfl rfl ?_
        obtain ⟨hin_5, h⟩ := h
        refine tz_iald C dX10_sentenceOf_52 (by decide) rfl hin_5 ?_
        obtain ⟨hin_6, h⟩ := h
        refine tz_iald C dX10_sentenceOf_53 (by decide) rfl hin_6 ?_
        exact hret _ _ _ _ dX10_sentenceOf_54 h
      · refine tz_aload_n 0 0 C dX10_sentenceOf_36 rfl rfl ?_
        refine tz_getI C dX10_sentenceOf_37 fl_RX10_159 (by decide) rfl rfl ?_
        refine tz_goto 54 C dX10_sentenceOf_40 (by decide) ?_
        exact hret _ _ _ _ dX10_sentenceOf_54 h
    · refine tz_aload_n 0 0 C dX10_sentenceOf_24 rfl rfl ?_
      refine tz_getI C dX10_sentenceOf_25 fl_RX10_156 (by decide) rfl rfl ?_
      refine tz_goto 54 C dX10_sentenceOf_28 (by decide) ?_
      exact hret _ _ _ _ dX10_sentenceOf_54 h
  · refine tz_aload_n 0 0 C dX10_sentenceOf_12 rfl rfl ?_
    refine tz_getI C dX10_sentenceOf_13 fl_RX10_153 (by decide) rfl rfl ?_
    refine tz_goto 54 C dX10_sentenceOf_16 (by decide) ?_
    exact hret _ _ _ _ dX10_sentenceOf_54 h

def vc_X10_sentence (x1 : Int32) (x2 : Int32) (σ : tzS) (Q : Int32 → tzS → Prop) : Prop :=
  vc_X10_isSentence x1 σ (fun (r_2 : Int32) (σ_1 : tzS) =>
    (r_2 = 0 →
      Q (-2) σ_1) ∧
    (¬ r_2 = 0 →
      vc_X10_in x2 0 3 σ_1 (fun (r_5 : Int32) (σ_4 : tzS) =>
        (r_5 = 0 →
          Q (-2) σ_4) ∧
        (¬ r_5 = 0 →
          vc_X10_sentenceOf x1 x2 σ_4 (fun (r_8 : Int32) (σ_7 : tzS) =>
            Q r_8 σ_7)))))
set_option maxRecDepth 20000 in
set_option maxHeartbeats 4000000 in
theorem m_X10_sentence (G : tzG) (hG : tz_ok G) {x1 : Int32} {x2 : Int32}  {σ : tzS} {Q : Int32 → tzS → Prop} (h : vc_X10_sentence x1 x2 σ Q) : tz_M G yX10_sentence cX10_sentence 3 (some .int) 5 116 [.ref 133, .int x1, .int x2] σ (tz_Qi G Q) := by
  unfold vc_X10_sentence at h
  refine tz_starti hG RX10 [(0, .ref _), (1, .int x1), (2, .int x2)] (by decide) rfl (Nat.le_of_ble_eq_true rfl) rfl (fun E C hret => ?_)
  refine tz_aload_n 0 0 C dX10_sentence_0 rfl rfl ?_
  refine tz_iload_n 1 1 C dX10_sentence_1 rfl rfl ?_
  refine tz_calliv C dX10_sentence_2 lk_RX10_165 (m_X10_isSentence G hG  h) (by decide) rfl rfl rfl rfl ⟨Nat.le_of_ble_eq_true rfl, Nat.le_of_ble_eq_true rfl⟩ (Nat.le_of_ble_eq_true rfl) rfl (fun r_2 σ_1 h => ?_)
  refine tz_if_eq 26 C dX10_sentence_5 (by decide) h (fun c_3 h => ?_) (fun c_3 h => ?_)
  · refine tz_bipush (-2) (by decide) C dX10_sentence_26 ?_
    exact hret _ _ _ _ dX10_sentence_28 h
  · refine tz_iload_n 2 2 C dX10_sentence_8 rfl rfl ?_
    refine tz_iconst 0 (by decide) C dX10_sentence_9 ?_
    refine tz_iconst 3 (by decide) C dX10_sentence_10 ?_
    refine tz_callis C dX10_sentence_11 lk_RX10_77 (m_X10_in G hG  h) rfl ⟨Nat.le_of_ble_eq_true rfl, Nat.le_of_ble_eq_true rfl⟩ (Nat.le_of_ble_eq_true rfl) rfl (fun r_5 σ_4 h => ?_)
    refine tz_if_eq 26 C dX10_sentence_14 (by decide) h (fun c_6 h => ?_) (fun c_6 h => ?_)
    · refine tz_bipush (-2) (by decide) C dX10_sentence_26 ?_
      exact hret _ _ _ _ dX10_sentence_28 h
    · refine tz_aload_n 0 0 C dX10_sentence_17 rfl rfl ?_
      refine tz_iload_n 1 1 C dX10_sentence_18 rfl rfl ?_
      refine tz_iload_n 2 2 C dX10_sentence_19 rfl rfl ?_
      refine tz_calliv C dX10_sentence_20 lk_RX10_168 (m_X10_sentenceOf G hG  h) (by decide) rfl rfl rfl rfl ⟨Nat.le_of_ble_eq_true rfl, Nat.le_of_ble_eq_true rfl⟩ (Nat.le_of_ble_eq_true rfl) rfl (fun r_8 σ_7 h => ?_)
      refine tz_goto 28 C dX10_sentence_23 (by decide) ?_
      exact hret _ _ _ _ dX10_sentence_28 h

def vc_X10_wordOf (x1 : Int32) (x2 : Int32) (σ : tzS) (Q : Int32 → tzS → Prop) : Prop :=
  vp_in (x1 + 1) 14 ∧ (
    vp_in x1 14 ∧ (
      vc_X10_in x2 0 (((σ.1 142 (x1 + 1).toNatClampNeg) - (σ.1 142 x1.toNatClampNeg)) - 1) σ (fun (r_4 : Int32) (σ_3 : tzS) =>
        (r_4 = 0 →
          Q (-2) σ_3) ∧
        (¬ r_4 = 0 →
          vp_in ((σ_3.1 142 x1.toNatClampNeg) + x2) 110 ∧ (
            Q (σ_3.1 139 ((σ_3.1 142 x1.toNatClampNeg) + x2).toNatClampNeg) σ_3)))))
set_option maxRecDepth 20000 in
set_option maxHeartbeats 4000000 in
theorem m_X10_wordOf (G : tzG) (hG : tz_ok G) {x1 : Int32} {x2 : Int32}  {σ : tzS} {Q : Int32 → tzS → Prop} (h : vc_X10_wordOf x1 x2 σ Q) : tz_M G yX10_wordOf cX10_wordOf 3 (some .int) 1 22 [.ref 133, .int x1, .int x2] σ (tz_Qi G Q) := by
  unfold vc_X10_wordOf at h
  refine tz_starti hG RX10 [(0, .ref _), (1, .int x1), (2, .int x2)] (by decide) rfl (Nat.le_of_ble_eq_true rfl) rfl (fun E C hret => ?_)
  refine tz_iload_n 2 2 C dX10_wordOf_0 rfl rfl ?_
  refine tz_iconst 0 (by decide) C dX10_wordOf_1 ?_
  refine tz_aload_n 0 0 C dX10_wordOf_2 rfl rfl ?_
  refine tz_getR C dX10_wordOf_3 fl_RX10_34 (by decide) rfl rfl ?_
  refine tz_iload_n 1 1 C dX10_wordOf_6 rfl rfl ?_
  refine tz_iconst 1 (by decide) C dX10_wordOf_7 ?_
  refine tz_iadd C dX10_wordOf_8 ?_
  obtain ⟨hin_1, h⟩ := h
  refine tz_iald C dX10_wordOf_9 (by decide) rfl hin_1 ?_
  refine tz_aload_n 0 0 C dX10_wordOf_10 rfl rfl ?_
  refine tz_getR C dX10_wordOf_11 fl_RX10_34 (by decide) rfl rfl ?_
  refine tz_iload_n 1 1 C dX10_wordOf_14 rfl rfl ?_
  obtain ⟨hin_2, h⟩ := h
  refine tz_iald C dX10_wordOf_15 (by decide) rfl hin_2 ?_
  refine tz_isub C dX10_wordOf_16 ?_
  refine tz_iconst 1 (by decide) C dX10_wordOf_17 ?_
  refine tz_isub C dX10_wordOf_18 ?_
  refine tz_callis C dX10_wordOf_19 lk_RX10_77 (m_X10_in G hG  h) rfl ⟨Nat.le_of_ble_eq_true rfl, Nat.le_of_ble_eq_true rfl⟩ (Nat.le_of_ble_eq_true rfl) rfl (fun r_4 σ_3 h => ?_)
  refine tz_if_eq 41 C dX10_wordOf_22 (by decide) h (fun c_5 h => ?_) (fun c_5 h => ?_)
  · refine tz_bipush (-2) (by decide) C dX10_wordOf_41 ?_
    exact hret _ _ _ _ dX10_wordOf_43 h
  · refine tz_aload_n 0 0 C dX10_wordOf_25 rfl rfl ?_
    refine tz_getR C dX10_wordOf_26 fl_RX10_25 (by decide) rfl rfl ?_
    refine tz_aload_n 0 0 C dX10_wordOf_29 rfl rfl ?_
    refine tz_getR C dX10_wordOf_30 fl_RX10_34 (by decide) rfl rfl ?_
    refine tz_iload_n 1 1 C dX10_wordOf_33 rfl rfl ?_
    refine tz_iald C dX10_wordOf_34 (by decide) rfl hin_2 ?_
    refine tz_iload_n 2 2 C dX10_wordOf_35 rfl rfl ?_
    refine tz_iadd C dX10_wordOf_36 ?_
    obtain ⟨hin_6, h⟩ := h
    refine tz_iald C dX10_wordOf_37 (by decide) rfl hin_6 ?_
    refine tz_goto 43 C dX10_wordOf_38 (by decide) ?_
    exact hret _ _ _ _ dX10_wordOf_43 h

def vc_X10_word (x1 : Int32) (x2 : Int32) (σ : tzS) (Q : Int32 → tzS → Prop) : Prop :=
  vc_X10_isSentence x1 σ (fun (r_2 : Int32) (σ_1 : tzS) =>
    (r_2 = 0 →
      Q (-2) σ_1) ∧
    (¬ r_2 = 0 →
      vc_X10_wordOf x1 x2 σ_1 (fun (r_5 : Int32) (σ_4 : tzS) =>
        Q r_5 σ_4)))
set_option maxRecDepth 20000 in
set_option maxHeartbeats 4000000 in
theorem m_X10_word (G : tzG) (hG : tz_ok G) {x1 : Int32} {x2 : Int32}  {σ : tzS} {Q : Int32 → tzS → Prop} (h : vc_X10_word x1 x2 σ Q) : tz_M G yX10_word cX10_word 3 (some .int) 5 116 [.ref 133, .int x1, .int x2] σ (tz_Qi G Q) := by
  unfold vc_X10_word at h
  refine tz_starti hG RX10 [(0, .ref _), (1, .int x1), (2, .int x2)] (by decide) rfl (Nat.le_of_ble_eq_true rfl) rfl (fun E C hret => ?_)
  refine tz_aload_n 0 0 C dX10_word_0 rfl rfl ?_
  refine tz_iload_n 1 1 C dX10_word_1 rfl rfl ?_
  refine tz_calliv C dX10_word_2 lk_RX10_165 (m_X10_isSentence G hG  h) (by decide) rfl rfl rfl rfl ⟨Nat.le_of_ble_eq_true rfl, Nat.le_of_ble_eq_true rfl⟩ (Nat.le_of_ble_eq_true rfl) rfl (fun r_2 σ_1 h => ?_)
  refine tz_if_eq 17 C dX10_word_5 (by decide) h (fun c_3 h => ?_) (fun c_3 h => ?_)
  · refine tz_bipush (-2) (by decide) C dX10_word_17 ?_
    exact hret _ _ _ _ dX10_word_19 h
  · refine tz_aload_n 0 0 C dX10_word_8 rfl rfl ?_
    refine tz_iload_n 1 1 C dX10_word_9 rfl rfl ?_
    refine tz_iload_n 2 2 C dX10_word_10 rfl rfl ?_
    refine tz_calliv C dX10_word_11 lk_RX10_172 (m_X10_wordOf G hG  h) (by decide) rfl rfl rfl rfl ⟨Nat.le_of_ble_eq_true rfl, Nat.le_of_ble_eq_true rfl⟩ (Nat.le_of_ble_eq_true rfl) rfl (fun r_5 σ_4 h => ?_)
    refine tz_goto 19 C dX10_word_14 (by decide) ?_
    exact hret _ _ _ _ dX10_word_19 h

def vc_X10_isStem (x1 : Int32) (σ : tzS) (Q : Int32 → tzS → Prop) : Prop :=
  vc_X10_reads  σ (fun (σ_1 : tzS) =>
    vc_X10_in x1 0 ((σ_1.1 133 9) - 1) σ_1 (fun (r_3 : Int32) (σ_2 : tzS) =>
      tz_bool r_3 ∧ Q r_3 σ_2))
set_option maxRecDepth 20000 in
set_option maxHeartbeats 4000000 in
theorem m_X10_isStem (G : tzG) (hG : tz_ok G) {x1 : Int32}  {σ : tzS} {Q : Int32 → tzS → Prop} (h : vc_X10_isStem x1 σ Q) : tz_M G yX10_isStem cX10_isStem 2 (some .boolean) 4 95 [.ref 133, .int x1] σ (tz_Qi G Q) := by
  unfold vc_X10_isStem at h
  refine tz_startz hG RX10 [(0, .ref _), (1, .int x1)] (by decide) rfl (Nat.le_of_ble_eq_true rfl) rfl (fun E C hret => ?_)
  refine tz_aload_n 0 0 C dX10_isStem_0 rfl rfl ?_
  refine tz_callvv C dX10_isStem_1 lk_RX10_147 (m_X10_reads G hG  h) (by decide) rfl rfl rfl rfl ⟨Nat.le_of_ble_eq_true rfl, Nat.le_of_ble_eq_true rfl⟩ (Nat.le_of_ble_eq_true rfl) rfl (fun σ_1 h => ?_)
  refine tz_iload_n 1 1 C dX10_isStem_4 rfl rfl ?_
  refine tz_iconst 0 (by decide) C dX10_isStem_5 ?_
  refine tz_aload_n 0 0 C dX10_isStem_6 rfl rfl ?_
  refine tz_getI C dX10_isStem_7 fl_RX10_135 (by decide) rfl rfl ?_
  refine tz_iconst 1 (by decide) C dX10_isStem_10 ?_
  refine tz_isub C dX10_isStem_11 ?_
  refine tz_callis C dX10_isStem_12 lk_RX10_77 (m_X10_in G hG  h) rfl ⟨Nat.le_of_ble_eq_true rfl, Nat.le_of_ble_eq_true rfl⟩ (Nat.le_of_ble_eq_true rfl) rfl (fun r_3 σ_2 h => ?_)
  exact hret _ _ _ _ dX10_isStem_15 (tz_narz h.1) h.2

def vc_X10_stemOf (x1 : Int32) (x2 : Int32) (σ : tzS) (Q : Int32 → tzS → Prop) : Prop :=
  tz_loop4 (fun (x3_3 : Int32) (x4_4 : Int32) (x5_5 : Int32) (x6_6 : Int32) (σ_2 : tzS) (ag_1 : Int32 → Int32 → Int32 → Int32 → tzS → Prop) =>
    ((σ_2.1 133 7) ≤ x6_6 →
      (¬ x2 = 0 →
        (¬ x2 = 1 →
          (¬ x2 = 2 →
            Q x5_5 σ_2) ∧
          (x2 = 2 →
            Q x4_4 σ_2)) ∧
        (x2 = 1 →
          Q x3_3 σ_2)) ∧
      (x2 = 0 →
        vp_in x1 110 ∧ (
          Q (σ_2.1 141 x1.toNatClampNeg) σ_2))) ∧
    (¬ (σ_2.1 133 7) ≤ x6_6 →
      vp_in ((110 * x6_6) + x1) 1320 ∧ (
        ∀ x7_13 : Int32, x7_13 = (σ_2.1 143 ((110 * x6_6) + x1).toNatClampNeg) →
        ∀ x3_14 : Int32, x3_14 = (x3_3 + x7_13) →
        (x7_13 ≤ 0 →
          ∀ x6_16 : Int32, x6_16 = x6_6 + 1 →
          ag_1 x3_14 x4_4 x5_5 x6_16 σ_2) ∧
        (¬ x7_13 ≤ 0 →
          (¬ x4_4 = (-1) →
            ∀ x6_18 : Int32, x6_18 = x6_6 + 1 →
            ag_1 x3_14 x4_4 x6_6 x6_18 σ_2) ∧
          (x4_4 = (-1) →
            ∀ x6_19 : Int32, x6_19 = x6_6 + 1 →
            ag_1 x3_14 x6_6 x6_6 x6_19 σ_2))))) (0 : Int32) ((-1) : Int32) ((-1) : Int32) (0 : Int32) σ
set_option maxRecDepth 20000 in
set_option maxHeartbeats 4000000 in
theorem m_X10_stemOf (G : tzG) (hG : tz_ok G) {x1 : Int32} {x2 : Int32}  {σ : tzS} {Q : Int32 → tzS → Prop} (h : vc_X10_stemOf x1 x2 σ Q) : tz_M G yX10_stemOf cX10_stemOf 8 (some .int) 0 0 [.ref 133, .int x1, .int x2] σ (tz_Qi G Q) := by
  unfold vc_X10_stemOf at h
  refine tz_starti hG RX10 [(0, .ref _), (1, .int x1), (2, .int x2)] (by decide) rfl (Nat.le_of_ble_eq_true rfl) rfl (fun E C hret => ?_)
  refine tz_iconst 0 (by decide) C dX10_stemOf_0 ?_
  refine tz_istore_n_k 3 [(0, .ref _), (1, .int x1), (2, .int x2)] C dX10_stemOf_1 rfl (Nat.le_of_ble_eq_true rfl) rfl ?_
  refine tz_iconst (-1) (by decide) C dX10_stemOf_2 ?_
  refine tz_istore_k [(3, .int 0), (0, .ref _), (1, .int x1), (2, .int x2)] C dX10_stemOf_3 (Nat.le_of_ble_eq_true rfl) rfl ?_
  refine tz_iconst (-1) (by decide) C dX10_stemOf_5 ?_
  refine tz_istore_k [(4, .int (-1)), (3, .int 0), (0, .ref _), (1, .int x1), (2, .int x2)] C dX10_stemOf_6 (Nat.le_of_ble_eq_true rfl) rfl ?_
  refine tz_iconst 0 (by decide) C dX10_stemOf_8 ?_
  refine tz_istore_k [(5, .int (-1)), (4, .int (-1)), (3, .int 0), (0, .ref _), (1, .int x1), (2, .int x2)] C dX10_stemOf_9 (Nat.le_of_ble_eq_true rfl) rfl ?_
  refine tz_sub (L := [(0, .ref _), (1, .int x1), (2, .int x2), (3, .int 0), (4, .int (-1)), (5, .int (-1)), (6, .int 0)]) ?_ [4, 5, 6, 3, 2, 1, 0] rfl
  refine tz_loop4_w (V := fun (x3_3 : Int32) (x4_4 : Int32) (x5_5 : Int32) (x6_6 : Int32) (σ_2 : tzS) => tz_V G E 11 [(0, .ref _), (1, .int x1), (2, .int x2), (3, .int x3_3), (4, .int x4_4), (5, .int x5_5), (6, .int x6_6)] [] σ_2) h (fun ag_1 ihag_1 x3_3 x4_4 x5_5 x6_6 σ_2 h => ?_)
  refine tz_iload 6 C dX10_stemOf_11 rfl ?_
  refine tz_aload_n 0 0 C dX10_stemOf_13 rfl rfl ?_
  refine tz_getI C dX10_stemOf_14 fl_RX10_109 (by decide) rfl rfl ?_
  refine tz_icmp_ge 79 C dX10_stemOf_17 (by decide) h (fun c_7 h => ?_) (fun c_7 h => ?_)
  · refine tz_iload_n 2 2 C dX10_stemOf_79 rfl rfl ?_
    refine tz_if_ne 92 C dX10_stemOf_80 (by decide) h (fun c_8 h => ?_) (fun c_8 h => ?_)
    · refine tz_iload_n 2 2 C dX10_stemOf_92 rfl rfl ?_
      refine tz_iconst 1 (by decide) C dX10_stemOf_93 ?_
      refine tz_icmp_ne 101 C dX10_stemOf_94 (by decide) h (fun c_9 h => ?_) (fun c_9 h => ?_)
      · refine tz_iload_n 2 2 C dX10_stemOf_101 rfl rfl ?_
        refine tz_iconst 2 (by decide) C dX10_stemOf_102 ?_
        refine tz_icmp_ne 111 C dX10_stemOf_103 (by decide) h (fun c_10 h => ?_) (fun c_10 h => ?_)
        · refine tz_iload 5 C dX10_stemOf_111 rfl ?_
          exact hret _ _ _ _ dX10_stemOf_113 h
        · refine tz_iload 4 C dX10_stemOf_106 rfl ?_
          refine tz_goto 113 C dX10_stemOf_108 (by decide) ?_
          exact hret _ _ _ _ dX10_stemOf_113 h
      · refine tz_iload_n 3 3 C dX10_stemOf_97 rfl rfl ?_
        refine tz_goto 113 C dX10_stemOf_98 (by decide) ?_
        exact hret _ _ _ _ dX10_stemOf_113 h
    · refine tz_aload_n 0 0 C dX10_stemOf_83 rfl rfl ?_
      refine tz_getR C dX10_stemOf_84 fl_RX10_31 (by decide) rfl rfl ?_
      refine tz_iload_n 1 1 C dX10_stemOf_87 rfl rfl ?_
      obtain ⟨hin_11, h⟩ := h
      refine tz_iald C dX10_stemOf_88 (by decide) rfl hin_11 ?_
      refine tz_goto 113 C dX10_stemOf_89 (by decide) ?_
      exact hret _ _ _ _ dX10_stemOf_113 h
  · refine tz_aload_n 0 0 C dX10_stemOf_20 rfl rfl ?_
    refine tz_getR C dX10_stemOf_21 fl_RX10_37 (by decide) rfl rfl ?_
    refine tz_bipush 110 (by decide) C dX10_stemOf_24 ?_
    refine tz_iload 6 C dX10_stemOf_26 rfl ?_
    refine tz_imul C dX10_stemOf_28 ?_
    refine tz_iload_n 1 1 C dX10_stemOf_29 rfl rfl ?_
    refine tz_iadd C dX10_stemOf_30 ?_
    obtain ⟨hin_12, h⟩ := h
    refine tz_iald C dX10_stemOf_31 (by decide) rfl hin_12 ?_
    refine tz_istore [(0, .ref _), (1, .int x1), (2, .int x2), (3, .int x3_3), (4, .int x4_4), (5, .int x5_5), (6, .int x6_6)] C dX10_stemOf_32 (Nat.le_of_ble_eq_true rfl) rfl h (fun x7_13 h => ?_)
    refine tz_iload_n 3 4 C dX10_stemOf_34 rfl rfl ?_
    refine tz_iload 0 C dX10_stemOf_35 rfl ?_
    refine tz_iadd C dX10_stemOf_37 ?_
    refine tz_istore_n 3 [(7, .int x7_13), (0, .ref _), (1, .int x1), (2, .int x2), (4, .int x4_4), (5, .int x5_5), (6, .int x6_6)] C dX10_stemOf_38 rfl (Nat.le_of_ble_eq_true rfl) rfl h (fun x3_14 h => ?_)
    refine tz_iload 1 C dX10_stemOf_39 rfl ?_
    refine tz_if_le 55 C dX10_stemOf_41 (by decide) h (fun c_15 h => ?_) (fun c_15 h => ?_)
    · refine tz_iload 5 C dX10_stemOf_55 rfl ?_
      refine tz_istore_k [(3, .int x3_14), (7, .int x7_13), (0, .ref _), (1, .int x1), (2, .int x2), (5, .int x5_5), (6, .int x6_6)] C dX10_stemOf_57 (Nat.le_of_ble_eq_true rfl) rfl ?_
      refine tz_iload 2 C dX10_stemOf_59 rfl ?_
      refine tz_if_le_t 69 C dX10_stemOf_61 (by decide) c_15 ?_
      refine tz_iload 6 C dX10_stemOf_69 rfl ?_
      refine tz_istore_k [(4, .int x4_4), (3, .int x3_14), (7, .int x7_13), (0, .ref _), (1, .int x1), (2, .int x2), (6, .int x6_6)] C dX10_stemOf_71 (Nat.le_of_ble_eq_true rfl) rfl ?_
      refine tz_iinc 7 [(5, .int x5_5), (4, .int x4_4), (3, .int x3_14), (7, .int x7_13), (0, .ref _), (1, .int x1), (2, .int x2)] 1 C dX10_stemOf_73 (by decide) rfl (Nat.le_of_ble_eq_true rfl) rfl h (fun x6_16 h => ?_)
      refine tz_goto 11 C dX10_stemOf_76 (by decide) ?_
      exact tz_sub (ihag_1 _ _ _ _ _ h) [5, 6, 7, 3, 2, 1, 0] rfl
    · refine tz_iload 5 C dX10_stemOf_44 rfl ?_
      refine tz_iconst (-1) (by decide) C dX10_stemOf_46 ?_
      refine tz_icmp_ne 55 C dX10_stemOf_47 (by decide) h (fun c_17 h => ?_) (fun c_17 h => ?_)
      · refine tz_iload 5 C dX10_stemOf_55 rfl ?_
        refine tz_istore_k [(3, .int x3_14), (7, .int x7_13), (0, .ref _), (1, .int x1), (2, .int x2), (5, .int x5_5), (6, .int x6_6)] C dX10_stemOf_57 (Nat.le_of_ble_eq_true rfl) rfl ?_
        refine tz_iload 2 C dX10_stemOf_59 rfl ?_
        refine tz_if_le_f 69 C dX10_stemOf_61 (by decide) c_15 ?_
        refine tz_iload 7 C dX10_stemOf_64 rfl ?_
        refine tz_goto 71 C dX10_stemOf_66 (by decide) ?_
        refine tz_istore_k [(4, .int x4_4), (3, .int x3_14), (7, .int x7_13), (0, .ref _), (1, .int x1), (2, .int x2), (6, .int x6_6)] C dX10_stemOf_71 (Nat.le_of_ble_eq_true rfl) rfl ?_
        refine tz_iinc 7 [(5, .int x6_6), (4, .int x4_4), (3, .int x3_14), (7, .int x7_13), (0, .ref _), (1, .int x1), (2, .int x2)] 1 C dX10_stemOf_73 (by decide) rfl (Nat.le_of_ble_eq_true rfl) rfl h (fun x6_18 h => ?_)
        refine tz_goto 11 C dX10_stemOf_76 (by decide) ?_
        exact tz_sub (ihag_1 _ _ _ _ _ h) [5, 6, 7, 3, 2, 1, 0] rfl
      · refine tz_iload 7 C dX10_stemOf_50 rfl ?_
        refine tz_goto 57 C dX10_stemOf_52 (by decide) ?_
        refine tz_istore_k [(3, .int x3_14), (7, .int x7_13), (0, .ref _), (1, .int x1), (2, .int x2), (5, .int x5_5), (6, .int x6_6)] C dX10_stemOf_57 (Nat.le_of_ble_eq_true rfl) rfl ?_
        refine tz_iload 2 C dX10_stemOf_59 rfl ?_
        refine tz_if_le_f 69 C dX10_stemOf_61 (by decide) c_15 ?_
        refine tz_iload 7 C dX10_stemOf_64 rfl ?_
        refine tz_goto 71 C dX10_stemOf_66 (by decide) ?_
        refine tz_istore_k [(4, .int x6_6), (3, .int x3_14), (7, .int x7_13), (0, .ref _), (1, .int x1), (2, .int x2), (6, .int x6_6)] C dX10_stemOf_71 (Nat.le_of_ble_eq_true rfl) rfl ?_
        refine tz_iinc 7 [(5, .int x6_6), (4, .int x6_6), (3, .int x3_14), (7, .int x7_13), (0, .ref _), (1, .int x1), (2, .int x2)] 1 C dX10_stemOf_73 (by decide) rfl (Nat.le_of_ble_eq_true rfl) rfl h (fun x6_19 h => ?_)
        refine tz_goto 11 C dX10_stemOf_76 (by decide) ?_
        exact tz_sub (ihag_1 _ _ _ _ _ h) [5, 6, 7, 3, 2, 1, 0] rfl

def vc_X10_stem (x1 : Int32) (x2 : Int32) (σ : tzS) (Q : Int32 → tzS → Prop) : Prop :=
  vc_X10_isStem x1 σ (fun (r_2 : Int32) (σ_1 : tzS) =>
    (r_2 = 0 →
      Q (-2) σ_1) ∧
    (¬ r_2 = 0 →
      vc_X10_in x2 0 3 σ_1 (fun (r_5 : Int32) (σ_4 : tzS) =>
        (r_5 = 0 →
          Q (-2) σ_4) ∧
        (¬ r_5 = 0 →
          vc_X10_stemOf x1 x2 σ_4 (fun (r_8 : Int32) (σ_7 : tzS) =>
            Q r_8 σ_7)))))
set_option maxRecDepth 20000 in
set_option maxHeartbeats 4000000 in
theorem m_X10_stem (G : tzG) (hG : tz_ok G) {x1 : Int32} {x2 : Int32}  {σ : tzS} {Q : Int32 → tzS → Prop} (h : vc_X10_stem x1 x2 σ Q) : tz_M G yX10_stem cX10_stem 3 (some .int) 5 116 [.ref 133, .int x1, .int x2] σ (tz_Qi G Q) := by
  unfold vc_X10_stem at h
  refine tz_starti hG RX10 [(0, .ref _), (1, .int x1), (2, .int x2)] (by decide) rfl (Nat.le_of_ble_eq_true rfl) rfl (fun E C hret => ?_)
  refine tz_aload_n 0 0 C dX10_stem_0 rfl rfl ?_
  refine tz_iload_n 1 1 C dX10_stem_1 rfl rfl ?_
  refine tz_calliv C dX10_stem_2 lk_RX10_175 (m_X10_isStem G hG  h) (by decide) rfl rfl rfl rfl ⟨Nat.le_of_ble_eq_true rfl, Nat.le_of_ble_eq_true rfl⟩ (Nat.le_of_ble_eq_true rfl) rfl (fun r_2 σ_1 h => ?_)
  refine tz_if_eq 26 C dX10_stem_5 (by decide) h (fun c_3 h => ?_) (fun c_3 h => ?_)
  · refine tz_bipush (-2) (by decide) C dX10_stem_26 ?_
    exact hret _ _ _ _ dX10_stem_28 h
  · refine tz_iload_n 2 2 C dX10_stem_8 rfl rfl ?_
    refine tz_iconst 0 (by decide) C dX10_stem_9 ?_
    refine tz_iconst 3 (by decide) C dX10_stem_10 ?_
    refine tz_callis C dX10_stem_11 lk_RX10_77 (m_X10_in G hG  h) rfl ⟨Nat.le_of_ble_eq_true rfl, Nat.le_of_ble_eq_true rfl⟩ (Nat.le_of_ble_eq_true rfl) rfl (fun r_5 σ_4 h => ?_)
    refine tz_if_eq 26 C dX10_stem_14 (by decide) h (fun c_6 h => ?_) (fun c_6 h => ?_)
    · refine tz_bipush (-2) (by decide) C dX10_stem_26 ?_
      exact hret _ _ _ _ dX10_stem_28 h
    · refine tz_aload_n 0 0 C dX10_stem_17 rfl rfl ?_
      refine tz_iload_n 1 1 C dX10_stem_18 rfl rfl ?_
      refine tz_iload_n 2 2 C dX10_stem_19 rfl rfl ?_
      refine tz_calliv C dX10_stem_20 lk_RX10_178 (m_X10_stemOf G hG  h) (by decide) rfl rfl rfl rfl ⟨Nat.le_of_ble_eq_true rfl, Nat.le_of_ble_eq_true rfl⟩ (Nat.le_of_ble_eq_true rfl) rfl (fun r_8 σ_7 h => ?_)
      refine tz_goto 28 C dX10_stem_23 (by decide) ?_
      exact hret _ _ _ _ dX10_stem_28 h

def vc_X10_letterOf (x1 : Int32) (x2 : Int32) (σ : tzS) (Q : Int32 → tzS → Prop) : Prop :=
  vp_in x1 110 ∧ (
    vc_X10_in x2 0 ((σ.1 141 x1.toNatClampNeg) - 1) σ (fun (r_3 : Int32) (σ_2 : tzS) =>
      (r_3 = 0 →
        Q (-2) σ_2) ∧
      (¬ r_3 = 0 →
        vp_in ((σ_2.1 140 x1.toNatClampNeg) + x2) 200 ∧ (
          Q (σ_2.1 134 ((σ_2.1 140 x1.toNatClampNeg) + x2).toNatClampNeg) σ_2))))
set_option maxRecDepth 20000 in
set_option maxHeartbeats 4000000 in
theorem m_X10_letterOf (G : tzG) (hG : tz_ok G) {x1 : Int32} {x2 : Int32}  {σ : tzS} {Q : Int32 → tzS → Prop} (h : vc_X10_letterOf x1 x2 σ Q) : tz_M G yX10_letterOf cX10_letterOf 3 (some .int) 1 22 [.ref 133, .int x1, .int x2] σ (tz_Qi G Q) := by
  unfold vc_X10_letterOf at h
  refine tz_starti hG RX10 [(0, .ref _), (1, .int x1), (2, .int x2)] (by decide) rfl (Nat.le_of_ble_eq_true rfl) rfl (fun E C hret => ?_)
  refine tz_iload_n 2 2 C dX10_letterOf_0 rfl rfl ?_
  refine tz_iconst 0 (by decide) C dX10_letterOf_1 ?_
  refine tz_aload_n 0 0 C dX10_letterOf_2 rfl rfl ?_
  refine tz_getR C dX10_letterOf_3 fl_RX10_31 (by decide) rfl rfl ?_
  refine tz_iload_n 1 1 C dX10_letterOf_6 rfl rfl ?_
  obtain ⟨hin_1, h⟩ := h
  refine tz_iald C dX10_letterOf_7 (by decide) rfl hin_1 ?_
  refine tz_iconst 1 (by decide) C dX10_letterOf_8 ?_
  refine tz_isub C dX10_letterOf_9 ?_
  refine tz_callis C dX10_letterOf_10 lk_RX10_77 (m_X10_in G hG  h) rfl ⟨Nat.le_of_ble_eq_true rfl, Nat.le_of_ble_eq_true rfl⟩ (Nat.le_of_ble_eq_true rfl) rfl (fun r_3 σ_2 h => ?_)
  refine tz_if_eq 32 C dX10_letterOf_13 (by decide) h (fun c_4 h => ?_) (fun c_4 h => ?_)
  · refine tz_bipush (-2) (by decide) C dX10_letterOf_32 ?_
    exact hret _ _ _ _ dX10_letterOf_34 h
  · refine tz_aload_n 0 0 C dX10_letterOf_16 rfl rfl ?_
    refine tz_getR C dX10_letterOf_17 fl_RX10_7 (by decide) rfl rfl ?_
    refine tz_aload_n 0 0 C dX10_letterOf_20 rfl rfl ?_
    refine tz_getR C dX10_letterOf_21 fl_RX10_28 (by decide) rfl rfl ?_
    refine tz_iload_n 1 1 C dX10_letterOf_24 rfl rfl ?_
    refine tz_iald C dX10_letterOf_25 (by decide) rfl hin_1 ?_
    refine tz_iload_n 2 2 C dX10_letterOf_26 rfl rfl ?_
    refine tz_iadd C dX10_letterOf_27 ?_
    obtain ⟨hin_5, h⟩ := h
    refine tz_iald C dX10_letterOf_28 (by decide) rfl hin_5 ?_
    refine tz_goto 34 C dX10_letterOf_29 (by decide) ?_
    exact hret _ _ _ _ dX10_letterOf_34 h

def vc_X10_letter (x1 : Int32) (x2 : Int32) (σ : tzS) (Q : Int32 → tzS → Prop) : Prop :=
  vc_X10_isStem x1 σ (fun (r_2 : Int32) (σ_1 : tzS) =>
    (r_2 = 0 →
      Q (-2) σ_1) ∧
    (¬ r_2 = 0 →
      vc_X10_letterOf x1 x2 σ_1 (fun (r_5 : Int32) (σ_4 : tzS) =>
        Q r_5 σ_4)))
set_option maxRecDepth 20000 in
set_option maxHeartbeats 4000000 in
theorem m_X10_letter (G : tzG) (hG : tz_ok G) {x1 : Int32} {x2 : Int32}  {σ : tzS} {Q : Int32 → tzS → Prop} (h : vc_X10_letter x1 x2 σ Q) : tz_M G yX10_letter cX10_letter 3 (some .int) 5 116 [.ref 133, .int x1, .int x2] σ (tz_Qi G Q) := by
  unfold vc_X10_letter at h
  refine tz_starti hG RX10 [(0, .ref _), (1, .int x1), (2, .int x2)] (by decide) rfl (Nat.le_of_ble_eq_true rfl) rfl (fun E C hret => ?_)
  refine tz_aload_n 0 0 C dX10_letter_0 rfl rfl ?_
  refine tz_iload_n 1 1 C dX10_letter_1 rfl rfl ?_
  refine tz_calliv C dX10_letter_2 lk_RX10_175 (m_X10_isStem G hG  h) (by decide) rfl rfl rfl rfl ⟨Nat.le_of_ble_eq_true rfl, Nat.le_of_ble_eq_true rfl⟩ (Nat.le_of_ble_eq_true rfl) rfl (fun r_2 σ_1 h => ?_)
  refine tz_if_eq 17 C dX10_letter_5 (by decide) h (fun c_3 h => ?_) (fun c_3 h => ?_)
  · refine tz_bipush (-2) (by decide) C dX10_letter_17 ?_
    exact hret _ _ _ _ dX10_letter_19 h
  · refine tz_aload_n 0 0 C dX10_letter_8 rfl rfl ?_
    refine tz_iload_n 1 1 C dX10_letter_9 rfl rfl ?_
    refine tz_iload_n 2 2 C dX10_letter_10 rfl rfl ?_
    refine tz_calliv C dX10_letter_11 lk_RX10_181 (m_X10_letterOf G hG  h) (by decide) rfl rfl rfl rfl ⟨Nat.le_of_ble_eq_true rfl, Nat.le_of_ble_eq_true rfl⟩ (Nat.le_of_ble_eq_true rfl) rfl (fun r_5 σ_4 h => ?_)
    refine tz_goto 19 C dX10_letter_14 (by decide) ?_
    exact hret _ _ _ _ dX10_letter_19 h

def vc_X10_ends (x1 : Int32) (x2 : Int32) (x3 : Int32) (x4 : Int32) (σ : tzS) (Q : tzS → Prop) : Prop :=
  (x4 ≤ 1 →
    Q σ) ∧
  (¬ x4 ≤ 1 →
    vp_in (σ.1 133 22) 110 ∧ (
      ∀ σ_2 : tzS, σ_2 = tz_st σ 144 (σ.1 133 22).toNatClampNeg x1 →
      vp_in (σ_2.1 133 22) 110 ∧ (
        ∀ σ_4 : tzS, σ_4 = tz_st σ_2 145 (σ_2.1 133 22).toNatClampNeg x2 →
        vp_in (σ_4.1 133 22) 110 ∧ (
          ∀ σ_6 : tzS, σ_6 = tz_st σ_4 146 (σ_4.1 133 22).toNatClampNeg x3 →
          vp_in (σ_6.1 133 22) 110 ∧ (
            ∀ σ_8 : tzS, σ_8 = tz_st σ_6 147 (σ_6.1 133 22).toNatClampNeg x4 →
            ∀ σ_10 : tzS, σ_10 = tz_st σ_8 133 22 ((σ_8.1 133 22) + 1) →
            Q σ_10)))))
set_option maxRecDepth 20000 in
set_option maxHeartbeats 4000000 in
theorem m_X10_ends (G : tzG) (hG : tz_ok G) {x1 : Int32} {x2 : Int32} {x3 : Int32} {x4 : Int32}  {σ : tzS} {Q : tzS → Prop} (h : vc_X10_ends x1 x2 x3 x4 σ Q) : tz_M G yX10_ends cX10_ends 5 (none) 0 0 [.ref 133, .int x1, .int x2, .int x3, .int x4] σ (tz_Qv G Q) := by
  unfold vc_X10_ends at h
  refine tz_startv hG RX10 [(0, .ref _), (1, .int x1), (2, .int x2), (3, .int x3), (4, .int x4)] (by decide) rfl (Nat.le_of_ble_eq_true rfl) rfl (fun E C hret => ?_)
  refine tz_iload 4 C dX10_ends_0 rfl ?_
  refine tz_iconst 1 (by decide) C dX10_ends_2 ?_
  refine tz_icmp_le 57 C dX10_ends_3 (by decide) h (fun c_1 h => ?_) (fun c_1 h => ?_)
  · exact hret _ _ _ dX10_ends_57 h
  · refine tz_aload_n 0 0 C dX10_ends_6 rfl rfl ?_
    refine tz_getR C dX10_ends_7 fl_RX10_40 (by decide) rfl rfl ?_
    refine tz_aload_n 0 0 C dX10_ends_10 rfl rfl ?_
    refine tz_getI C dX10_ends_11 fl_RX10_184 (by decide) rfl rfl ?_
    refine tz_iload_n 1 1 C dX10_ends_14 rfl rfl ?_
    have hin_3 := h.1
    refine tz_iast C dX10_ends_15 (by decide) rfl h (fun σ_2 h => ?_)
    refine tz_aload_n 0 0 C dX10_ends_16 rfl rfl ?_
    refine tz_getR C dX10_ends_17 fl_RX10_43 (by decide) rfl rfl ?_
    refine tz_aload_n 0 0 C dX10_ends_20 rfl rfl ?_
    refine tz_getI C dX10_ends_21 fl_RX10_184 (by decide) rfl rfl ?_
    refine tz_iload_n 2 2 C dX10_ends_24 rfl rfl ?_
    have hin_5 := h.1
    refine tz_iast C dX10_ends_25 (by decide) rfl h (fun σ_4 h => ?_)
    refine tz_aload_n 0 0 C dX10_ends_26 rfl rfl ?_
    refine tz_getR C dX10_ends_27 fl_RX10_46 (by decide) rfl rfl ?_
    refine tz_aload_n 0 0 C dX10_ends_30 rfl rfl ?_
    refine tz_getI C dX10_ends_31 fl_RX10_184 (by decide) rfl rfl ?_
    refine tz_iload_n 3 3 C dX10_ends_34 rfl rfl ?_
    have hin_7 := h.1
    refine tz_iast C dX10_ends_35 (by decide) rfl h (fun σ_6 h => ?_)
    refine tz_aload_n 0 0 C dX10_ends_36 rfl rfl ?_
    refine tz_getR C dX10_ends_37 fl_RX10_49 (by decide) rfl rfl ?_
    refine tz_aload_n 0 0 C dX10_ends_40 rfl rfl ?_
    refine tz_getI C dX10_ends_41 fl_RX10_184 (by decide) rfl rfl ?_
    refine tz_iload 4 C dX10_ends_44 rfl ?_
    have hin_9 := h.1
    refine tz_iast C dX10_ends_46 (by decide) rfl h (fun σ_8 h => ?_)
    refine tz_aload_n 0 0 C dX10_ends_47 rfl rfl ?_
    refine tz_dup C dX10_ends_48 rfl ?_
    refine tz_getI C dX10_ends_49 fl_RX10_184 (by decide) rfl rfl ?_
    refine tz_iconst 1 (by decide) C dX10_ends_52 ?_
    refine tz_iadd C dX10_ends_53 ?_
    refine tz_put C dX10_ends_54 fp_RX10_184 (by decide) rfl rfl rfl rfl h (fun σ_10 h => ?_)
    exact hret _ _ _ dX10_ends_57 h

def vc_X10_findsChains  (σ : tzS) (Q : tzS → Prop) : Prop :=
  vc_X10_reads  σ (fun (σ_1 : tzS) =>
    ∀ σ_2 : tzS, σ_2 = tz_st σ_1 133 22 0 →
    tz_loop1 (fun (x1_5 : Int32) (σ_4 : tzS) (ag_3 : Int32 → tzS → Prop) =>
      ((σ_4.1 133 9) ≤ x1_5 →
        Q σ_4) ∧
      (¬ (σ_4.1 133 9) ≤ x1_5 →
        tz_loop4 (fun (x2_9 : Int32) (x3_10 : Int32) (x4_11 : Int32) (x5_12 : Int32) (σ_8 : tzS) (ag_7 : Int32 → Int32 → Int32 → Int32 → tzS → Prop) =>
          ((σ_8.1 133 7) ≤ x5_12 →
            vc_X10_ends x1_5 x2_9 x3_10 x4_11 σ_8 (fun (σ_14 : tzS) =>
              ∀ x1_15 : Int32, x1_15 = x1_5 + 1 →
              ag_3 x1_15 σ_14)) ∧
          (¬ (σ_8.1 133 7) ≤ x5_12 →
            vp_in ((110 * x5_12) + x1_5) 1320 ∧ (
              ∀ x6_17 : Int32, x6_17 = (σ_8.1 143 ((110 * x5_12) + x1_5).toNatClampNeg) →
              (x6_17 ≤ 0 →
                ∀ x5_19 : Int32, x5_19 = x5_12 + 1 →
                ag_7 x2_9 x3_10 x4_11 x5_19 σ_8) ∧
              (¬ x6_17 ≤ 0 →
                (x2_9 = (-1) →
                  ∀ x4_21 : Int32, x4_21 = (x4_11 + x6_17) →
                  ∀ x5_22 : Int32, x5_22 = x5_12 + 1 →
                  ag_7 x5_12 x5_12 x4_21 x5_22 σ_8) ∧
                (¬ x2_9 = (-1) →
                  ((x5_12 - x3_10) ≤ (σ_8.1 135 2) →
                    ∀ x4_24 : Int32, x4_24 = (x4_11 + x6_17) →
                    ∀ x5_25 : Int32, x5_25 = x5_12 + 1 →
                    ag_7 x2_9 x5_12 x4_24 x5_25 σ_8) ∧
                  (¬ (x5_12 - x3_10) ≤ (σ_8.1 135 2) →
                    vc_X10_ends x1_5 x2_9 x3_10 x4_11 σ_8 (fun (σ_26 : tzS) =>
                      ∀ x4_27 : Int32, x4_27 = (0 + x6_17) →
                      ∀ x5_28 : Int32, x5_28 = x5_12 + 1 →
                      ag_7 x5_12 x5_12 x4_27 x5_28 σ_26))))))) ((-1) : Int32) ((-1) : Int32) (0 : Int32) (0 : Int32) σ_4)) (0 : Int32) σ_2)
set_option maxRecDepth 20000 in
set_option maxHeartbeats 4000000 in
theorem m_X10_findsChains (G : tzG) (hG : tz_ok G)   {σ : tzS} {Q : tzS → Prop} (h : vc_X10_findsChains  σ Q) : tz_M G yX10_findsChains cX10_findsChains 7 (none) 4 95 [.ref 133] σ (tz_Qv G Q) := by
  unfold vc_X10_findsChains at h
  refine tz_startv hG RX10 [(0, .ref _)] (by decide) rfl (Nat.le_of_ble_eq_true rfl) rfl (fun E C hret => ?_)
  refine tz_aload_n 0 0 C dX10_findsChains_0 rfl rfl ?_
  refine tz_callvv C dX10_findsChains_1 lk_RX10_147 (m_X10_reads G hG  h) (by decide) rfl rfl rfl rfl ⟨Nat.le_of_ble_eq_true rfl, Nat.le_of_ble_eq_true rfl⟩ (Nat.le_of_ble_eq_true rfl) rfl (fun σ_1 h => ?_)
  refine tz_aload_n 0 0 C dX10_findsChains_4 rfl rfl ?_
  refine tz_iconst 0 (by decide) C dX10_findsChains_5 ?_
  refine tz_put C dX10_findsChains_6 fp_RX10_184 (by decide) rfl rfl rfl rfl h (fun σ_2 h => ?_)
  refine tz_iconst 0 (by decide) C dX10_findsChains_9 ?_
  refine tz_istore_n_k 1 [(0, .ref _)] C dX10_findsChains_10 rfl (Nat.le_of_ble_eq_true rfl) rfl ?_
  refine tz_sub (L := [(0, .ref _), (1, .int 0)]) ?_ [1, 0] rfl
  refine tz_loop1_w (V := fun (x1_5 : Int32) (σ_4 : tzS) => tz_V G E 11 [(0, .ref _), (1, .int x1_5)] [] σ_4) h (fun ag_3 ihag_3 x1_5 σ_4 h => ?_)
  refine tz_iload_n 1 1 C dX10_findsChains_11 rfl rfl ?_
  refine tz_aload_n 0 0 C dX10_findsChains_12 rfl rfl ?_
  refine tz_getI C dX10_findsChains_13 fl_RX10_135 (by decide) rfl rfl ?_
  refine tz_icmp_ge 132 C dX10_findsChains_16 (by decide) h (fun c_6 h => ?_) (fun c_6 h => ?_)
  · exact hret _ _ _ dX10_findsChains_132 h
  · refine tz_iconst (-1) (by decide) C dX10_findsChains_19 ?_
    refine tz_istore_n_k 2 [(0, .ref _), (1, .int x1_5)] C dX10_findsChains_20 rfl (Nat.le_of_ble_eq_true rfl) rfl ?_
    refine tz_iconst (-1) (by decide) C dX10_findsChains_21 ?_
    refine tz_istore_n_k 3 [(2, .int (-1)), (0, .ref _), (1, .int x1_5)] C dX10_findsChains_22 rfl (Nat.le_of_ble_eq_true rfl) rfl ?_
    refine tz_iconst 0 (by decide) C dX10_findsChains_23 ?_
    refine tz_istore_k [(3, .int (-1)), (2, .int (-1)), (0, .ref _), (1, .int x1_5)] C dX10_findsChains_24 (Nat.le_of_ble_eq_true rfl) rfl ?_
    refine tz_iconst 0 (by decide) C dX10_findsChains_26 ?_
    refine tz_istore_k [(4, .int 0), (3, .int (-1)), (2, .int (-1)), (0, .ref _), (1, .int x1_5)] C dX10_findsChains_27 (Nat.le_of_ble_eq_true rfl) rfl ?_
    refine tz_sub (L := [(0, .ref _), (1, .int x1_5), (2, .int (-1)), (3, .int (-1)), (4, .int 0), (5, .int 0)]) ?_ [4, 5, 3, 2, 1, 0] rfl
    refine tz_loop4_w (V := fun (x2_9 : Int32) (x3_10 : Int32) (x4_11 : Int32) (x5_12 : Int32) (σ_8 : tzS) => tz_V G E 29 [(0, .ref _), (1, .int x1_5), (2, .int x2_9), (3, .int x3_10), (4, .int x4_11), (5, .int x5_12)] [] σ_8) h (fun ag_7 ihag_7 x2_9 x3_10 x4_11 x5_12 σ_8 h => ?_)
    refine tz_iload 5 C dX10_findsChains_29 rfl ?_
    refine tz_aload_n 0 0 C dX10_findsChains_31 rfl rfl ?_
    refine tz_getI C dX10_findsChains_32 fl_RX10_109 (by decide) rfl rfl ?_
    refine tz_icmp_ge 117 C dX10_findsChains_35 (by decide) h (fun c_13 h => ?_) (fun c_13 h => ?_)
    · refine tz_aload_n 0 0 C dX10_findsChains_117 rfl rfl ?_
      refine tz_iload_n 1 1 C dX10_findsChains_118 rfl rfl ?_
      refine tz_iload_n 2 2 C dX10_findsChains_119 rfl rfl ?_
      refine tz_iload_n 3 3 C dX10_findsChains_120 rfl rfl ?_
      refine tz_iload 4 C dX10_findsChains_121 rfl ?_
      refine tz_callvv C dX10_findsChains_123 lk_RX10_187 (m_X10_ends G hG  h) (by decide) rfl rfl rfl rfl ⟨Nat.le_of_ble_eq_true rfl, Nat.le_of_ble_eq_true rfl⟩ (Nat.le_of_ble_eq_true rfl) rfl (fun σ_14 h => ?_)
      refine tz_iinc 1 [(0, .ref _), (2, .int x2_9), (3, .int x3_10), (4, .int x4_11), (5, .int x5_12)] 1 C dX10_findsChains_126 (by decide) rfl (Nat.le_of_ble_eq_true rfl) rfl h (fun x1_15 h => ?_)
      refine tz_goto 11 C dX10_findsChains_129 (by decide) ?_
      exact tz_sub (ihag_3 _ _ h) [1, 0] rfl
    · refine tz_aload_n 0 0 C dX10_findsChains_38 rfl rfl ?_
      refine tz_getR C dX10_findsChains_39 fl_RX10_37 (by decide) rfl rfl ?_
      refine tz_bipush 110 (by decide) C dX10_findsChains_42 ?_
      refine tz_iload 5 C dX10_findsChains_44 rfl ?_
      refine tz_imul C dX10_findsChains_46 ?_
      refine tz_iload_n 1 1 C dX10_findsChains_47 rfl rfl ?_
      refine tz_iadd C dX10_findsChains_48 ?_
      obtain ⟨hin_16, h⟩ := h
      refine tz_iald C dX10_findsChains_49 (by decide) rfl hin_16 ?_
      refine tz_istore [(0, .ref _), (1, .int x1_5), (2, .int x2_9), (3, .int x3_10), (4, .int x4_11), (5, .int x5_12)] C dX10_findsChains_50 (Nat.le_of_ble_eq_true rfl) rfl h (fun x6_17 h => ?_)
      refine tz_iload 0 C dX10_findsChains_52 rfl ?_
      refine tz_if_le 111 C dX10_findsChains_54 (by decide) h (fun c_18 h => ?_) (fun c_18 h => ?_)
      · refine tz_iinc 6 [(6, .int x6_17), (0, .ref _), (1, .int x1_5), (2, .int x2_9), (3, .int x3_10), (4, .int x4_11)] 1 C dX10_findsChains_111 (by decide) rfl (Nat.le_of_ble_eq_true rfl) rfl h (fun x5_19 h => ?_)
        refine tz_goto 29 C dX10_findsChains_114 (by decide) ?_
        exact tz_sub (ihag_7 _ _ _ _ _ h) [2, 3, 4, 5, 6, 0] rfl
      · refine tz_iload_n 2 3 C dX10_findsChains_57 rfl rfl ?_
        refine tz_iconst (-1) (by decide) C dX10_findsChains_58 ?_
        refine tz_icmp_eq 89 C dX10_findsChains_59 (by decide) h (fun c_20 h => ?_) (fun c_20 h => ?_)
        · refine tz_iload_n 2 3 C dX10_findsChains_89 rfl rfl ?_
          refine tz_iconst (-1) (by decide) C dX10_findsChains_90 ?_
          refine tz_icmp_ne_f 99 C dX10_findsChains_91 (by decide) c_20 ?_
          refine tz_iload 6 C dX10_findsChains_94 rfl ?_
          refine tz_goto 100 C dX10_findsChains_96 (by decide) ?_
          refine tz_istore_n_k 2 [(6, .int x6_17), (0, .ref _), (1, .int x1_5), (3, .int x3_10), (4, .int x4_11), (5, .int x5_12)] C dX10_findsChains_100 rfl (Nat.le_of_ble_eq_true rfl) rfl ?_
          refine tz_iload 6 C dX10_findsChains_101 rfl ?_
          refine tz_istore_n_k 3 [(2, .int x5_12), (6, .int x6_17), (0, .ref _), (1, .int x1_5), (4, .int x4_11), (5, .int x5_12)] C dX10_findsChains_103 rfl (Nat.le_of_ble_eq_true rfl) rfl ?_
          refine tz_iload 5 C dX10_findsChains_104 rfl ?_
          refine tz_iload 2 C dX10_findsChains_106 rfl ?_
          refine tz_iadd C dX10_findsChains_108 ?_
          refine tz_istore [(3, .int x5_12), (2, .int x5_12), (6, .int x6_17), (0, .ref _), (1, .int x1_5), (5, .int x5_12)] C dX10_findsChains_109 (Nat.le_of_ble_eq_true rfl) rfl h (fun x4_21 h => ?_)
          refine tz_iinc 6 [(4, .int x4_21), (3, .int x5_12), (2, .int x5_12), (6, .int x6_17), (0, .ref _), (1, .int x1_5)] 1 C dX10_findsChains_111 (by decide) rfl (Nat.le_of_ble_eq_true rfl) rfl h (fun x5_22 h => ?_)
          refine tz_goto 29 C dX10_findsChains_114 (by decide) ?_
          exact tz_sub (ihag_7 _ _ _ _ _ h) [5, 6, 3, 2, 1, 0] rfl
        · refine tz_iload 6 C dX10_findsChains_62 rfl ?_
          refine tz_iload_n 3 4 C dX10_findsChains_64 rfl rfl ?_
          refine tz_isub C dX10_findsChains_65 ?_
          refine tz_aload_n 0 1 C dX10_findsChains_66 rfl rfl ?_
          refine tz_getR C dX10_findsChains_67 fl_RX10_13 (by decide) rfl rfl ?_
          refine tz_iconst 2 (by decide) C dX10_findsChains_70 ?_
          refine tz_iald_c 2 C dX10_findsChains_71 (by decide) rfl (tz_inl rfl) rfl ?_
          refine tz_icmp_le 89 C dX10_findsChains_72 (by decide) h (fun c_23 h => ?_) (fun c_23 h => ?_)
          · refine tz_iload_n 2 3 C dX10_findsChains_89 rfl rfl ?_
            refine tz_iconst (-1) (by decide) C dX10_findsChains_90 ?_
            refine tz_icmp_ne_t 99 C dX10_findsChains_91 (by decide) c_20 ?_
            refine tz_iload_n 2 3 C dX10_findsChains_99 rfl rfl ?_
            refine tz_istore_n_k 2 [(6, .int x6_17), (0, .ref _), (1, .int x1_5), (3, .int x3_10), (4, .int x4_11), (5, .int x5_12)] C dX10_findsChains_100 rfl (Nat.le_of_ble_eq_true rfl) rfl ?_
            refine tz_iload 6 C dX10_findsChains_101 rfl ?_
            refine tz_istore_n_k 3 [(2, .int x2_9), (6, .int x6_17), (0, .ref _), (1, .int x1_5), (4, .int x4_11), (5, .int x5_12)] C dX10_findsChains_103 rfl (Nat.le_of_ble_eq_true rfl) rfl ?_
            refine tz_iload 5 C dX10_findsChains_104 rfl ?_
            refine tz_iload 2 C dX10_findsChains_106 rfl ?_
            refine tz_iadd C dX10_findsChains_108 ?_
            refine tz_istore [(3, .int x5_12), (2, .int x2_9), (6, .int x6_17), (0, .ref _), (1, .int x1_5), (5, .int x5_12)] C dX10_findsChains_109 (Nat.le_of_ble_eq_true rfl) rfl h (fun x4_24 h => ?_)
            refine tz_iinc 6 [(4, .int x4_24), (3, .int x5_12), (2, .int x2_9), (6, .int x6_17), (0, .ref _), (1, .int x1_5)] 1 C dX10_findsChains_111 (by decide) rfl (Nat.le_of_ble_eq_true rfl) rfl h (fun x5_25 h => ?_)
            refine tz_goto 29 C dX10_findsChains_114 (by decide) ?_
            exact tz_sub (ihag_7 _ _ _ _ _ h) [5, 6, 3, 2, 1, 0] rfl
          · refine tz_aload_n 0 1 C dX10_findsChains_75 rfl rfl ?_
            refine tz_iload_n 1 2 C dX10_findsChains_76 rfl rfl ?_
            refine tz_iload_n 2 3 C dX10_findsChains_77 rfl rfl ?_
            refine tz_iload_n 3 4 C dX10_findsChains_78 rfl rfl ?_
            refine tz_iload 5 C dX10_findsChains_79 rfl ?_
            refine tz_callvv C dX10_findsChains_81 lk_RX10_187 (m_X10_ends G hG  h) (by decide) rfl rfl rfl rfl ⟨Nat.le_of_ble_eq_true rfl, Nat.le_of_ble_eq_true rfl⟩ (Nat.le_of_ble_eq_true rfl) rfl (fun σ_26 h => ?_)
            refine tz_iconst (-1) (by decide) C dX10_findsChains_84 ?_
            refine tz_istore_n_k 2 [(6, .int x6_17), (0, .ref _), (1, .int x1_5), (3, .int x3_10), (4, .int x4_11), (5, .int x5_12)] C dX10_findsChains_85 rfl (Nat.le_of_ble_eq_true rfl) rfl ?_
            refine tz_iconst 0 (by decide) C dX10_findsChains_86 ?_
            refine tz_istore_k [(2, .int (-1)), (6, .int x6_17), (0, .ref _), (1, .int x1_5), (3, .int x3_10), (5, .int x5_12)] C dX10_findsChains_87 (Nat.le_of_ble_eq_true rfl) rfl ?_
            refine tz_iload_n 2 1 C dX10_findsChains_89 rfl rfl ?_
            refine tz_iconst (-1) (by decide) C dX10_findsChains_90 ?_
            refine tz_icmp_ne_f 99 C dX10_findsChains_91 (by decide) (by decide) ?_
            refine tz_iload 6 C dX10_findsChains_94 rfl ?_
            refine tz_goto 100 C dX10_findsChains_96 (by decide) ?_
            refine tz_istore_n_k 2 [(4, .int 0), (6, .int x6_17), (0, .ref _), (1, .int x1_5), (3, .int x3_10), (5, .int x5_12)] C dX10_findsChains_100 rfl (Nat.le_of_ble_eq_true rfl) rfl ?_
            refine tz_iload 6 C dX10_findsChains_101 rfl ?_
            refine tz_istore_n_k 3 [(2, .int x5_12), (4, .int 0), (6, .int x6_17), (0, .ref _), (1, .int x1_5), (5, .int x5_12)] C dX10_findsChains_103 rfl (Nat.le_of_ble_eq_true rfl) rfl ?_
            refine tz_iload 2 C dX10_findsChains_104 rfl ?_
            refine tz_iload 3 C dX10_findsChains_106 rfl ?_
            refine tz_iadd C dX10_findsChains_108 ?_
            refine tz_istore [(3, .int x5_12), (2, .int x5_12), (6, .int x6_17), (0, .ref _), (1, .int x1_5), (5, .int x5_12)] C dX10_findsChains_109 (Nat.le_of_ble_eq_true rfl) rfl h (fun x4_27 h => ?_)
            refine tz_iinc 6 [(4, .int x4_27), (3, .int x5_12), (2, .int x5_12), (6, .int x6_17), (0, .ref _), (1, .int x1_5)] 1 C dX10_findsChains_111 (by decide) rfl (Nat.le_of_ble_eq_true rfl) rfl h (fun x5_28 h => ?_)
            refine tz_goto 29 C dX10_findsChains_114 (by decide) ?_
            exact tz_sub (ihag_7 _ _ _ _ _ h) [5, 6, 3, 2, 1, 0] rfl

def vc_X10_chainsOf  (σ : tzS) (Q : Int32 → tzS → Prop) : Prop :=
  vc_X10_findsChains  σ (fun (σ_1 : tzS) =>
    Q (σ_1.1 133 22) σ_1)
set_option maxRecDepth 20000 in
set_option maxHeartbeats 4000000 in
theorem m_X10_chainsOf (G : tzG) (hG : tz_ok G)   {σ : tzS} {Q : Int32 → tzS → Prop} (h : vc_X10_chainsOf  σ Q) : tz_M G yX10_chainsOf cX10_chainsOf 1 (some .int) 5 121 [.ref 133] σ (tz_Qi G Q) := by
  unfold vc_X10_chainsOf at h
  refine tz_starti hG RX10 [(0, .ref _)] (by decide) rfl (Nat.le_of_ble_eq_true rfl) rfl (fun E C hret => ?_)
  refine tz_aload_n 0 0 C dX10_chainsOf_0 rfl rfl ?_
  refine tz_callvv C dX10_chainsOf_1 lk_RX10_191 (m_X10_findsChains G hG  h) (by decide) rfl rfl rfl rfl ⟨Nat.le_of_ble_eq_true rfl, Nat.le_of_ble_eq_true rfl⟩ (Nat.le_of_ble_eq_true rfl) rfl (fun σ_1 h => ?_)
  refine tz_aload_n 0 0 C dX10_chainsOf_4 rfl rfl ?_
  refine tz_getI C dX10_chainsOf_5 fl_RX10_184 (by decide) rfl rfl ?_
  exact hret _ _ _ _ dX10_chainsOf_8 h

def vc_X10_chains  (σ : tzS) (Q : Int32 → tzS → Prop) : Prop :=
  vc_X10_chainsOf  σ (fun (r_2 : Int32) (σ_1 : tzS) =>
    Q r_2 σ_1)
set_option maxRecDepth 20000 in
set_option maxHeartbeats 4000000 in
theorem m_X10_chains (G : tzG) (hG : tz_ok G)   {σ : tzS} {Q : Int32 → tzS → Prop} (h : vc_X10_chains  σ Q) : tz_M G yX10_chains cX10_chains 1 (some .int) 6 141 [.ref 133] σ (tz_Qi G Q) := by
  unfold vc_X10_chains at h
  refine tz_starti hG RX10 [(0, .ref _)] (by decide) rfl (Nat.le_of_ble_eq_true rfl) rfl (fun E C hret => ?_)
  refine tz_aload_n 0 0 C dX10_chains_0 rfl rfl ?_
  refine tz_calliv C dX10_chains_1 lk_RX10_194 (m_X10_chainsOf G hG  h) (by decide) rfl rfl rfl rfl ⟨Nat.le_of_ble_eq_true rfl, Nat.le_of_ble_eq_true rfl⟩ (Nat.le_of_ble_eq_true rfl) rfl (fun r_2 σ_1 h => ?_)
  exact hret _ _ _ _ dX10_chains_4 h

def vc_X10_weight (x1 : Int32) (σ : tzS) (Q : Int32 → tzS → Prop) : Prop :=
  vp_in x1 110 ∧ (
    Q ((σ.1 147 x1.toNatClampNeg) * (((σ.1 146 x1.toNatClampNeg) - (σ.1 145 x1.toNatClampNeg)) + 1)) σ)
set_option maxRecDepth 20000 in
set_option maxHeartbeats 4000000 in
theorem m_X10_weight (G : tzG) (hG : tz_ok G) {x1 : Int32}  {σ : tzS} {Q : Int32 → tzS → Prop} (h : vc_X10_weight x1 σ Q) : tz_M G yX10_weight cX10_weight 2 (some .int) 0 0 [.ref 133, .int x1] σ (tz_Qi G Q) := by
  unfold vc_X10_weight at h
  refine tz_starti hG RX10 [(0, .ref _), (1, .int x1)] (by decide) rfl (Nat.le_of_ble_eq_true rfl) rfl (fun E C hret => ?_)
  refine tz_aload_n 0 0 C dX10_weight_0 rfl rfl ?_
  refine tz_getR C dX10_weight_1 fl_RX10_49 (by decide) rfl rfl ?_
  refine tz_iload_n 1 1 C dX10_weight_4 rfl rfl ?_
  obtain ⟨hin_1, h⟩ := h
  refine tz_iald C dX10_weight_5 (by decide) rfl hin_1 ?_
  refine tz_aload_n 0 0 C dX10_weight_6 rfl rfl ?_
  refine tz_getR C dX10_weight_7 fl_RX10_46 (by decide) rfl rfl ?_
  refine tz_iload_n 1 1 C dX10_weight_10 rfl rfl ?_
  refine tz_iald C dX10_weight_11 (by decide) rfl hin_1 ?_
  refine tz_aload_n 0 0 C dX10_weight_12 rfl rfl ?_
  refine tz_getR C dX10_weight_13 fl_RX10_43 (by decide) rfl rfl ?_
  refine tz_iload_n 1 1 C dX10_weight_16 rfl rfl ?_
  refine tz_iald C dX10_weight_17 (by decide) rfl hin_1 ?_
  refine tz_isub C dX10_weight_18 ?_
  refine tz_iconst 1 (by decide) C dX10_weight_19 ?_
  refine tz_iadd C dX10_weight_20 ?_
  refine tz_imul C dX10_weight_21 ?_
  exact hret _ _ _ _ dX10_weight_22 h

def vc_X10_chainOf (x1 : Int32) (x2 : Int32) (σ : tzS) (Q : Int32 → tzS → Prop) : Prop :=
  vc_X10_findsChains  σ (fun (σ_1 : tzS) =>
    (x1 < (σ_1.1 133 22) →
      (x2 = 0 →
        vp_in x1 110 ∧ (
          Q (σ_1.1 144 x1.toNatClampNeg) σ_1)) ∧
      (x2 = 1 →
        vp_in x1 110 ∧ (
          Q (σ_1.1 145 x1.toNatClampNeg) σ_1)) ∧
      (x2 = 2 →
        vp_in x1 110 ∧ (
          Q (σ_1.1 146 x1.toNatClampNeg) σ_1)) ∧
      (x2 = 3 →
        vp_in x1 110 ∧ (
          Q (σ_1.1 147 x1.toNatClampNeg) σ_1)) ∧
      (¬ x2 = 0 → ¬ x2 = 1 → ¬ x2 = 2 → ¬ x2 = 3 →
        vc_X10_weight x1 σ_1 (fun (r_8 : Int32) (σ_7 : tzS) =>
          Q r_8 σ_7))) ∧
    (¬ x1 < (σ_1.1 133 22) →
      Q (-1) σ_1))
set_option maxRecDepth 20000 in
set_option maxHeartbeats 4000000 in
theorem m_X10_chainOf (G : tzG) (hG : tz_ok G) {x1 : Int32} {x2 : Int32}  {σ : tzS} {Q : Int32 → tzS → Prop} (h : vc_X10_chainOf x1 x2 σ Q) : tz_M G yX10_chainOf cX10_chainOf 3 (some .int) 5 121 [.ref 133, .int x1, .int x2] σ (tz_Qi G Q) := by
  unfold vc_X10_chainOf at h
  refine tz_starti hG RX10 [(0, .ref _), (1, .int x1), (2, .int x2)] (by decide) rfl (Nat.le_of_ble_eq_true rfl) rfl (fun E C hret => ?_)
  refine tz_aload_n 0 0 C dX10_chainOf_0 rfl rfl ?_
  refine tz_callvv C dX10_chainOf_1 lk_RX10_191 (m_X10_findsChains G hG  h) (by decide) rfl rfl rfl rfl ⟨Nat.le_of_ble_eq_true rfl, Nat.le_of_ble_eq_true rfl⟩ (Nat.le_of_ble_eq_true rfl) rfl (fun σ_1 h => ?_)
  refine tz_iload_n 1 1 C dX10_chainOf_4 rfl rfl ?_
  refine tz_aload_n 0 0 C dX10_chainOf_5 rfl rfl ?_
  refine tz_getI C dX10_chainOf_6 fl_RX10_184 (by decide) rfl rfl ?_
  refine tz_icmp_lt 14 C dX10_chainOf_9 (by decide) h (fun c_2 h => ?_) (fun c_2 h => ?_)
  · refine tz_iload_n 2 2 C dX10_chainOf_14 rfl rfl ?_
    refine tz_swc 0 (29) 44 C dX10_chainOf_15 (by decide) (by decide) rfl (by decide) h (fun h => ?_) (fun e0 h => ?_)
    · refine tz_aload_n 0 0 C dX10_chainOf_44 rfl rfl ?_
      refine tz_getR C dX10_chainOf_45 fl_RX10_40 (by decide) rfl rfl ?_
      refine tz_iload_n 1 1 C dX10_chainOf_48 rfl rfl ?_
      obtain ⟨hin_3, h⟩ := h
      refine tz_iald C dX10_chainOf_49 (by decide) rfl hin_3 ?_
      exact hret _ _ _ _ dX10_chainOf_50 h
    refine tz_swc 1 (36) 51 C dX10_chainOf_15 (by decide) (by decide) rfl (by decide) h (fun h => ?_) (fun e1 h => ?_)
    · refine tz_aload_n 0 0 C dX10_chainOf_51 rfl rfl ?_
      refine tz_getR C dX10_chainOf_52 fl_RX10_43 (by decide) rfl rfl ?_
      refine tz_iload_n 1 1 C dX10_chainOf_55 rfl rfl ?_
      obtain ⟨hin_4, h⟩ := h
      refine tz_iald C dX10_chainOf_56 (by decide) rfl hin_4 ?_
      exact hret _ _ _ _ dX10_chainOf_57 h
    refine tz_swc 2 (43) 58 C dX10_chainOf_15 (by decide) (by decide) rfl (by decide) h (fun h => ?_) (fun e2 h => ?_)
    · refine tz_aload_n 0 0 C dX10_chainOf_58 rfl rfl ?_
      refine tz_getR C dX10_chainOf_59 fl_RX10_46 (by decide) rfl rfl ?_
      refine tz_iload_n 1 1 C dX10_chainOf_62 rfl rfl ?_
      obtain ⟨hin_5, h⟩ := h
      refine tz_iald C dX10_chainOf_63 (by decide) rfl hin_5 ?_
      exact hret _ _ _ _ dX10_chainOf_64 h
    refine tz_swc 3 (50) 65 C dX10_chainOf_15 (by decide) (by decide) rfl (by decide) h (fun h => ?_) (fun e3 h => ?_)
    · refine tz_aload_n 0 0 C dX10_chainOf_65 rfl rfl ?_
      refine tz_getR C dX10_chainOf_66 fl_RX10_49 (by decide) rfl rfl ?_
      refine tz_iload_n 1 1 C dX10_chainOf_69 rfl rfl ?_
      obtain ⟨hin_6, h⟩ := h
      refine tz_iald C dX10_chainOf_70 (by decide) rfl hin_6 ?_
      exact hret _ _ _ _ dX10_chainOf_71 h
    replace h := h e0 e1 e2 e3
    refine tz_tabOut 72 C dX10_chainOf_15 (tz_out3 e0 e1 e2 e3) (by decide) ?_
    refine tz_aload_n 0 0 C dX10_chainOf_72 rfl rfl ?_
    refine tz_iload_n 1 1 C dX10_chainOf_73 rfl rfl ?_
    refine tz_calliv C dX10_chainOf_74 lk_RX10_198 (m_X10_weight G hG  h) (by decide) rfl rfl rfl rfl ⟨Nat.le_of_ble_eq_true rfl, Nat.le_of_ble_eq_true rfl⟩ (Nat.le_of_ble_eq_true rfl) rfl (fun r_8 σ_7 h => ?_)
    exact hret _ _ _ _ dX10_chainOf_77 h
  · refine tz_iconst (-1) (by decide) C dX10_chainOf_12 ?_
    exact hret _ _ _ _ dX10_chainOf_13 h

def vc_X10_chain (x1 : Int32) (x2 : Int32) (σ : tzS) (Q : Int32 → tzS → Prop) : Prop :=
  vc_X10_in x1 0 99 σ (fun (r_2 : Int32) (σ_1 : tzS) =>
    (r_2 = 0 →
      Q (-2) σ_1) ∧
    (¬ r_2 = 0 →
      vc_X10_in x2 0 4 σ_1 (fun (r_5 : Int32) (σ_4 : tzS) =>
        (r_5 = 0 →
          Q (-2) σ_4) ∧
        (¬ r_5 = 0 →
          vc_X10_chainOf x1 x2 σ_4 (fun (r_8 : Int32) (σ_7 : tzS) =>
            Q r_8 σ_7)))))
set_option maxRecDepth 20000 in
set_option maxHeartbeats 4000000 in
theorem m_X10_chain (G : tzG) (hG : tz_ok G) {x1 : Int32} {x2 : Int32}  {σ : tzS} {Q : Int32 → tzS → Prop} (h : vc_X10_chain x1 x2 σ Q) : tz_M G yX10_chain cX10_chain 3 (some .int) 6 143 [.ref 133, .int x1, .int x2] σ (tz_Qi G Q) := by
  unfold vc_X10_chain at h
  refine tz_starti hG RX10 [(0, .ref _), (1, .int x1), (2, .int x2)] (by decide) rfl (Nat.le_of_ble_eq_true rfl) rfl (fun E C hret => ?_)
  refine tz_iload_n 1 1 C dX10_chain_0 rfl rfl ?_
  refine tz_iconst 0 (by decide) C dX10_chain_1 ?_
  refine tz_bipush 99 (by decide) C dX10_chain_2 ?_
  refine tz_callis C dX10_chain_4 lk_RX10_77 (m_X10_in G hG  h) rfl ⟨Nat.le_of_ble_eq_true rfl, Nat.le_of_ble_eq_true rfl⟩ (Nat.le_of_ble_eq_true rfl) rfl (fun r_2 σ_1 h => ?_)
  refine tz_if_eq 28 C dX10_chain_7 (by decide) h (fun c_3 h => ?_) (fun c_3 h => ?_)
  · refine tz_bipush (-2) (by decide) C dX10_chain_28 ?_
    exact hret _ _ _ _ dX10_chain_30 h
  · refine tz_iload_n 2 2 C dX10_chain_10 rfl rfl ?_
    refine tz_iconst 0 (by decide) C dX10_chain_11 ?_
    refine tz_iconst 4 (by decide) C dX10_chain_12 ?_
    refine tz_callis C dX10_chain_13 lk_RX10_77 (m_X10_in G hG  h) rfl ⟨Nat.le_of_ble_eq_true rfl, Nat.le_of_ble_eq_true rfl⟩ (Nat.le_of_ble_eq_true rfl) rfl (fun r_5 σ_4 h => ?_)
    refine tz_if_eq 28 C dX10_chain_16 (by decide) h (fun c_6 h => ?_) (fun c_6 h => ?_)
    · refine tz_bipush (-2) (by decide) C dX10_chain_28 ?_
      exact hret _ _ _ _ dX10_chain_30 h
    · refine tz_aload_n 0 0 C dX10_chain_19 rfl rfl ?_
      refine tz_iload_n 1 1 C dX10_chain_20 rfl rfl ?_
      refine tz_iload_n 2 2 C dX10_chain_21 rfl rfl ?_
      refine tz_calliv C dX10_chain_22 lk_RX10_201 (m_X10_chainOf G hG  h) (by decide) rfl rfl rfl rfl ⟨Nat.le_of_ble_eq_true rfl, Nat.le_of_ble_eq_true rfl⟩ (Nat.le_of_ble_eq_true rfl) rfl (fun r_8 σ_7 h => ?_)
      refine tz_goto 30 C dX10_chain_25 (by decide) ?_
      exact hret _ _ _ _ dX10_chain_30 h

def vc_X10_isGap (x1 : Int32) (σ : tzS) (Q : Int32 → tzS → Prop) : Prop :=
  vc_X10_reads  σ (fun (σ_1 : tzS) =>
    vc_X10_in x1 1 ((σ_1.1 133 7) - 1) σ_1 (fun (r_3 : Int32) (σ_2 : tzS) =>
      tz_bool r_3 ∧ Q r_3 σ_2))
set_option maxRecDepth 20000 in
set_option maxHeartbeats 4000000 in
theorem m_X10_isGap (G : tzG) (hG : tz_ok G) {x1 : Int32}  {σ : tzS} {Q : Int32 → tzS → Prop} (h : vc_X10_isGap x1 σ Q) : tz_M G yX10_isGap cX10_isGap 2 (some .boolean) 4 95 [.ref 133, .int x1] σ (tz_Qi G Q) := by
  unfold vc_X10_isGap at h
  refine tz_startz hG RX10 [(0, .ref _), (1, .int x1)] (by decide) rfl (Nat.le_of_ble_eq_true rfl) rfl (fun E C hret => ?_)
  refine tz_aload_n 0 0 C dX10_isGap_0 rfl rfl ?_
  refine tz_callvv C dX10_isGap_1 lk_RX10_147 (m_X10_reads G hG  h) (by decide) rfl rfl rfl rfl ⟨Nat.le_of_ble_eq_true rfl, Nat.le_of_ble_eq_true rfl⟩ (Nat.le_of_ble_eq_true rfl) rfl (fun σ_1 h => ?_)
  refine tz_iload_n 1 1 C dX10_isGap_4 rfl rfl ?_
  refine tz_iconst 1 (by decide) C dX10_isGap_5 ?_
  refine tz_aload_n 0 0 C dX10_isGap_6 rfl rfl ?_
  refine tz_getI C dX10_isGap_7 fl_RX10_109 (by decide) rfl rfl ?_
  refine tz_iconst 1 (by decide) C dX10_isGap_10 ?_
  refine tz_isub C dX10_isGap_11 ?_
  refine tz_callis C dX10_isGap_12 lk_RX10_77 (m_X10_in G hG  h) rfl ⟨Nat.le_of_ble_eq_true rfl, Nat.le_of_ble_eq_true rfl⟩ (Nat.le_of_ble_eq_true rfl) rfl (fun r_3 σ_2 h => ?_)
  exact hret _ _ _ _ dX10_isGap_15 (tz_narz h.1) h.2

def vc_X10_overOf (x1 : Int32) (x2 : Int32) (σ : tzS) (Q : Int32 → tzS → Prop) : Prop :=
  vc_X10_findsChains  σ (fun (σ_1 : tzS) =>
    tz_loop3 (fun (x3_4 : Int32) (x4_5 : Int32) (x5_6 : Int32) (σ_3 : tzS) (ag_2 : Int32 → Int32 → Int32 → tzS → Prop) =>
      ((σ_3.1 133 22) ≤ x5_6 →
        (¬ x2 = 0 →
          Q x4_5 σ_3) ∧
        (x2 = 0 →
          Q x3_4 σ_3)) ∧
      (¬ (σ_3.1 133 22) ≤ x5_6 →
        vp_in x5_6 110 ∧ (
          (x1 ≤ (σ_3.1 145 x5_6.toNatClampNeg) →
            ∀ x3_11 : Int32, x3_11 = (x3_4 + 0) →
            ∀ x4_12 : Int32, x4_12 = (x4_5 + 0) →
            ∀ x5_13 : Int32, x5_13 = x5_6 + 1 →
            ag_2 x3_11 x4_12 x5_13 σ_3) ∧
          (¬ x1 ≤ (σ_3.1 145 x5_6.toNatClampNeg) →
            ((σ_3.1 146 x5_6.toNatClampNeg) < x1 →
              ∀ x3_15 : Int32, x3_15 = (x3_4 + 0) →
              ∀ x4_16 : Int32, x4_16 = (x4_5 + 0) →
              ∀ x5_17 : Int32, x5_17 = x5_6 + 1 →
              ag_2 x3_15 x4_16 x5_17 σ_3) ∧
            (¬ (σ_3.1 146 x5_6.toNatClampNeg) < x1 →
              ∀ x3_18 : Int32, x3_18 = (x3_4 + 1) →
              vc_X10_weight x5_6 σ_3 (fun (r_20 : Int32) (σ_19 : tzS) =>
                ∀ x4_21 : Int32, x4_21 = (x4_5 + r_20) →
                ∀ x5_22 : Int32, x5_22 = x5_6 + 1 →
                ag_2 x3_18 x4_21 x5_22 σ_19)))))) (0 : Int32) (0 : Int32) (0 : Int32) σ_1)
set_option maxRecDepth 20000 in
set_option maxHeartbeats 4000000 in
theorem m_X10_overOf (G : tzG) (hG : tz_ok G) {x1 : Int32} {x2 : Int32}  {σ : tzS} {Q : Int32 → tzS → Prop} (h : vc_X10_overOf x1 x2 σ Q) : tz_M G yX10_overOf cX10_overOf 7 (some .int) 5 121 [.ref 133, .int x1, .int x2] σ (tz_Qi G Q) := by
  unfold vc_X10_overOf at h
  refine tz_starti hG RX10 [(0, .ref _), (1, .int x1), (2, .int x2)] (by decide) rfl (Nat.le_of_ble_eq_true rfl) rfl (fun E C hret => ?_)
  refine tz_aload_n 0 0 C dX10_overOf_0 rfl rfl ?_
  refine tz_callvv C dX10_overOf_1 lk_RX10_191 (m_X10_findsChains G hG  h) (by decide) rfl rfl rfl rfl ⟨Nat.le_of_ble_eq_true rfl, Nat.le_of_ble_eq_true rfl⟩ (Nat.le_of_ble_eq_true rfl) rfl (fun σ_1 h => ?_)
  refine tz_iconst 0 (by decide) C dX10_overOf_4 ?_
  refine tz_istore_n_k 3 [(0, .ref _), (1, .int x1), (2, .int x2)] C dX10_overOf_5 rfl (Nat.le_of_ble_eq_true rfl) rfl ?_
  refine tz_iconst 0 (by decide) C dX10_overOf_6 ?_
  refine tz_istore_k [(3, .int 0), (0, .ref _), (1, .int x1), (2, .int x2)] C dX10_overOf_7 (Nat.le_of_ble_eq_true rfl) rfl ?_
  refine tz_iconst 0 (by decide) C dX10_overOf_9 ?_
  refine tz_istore_k [(4, .int 0), (3, .int 0), (0, .ref _), (1, .int x1), (2, .int x2)] C dX10_overOf_10 (Nat.le_of_ble_eq_true rfl) rfl ?_
  refine tz_sub (L := [(0, .ref _), (1, .int x1), (2, .int x2), (3, .int 0), (4, .int 0), (5, .int 0)]) ?_ [3, 4, 5, 2, 1, 0] rfl
  refine tz_loop3_w (V := fun (x3_4 : Int32) (x4_5 : Int32) (x5_6 : Int32) (σ_3 : tzS) => tz_V G E 12 [(0, .ref _), (1, .int x1), (2, .int x2), (3, .int x3_4), (4, .int x4_5), (5, .int x5_6)] [] σ_3) h (fun ag_2 ihag_2 x3_4 x4_5 x5_6 σ_3 h => ?_)
  refine tz_iload 5 C dX10_overOf_12 rfl ?_
  refine tz_aload_n 0 0 C dX10_overOf_14 rfl rfl ?_
  refine tz_getI C dX10_overOf_15 fl_RX10_184 (by decide) rfl rfl ?_
  refine tz_icmp_ge 89 C dX10_overOf_18 (by decide) h (fun c_7 h => ?_) (fun c_7 h => ?_)
  · refine tz_iload_n 2 2 C dX10_overOf_89 rfl rfl ?_
    refine tz_if_ne 97 C dX10_overOf_90 (by decide) h (fun c_8 h => ?_) (fun c_8 h => ?_)
    · refine tz_iload 4 C dX10_overOf_97 rfl ?_
      exact hret _ _ _ _ dX10_overOf_99 h
    · refine tz_iload_n 3 3 C dX10_overOf_93 rfl rfl ?_
      refine tz_goto 99 C dX10_overOf_94 (by decide) ?_
      exact hret _ _ _ _ dX10_overOf_99 h
  · refine tz_aload_n 0 0 C dX10_overOf_21 rfl rfl ?_
    refine tz_getR C dX10_overOf_22 fl_RX10_43 (by decide) rfl rfl ?_
    refine tz_iload 5 C dX10_overOf_25 rfl ?_
    obtain ⟨hin_9, h⟩ := h
    refine tz_iald C dX10_overOf_27 (by decide) rfl hin_9 ?_
    refine tz_iload_n 1 1 C dX10_overOf_28 rfl rfl ?_
    refine tz_icmp_ge 47 C dX10_overOf_29 (by decide) h (fun c_10 h => ?_) (fun c_10 h => ?_)
    · refine tz_iconst 0 (by decide) C dX10_overOf_47 ?_
      refine tz_istore_k [(0, .ref _), (1, .int x1), (2, .int x2), (3, .int x3_4), (4, .int x4_5), (5, .int x5_6)] C dX10_overOf_48 (Nat.le_of_ble_eq_true rfl) rfl ?_
      refine tz_iload_n 3 4 C dX10_overOf_50 rfl rfl ?_
      refine tz_iload 0 C dX10_overOf_51 rfl ?_
      refine tz_if_eq_t 60 C dX10_overOf_53 (by decide) (by decide) ?_
      refine tz_iconst 0 (by decide) C dX10_overOf_60 ?_
      refine tz_iadd C dX10_overOf_61 ?_
      refine tz_istore_n 3 [(6, .int 0), (0, .ref _), (1, .int x1), (2, .int x2), (4, .int x4_5), (5, .int x5_6)] C dX10_overOf_62 rfl (Nat.le_of_ble_eq_true rfl) rfl h (fun x3_11 h => ?_)
      refine tz_iload 5 C dX10_overOf_63 rfl ?_
      refine tz_iload 1 C dX10_overOf_65 rfl ?_
      refine tz_if_eq_t 79 C dX10_overOf_67 (by decide) (by decide) ?_
      refine tz_iconst 0 (by decide) C dX10_overOf_79 ?_
      refine tz_iadd C dX10_overOf_80 ?_
      refine tz_istore [(3, .int x3_11), (6, .int 0), (0, .ref _), (1, .int x1), (2, .int x2), (5, .int x5_6)] C dX10_overOf_81 (Nat.le_of_ble_eq_true rfl) rfl h (fun x4_12 h => ?_)
      refine tz_iinc 6 [(4, .int x4_12), (3, .int x3_11), (6, .int 0), (0, .ref _), (1, .int x1), (2, .int x2)] 1 C dX10_overOf_83 (by decide) rfl (Nat.le_of_ble_eq_true rfl) rfl h (fun x5_13 h => ?_)
      refine tz_goto 12 C dX10_overOf_86 (by decide) ?_
      exact tz_sub (ihag_2 _ _ _ _ h) [4, 5, 6, 2, 1, 0] rfl
    · refine tz_aload_n 0 0 C dX10_overOf_32 rfl rfl ?_
      refine tz_getR C dX10_overOf_33 fl_RX10_46 (by decide) rfl rfl ?_
      refine tz_iload 5 C dX10_overOf_36 rfl ?_
      refine tz_iald C dX10_overOf_38 (by decide) rfl hin_9 ?_
      refine tz_iload_n 1 1 C dX10_overOf_39 rfl rfl ?_
      refine tz_icmp_lt 47 C dX10_overOf_40 (by decide) h (fun c_14 h => ?_) (fun c_14 h => ?_)
      · refine tz_iconst 0 (by decide) C dX10_overOf_47 ?_
        refine tz_istore_k [(0, .ref _), (1, .int x1), (2, .int x2), (3, .int x3_4), (4, .int x4_5), (5, .int x5_6)] C dX10_overOf_48 (Nat.le_of_ble_eq_true rfl) rfl ?_
        refine tz_iload_n 3 4 C dX10_overOf_50 rfl rfl ?_
        refine tz_iload 0 C dX10_overOf_51 rfl ?_
        refine tz_if_eq_t 60 C dX10_overOf_53 (by decide) (by decide) ?_
        refine tz_iconst 0 (by decide) C dX10_overOf_60 ?_
        refine tz_iadd C dX10_overOf_61 ?_
        refine tz_istore_n 3 [(6, .int 0), (0, .ref _), (1, .int x1), (2, .int x2), (4, .int x4_5), (5, .int x5_6)] C dX10_overOf_62 rfl (Nat.le_of_ble_eq_true rfl) rfl h (fun x3_15 h => ?_)
        refine tz_iload 5 C dX10_overOf_63 rfl ?_
        refine tz_iload 1 C dX10_overOf_65 rfl ?_
        refine tz_if_eq_t 79 C dX10_overOf_67 (by decide) (by decide) ?_
        refine tz_iconst 0 (by decide) C dX10_overOf_79 ?_
        refine tz_iadd C dX10_overOf_80 ?_
        refine tz_istore [(3, .int x3_15), (6, .int 0), (0, .ref _), (1, .int x1), (2, .int x2), (5, .int x5_6)] C dX10_overOf_81 (Nat.le_of_ble_eq_true rfl) rfl h (fun x4_16 h => ?_)
        refine tz_iinc 6 [(4, .int x4_16), (3, .int x3_15), (6, .int 0), (0, .ref _), (1, .int x1), (2, .int x2)] 1 C dX10_overOf_83 (by decide) rfl (Nat.le_of_ble_eq_true rfl) rfl h (fun x5_17 h => ?_)
        refine tz_goto 12 C dX10_overOf_86 (by decide) ?_
        exact tz_sub (ihag_2 _ _ _ _ h) [4, 5, 6, 2, 1, 0] rfl
      · refine tz_iconst 1 (by decide) C dX10_overOf_43 ?_
        refine tz_goto 48 C dX10_overOf_44 (by decide) ?_
        refine tz_istore_k [(0, .ref _), (1, .int x1), (2, .int x2), (3, .int x3_4), (4, .int x4_5), (5, .int x5_6)] C dX10_overOf_48 (Nat.le_of_ble_eq_true rfl) rfl ?_
        refine tz_iload_n 3 4 C dX10_overOf_50 rfl rfl ?_
        refine tz_iload 0 C dX10_overOf_51 rfl ?_
        refine tz_if_eq_f 60 C dX10_overOf_53 (by decide) (by decide) ?_
        refine tz_iconst 1 (by decide) C dX10_overOf_56 ?_
        refine tz_goto 61 C dX10_overOf_57 (by decide) ?_
        refine tz_iadd C dX10_overOf_61 ?_
        refine tz_istore_n 3 [(6, .int 1), (0, .ref _), (1, .int x1), (2, .int x2), (4, .int x4_5), (5, .int x5_6)] C dX10_overOf_62 rfl (Nat.le_of_ble_eq_true rfl) rfl h (fun x3_18 h => ?_)
        refine tz_iload 5 C dX10_overOf_63 rfl ?_
        refine tz_iload 1 C dX10_overOf_65 rfl ?_
        refine tz_if_eq_f 79 C dX10_overOf_67 (by decide) (by decide) ?_
        refine tz_aload_n 0 2 C dX10_overOf_70 rfl rfl ?_
        refine tz_iload 6 C dX10_overOf_71 rfl ?_
        refine tz_calliv C dX10_overOf_73 lk_RX10_198 (m_X10_weight G hG  h) (by decide) rfl rfl rfl rfl ⟨Nat.le_of_ble_eq_true rfl, Nat.le_of_ble_eq_true rfl⟩ (Nat.le_of_ble_eq_true rfl) rfl (fun r_20 σ_19 h => ?_)
        refine tz_goto 80 C dX10_overOf_76 (by decide) ?_
        refine tz_iadd C dX10_overOf_80 ?_
        refine tz_istore [(3, .int x3_18), (6, .int 1), (0, .ref _), (1, .int x1), (2, .int x2), (5, .int x5_6)] C dX10_overOf_81 (Nat.le_of_ble_eq_true rfl) rfl h (fun x4_21 h => ?_)
        refine tz_iinc 6 [(4, .int x4_21), (3, .int x3_18), (6, .int 1), (0, .ref _), (1, .int x1), (2, .int x2)] 1 C dX10_overOf_83 (by decide) rfl (Nat.le_of_ble_eq_true rfl) rfl h (fun x5_22 h => ?_)
        refine tz_goto 12 C dX10_overOf_86 (by decide) ?_
        exact tz_sub (ihag_2 _ _ _ _ h) [4, 5, 6, 2, 1, 0] rfl

def vc_X10_over (x1 : Int32) (x2 : Int32) (σ : tzS) (Q : Int32 → tzS → Prop) : Prop :=
  vc_X10_isGap x1 σ (fun (r_2 : Int32) (σ_1 : tzS) =>
    (r_2 = 0 →
      Q (-2) σ_1) ∧
    (¬ r_2 = 0 →
      vc_X10_isTwo x2 σ_1 (fun (r_5 : Int32) (σ_4 : tzS) =>
        (r_5 = 0 →
          Q (-2) σ_4) ∧
        (¬ r_5 = 0 →
          vc_X10_overOf x1 x2 σ_4 (fun (r_8 : Int32) (σ_7 : tzS) =>
            Q r_8 σ_7)))))
set_option maxRecDepth 20000 in
set_option maxHeartbeats 4000000 in
theorem m_X10_over (G : tzG) (hG : tz_ok G) {x1 : Int32} {x2 : Int32}  {σ : tzS} {Q : Int32 → tzS → Prop} (h : vc_X10_over x1 x2 σ Q) : tz_M G yX10_over cX10_over 3 (some .int) 6 147 [.ref 133, .int x1, .int x2] σ (tz_Qi G Q) := by
  unfold vc_X10_over at h
  refine tz_starti hG RX10 [(0, .ref _), (1, .int x1), (2, .int x2)] (by decide) rfl (Nat.le_of_ble_eq_true rfl) rfl (fun E C hret => ?_)
  refine tz_aload_n 0 0 C dX10_over_0 rfl rfl ?_
  refine tz_iload_n 1 1 C dX10_over_1 rfl rfl ?_
  refine tz_calliv C dX10_over_2 lk_RX10_204 (m_X10_isGap G hG  h) (by decide) rfl rfl rfl rfl ⟨Nat.le_of_ble_eq_true rfl, Nat.le_of_ble_eq_true rfl⟩ (Nat.le_of_ble_eq_true rfl) rfl (fun r_2 σ_1 h => ?_)
  refine tz_if_eq 24 C dX10_over_5 (by decide) h (fun c_3 h => ?_) (fun c_3 h => ?_)
  · refine tz_bipush (-2) (by decide) C dX10_over_24 ?_
    exact hret _ _ _ _ dX10_over_26 h
  · refine tz_iload_n 2 2 C dX10_over_8 rfl rfl ?_
    refine tz_callis C dX10_over_9 lk_RX10_207 (m_X10_isTwo G hG  h) rfl ⟨Nat.le_of_ble_eq_true rfl, Nat.le_of_ble_eq_true rfl⟩ (Nat.le_of_ble_eq_true rfl) rfl (fun r_5 σ_4 h => ?_)
    refine tz_if_eq 24 C dX10_over_12 (by decide) h (fun c_6 h => ?_) (fun c_6 h => ?_)
    · refine tz_bipush (-2) (by decide) C dX10_over_24 ?_
      exact hret _ _ _ _ dX10_over_26 h
    · refine tz_aload_n 0 0 C dX10_over_15 rfl rfl ?_
      refine tz_iload_n 1 1 C dX10_over_16 rfl rfl ?_
      refine tz_iload_n 2 2 C dX10_over_17 rfl rfl ?_
      refine tz_calliv C dX10_over_18 lk_RX10_210 (m_X10_overOf G hG  h) (by decide) rfl rfl rfl rfl ⟨Nat.le_of_ble_eq_true rfl, Nat.le_of_ble_eq_true rfl⟩ (Nat.le_of_ble_eq_true rfl) rfl (fun r_8 σ_7 h => ?_)
      refine tz_goto 26 C dX10_over_21 (by decide) ?_
      exact hret _ _ _ _ dX10_over_26 h

def vc_X10_costNow (x1 : Int32) (x2 : Int32) (σ : tzS) (Q : Int32 → tzS → Prop) : Prop :=
  vc_X10_looksOver x1 x2 σ (fun (σ_1 : tzS) =>
    ∀ x3_2 : Int32, x3_2 = ((σ_1.1 133 19) - (σ_1.1 133 20)) →
    ∀ x4_3 : Int32, x4_3 = ((4 * (σ_1.1 133 20)) - x3_2) →
    ((σ_1.1 135 0) = 0 →
      ∀ x4_4 : Int32, x4_4 = (2 * (σ_1.1 133 20)) →
      Q (x4_4 + (σ_1.1 135 1)) σ_1) ∧
    ((σ_1.1 135 0) = 1 →
      ∀ x4_5 : Int32, x4_5 = ((σ_1.1 133 20) * (σ_1.1 133 20)) →
      Q (x4_5 + (σ_1.1 135 1)) σ_1) ∧
    ((σ_1.1 135 0) = 2 →
      ∀ x4_6 : Int32, x4_6 = ((3 * (σ_1.1 133 21)) + (σ_1.1 133 19)) →
      Q (x4_6 + (σ_1.1 135 1)) σ_1) ∧
    (¬ (σ_1.1 135 0) = 0 → ¬ (σ_1.1 135 0) = 1 → ¬ (σ_1.1 135 0) = 2 →
      ((0 : Int32) ≤ x4_3 →
        Q (x4_3 + (σ_1.1 135 1)) σ_1) ∧
      (¬ (0 : Int32) ≤ x4_3 →
        Q (0 + (σ_1.1 135 1)) σ_1)))
set_option maxRecDepth 20000 in
set_option maxHeartbeats 4000000 in
theorem m_X10_costNow (G : tzG) (hG : tz_ok G) {x1 : Int32} {x2 : Int32}  {σ : tzS} {Q : Int32 → tzS → Prop} (h : vc_X10_costNow x1 x2 σ Q) : tz_M G yX10_costNow cX10_costNow 5 (some .int) 1 25 [.ref 133, .int x1, .int x2] σ (tz_Qi G Q) := by
  unfold vc_X10_costNow at h
  refine tz_starti hG RX10 [(0, .ref _), (1, .int x1), (2, .int x2)] (by decide) rfl (Nat.le_of_ble_eq_true rfl) rfl (fun E C hret => ?_)
  refine tz_aload_n 0 0 C dX10_costNow_0 rfl rfl ?_
  refine tz_iload_n 1 1 C dX10_costNow_1 rfl rfl ?_
  refine tz_iload_n 2 2 C dX10_costNow_2 rfl rfl ?_
  refine tz_callvv C dX10_costNow_3 lk_RX10_162 (m_X10_looksOver G hG  h) (by decide) rfl rfl rfl rfl ⟨Nat.le_of_ble_eq_true rfl, Nat.le_of_ble_eq_true rfl⟩ (Nat.le_of_ble_eq_true rfl) rfl (fun σ_1 h => ?_)
  refine tz_aload_n 0 0 C dX10_costNow_6 rfl rfl ?_
  refine tz_getI C dX10_costNow_7 fl_RX10_153 (by decide) rfl rfl ?_
  refine tz_aload_n 0 0 C dX10_costNow_10 rfl rfl ?_
  refine tz_getI C dX10_costNow_11 fl_RX10_156 (by decide) rfl rfl ?_
  refine tz_isub C dX10_costNow_14 ?_
  refine tz_istore_n 3 [(0, .ref _), (1, .int x1), (2, .int x2)] C dX10_costNow_15 rfl (Nat.le_of_ble_eq_true rfl) rfl h (fun x3_2 h => ?_)
  refine tz_iconst 4 (by decide) C dX10_costNow_16 ?_
  refine tz_aload_n 0 1 C dX10_costNow_17 rfl rfl ?_
  refine tz_getI C dX10_costNow_18 fl_RX10_156 (by decide) rfl rfl ?_
  refine tz_imul C dX10_costNow_21 ?_
  refine tz_iload_n 3 0 C dX10_costNow_22 rfl rfl ?_
  refine tz_isub C dX10_costNow_23 ?_
  refine tz_istore [(3, .int x3_2), (0, .ref _), (1, .int x1), (2, .int x2)] C dX10_costNow_24 (Nat.le_of_ble_eq_true rfl) rfl h (fun x4_3 h => ?_)
  refine tz_aload_n 0 2 C dX10_costNow_26 rfl rfl ?_
  refine tz_getR C dX10_costNow_27 fl_RX10_13 (by decide) rfl rfl ?_
  refine tz_iconst 0 (by decide) C dX10_costNow_30 ?_
  refine tz_iald_c 0 C dX10_costNow_31 (by decide) rfl (tz_inl rfl) rfl ?_
  refine tz_swc 0 (28) 60 C dX10_costNow_32 (by decide) (by decide) rfl (by decide) h (fun h => ?_) (fun e0 h => ?_)
  · refine tz_iconst 2 (by decide) C dX10_costNow_60 ?_
    refine tz_aload_n 0 2 C dX10_costNow_61 rfl rfl ?_
    refine tz_getI C dX10_costNow_62 fl_RX10_156 (by decide) rfl rfl ?_
    refine tz_imul C dX10_costNow_65 ?_
    refine tz_istore [(3, .int x3_2), (0, .ref _), (1, .int x1), (2, .int x2)] C dX10_costNow_66 (Nat.le_of_ble_eq_true rfl) rfl h (fun x4_4 h => ?_)
    refine tz_goto 114 C dX10_costNow_68 (by decide) ?_
    refine tz_iload 0 C dX10_costNow_114 rfl ?_
    refine tz_aload_n 0 2 C dX10_costNow_116 rfl rfl ?_
    refine tz_getR C dX10_costNow_117 fl_RX10_13 (by decide) rfl rfl ?_
    refine tz_iconst 1 (by decide) C dX10_costNow_120 ?_
    refine tz_iald_c 1 C dX10_costNow_121 (by decide) rfl (tz_inl rfl) rfl ?_
    refine tz_iadd C dX10_costNow_122 ?_
    exact hret _ _ _ _ dX10_costNow_123 h
  refine tz_swc 1 (39) 71 C dX10_costNow_32 (by decide) (by decide) rfl (by decide) h (fun h => ?_) (fun e1 h => ?_)
  · refine tz_aload_n 0 2 C dX10_costNow_71 rfl rfl ?_
    refine tz_getI C dX10_costNow_72 fl_RX10_156 (by decide) rfl rfl ?_
    refine tz_aload_n 0 2 C dX10_costNow_75 rfl rfl ?_
    refine tz_getI C dX10_costNow_76 fl_RX10_156 (by decide) rfl rfl ?_
    refine tz_imul C dX10_costNow_79 ?_
    refine tz_istore [(3, .int x3_2), (0, .ref _), (1, .int x1), (2, .int x2)] C dX10_costNow_80 (Nat.le_of_ble_eq_true rfl) rfl h (fun x4_5 h => ?_)
    refine tz_goto 114 C dX10_costNow_82 (by decide) ?_
    refine tz_iload 0 C dX10_costNow_114 rfl ?_
    refine tz_aload_n 0 2 C dX10_costNow_116 rfl rfl ?_
    refine tz_getR C dX10_costNow_117 fl_RX10_13 (by decide) rfl rfl ?_
    refine tz_iconst 1 (by decide) C dX10_costNow_120 ?_
    refine tz_iald_c 1 C dX10_costNow_121 (by decide) rfl (tz_inl rfl) rfl ?_
    refine tz_iadd C dX10_costNow_122 ?_
    exact hret _ _ _ _ dX10_costNow_123 h
  refine tz_swc 2 (53) 85 C dX10_costNow_32 (by decide) (by decide) rfl (by decide) h (fun h => ?_) (fun e2 h => ?_)
  · refine tz_iconst 3 (by decide) C dX10_costNow_85 ?_
    refine tz_aload_n 0 2 C dX10_costNow_86 rfl rfl ?_
    refine tz_getI C dX10_costNow_87 fl_RX10_159 (by decide) rfl rfl ?_
    refine tz_imul C dX10_costNow_90 ?_
    refine tz_aload_n 0 2 C dX10_costNow_91 rfl rfl ?_
    refine tz_getI C dX10_costNow_92 fl_RX10_153 (by decide) rfl rfl ?_
    refine tz_iadd C dX10_costNow_95 ?_
    refine tz_istore [(3, .int x3_2), (0, .ref _), (1, .int x1), (2, .int x2)] C dX10_costNow_96 (Nat.le_of_ble_eq_true rfl) rfl h (fun x4_6 h => ?_)
    refine tz_goto 114 C dX10_costNow_98 (by decide) ?_
    refine tz_iload 0 C dX10_costNow_114 rfl ?_
    refine tz_aload_n 0 2 C dX10_costNow_116 rfl rfl ?_
    refine tz_getR C dX10_costNow_117 fl_RX10_13 (by decide) rfl rfl ?_
    refine tz_iconst 1 (by decide) C dX10_costNow_120 ?_
    refine tz_iald_c 1 C dX10_costNow_121 (by decide) rfl (tz_inl rfl) rfl ?_
    refine tz_iadd C dX10_costNow_122 ?_
    exact hret _ _ _ _ dX10_costNow_123 h
  replace h := h e0 e1 e2
  refine tz_tabOut 101 C dX10_costNow_32 (tz_out2 e0 e1 e2) (by decide) ?_
  refine tz_iload 0 C dX10_costNow_101 rfl ?_
  refine tz_if_ge 110 C dX10_costNow_103 (by decide) h (fun c_7 h => ?_) (fun c_7 h => ?_)
  · refine tz_iload 0 C dX10_costNow_110 rfl ?_
    refine tz_istore_k [(3, .int x3_2), (0, .ref _), (1, .int x1), (2, .int x2)] C dX10_costNow_112 (Nat.le_of_ble_eq_true rfl) rfl ?_
    refine tz_iload 0 C dX10_costNow_114 rfl ?_
    refine tz_aload_n 0 2 C dX10_costNow_116 rfl rfl ?_
    refine tz_getR C dX10_costNow_117 fl_RX10_13 (by decide) rfl rfl ?_
    refine tz_iconst 1 (by decide) C dX10_costNow_120 ?_
    refine tz_iald_c 1 C dX10_costNow_121 (by decide) rfl (tz_inl rfl) rfl ?_
    refine tz_iadd C dX10_costNow_122 ?_
    exact hret _ _ _ _ dX10_costNow_123 h
  · refine tz_iconst 0 (by decide) C dX10_costNow_106 ?_
    refine tz_goto 112 C dX10_costNow_107 (by decide) ?_
    refine tz_istore_k [(3, .int x3_2), (0, .ref _), (1, .int x1), (2, .int x2)] C dX10_costNow_112 (Nat.le_of_ble_eq_true rfl) rfl ?_
    refine tz_iload 0 C dX10_costNow_114 rfl ?_
    refine tz_aload_n 0 2 C dX10_costNow_116 rfl rfl ?_
    refine tz_getR C dX10_costNow_117 fl_RX10_13 (by decide) rfl rfl ?_
    refine tz_iconst 1 (by decide) C dX10_costNow_120 ?_
    refine tz_iald_c 1 C dX10_costNow_121 (by decide) rfl (tz_inl rfl) rfl ?_
    refine tz_iadd C dX10_costNow_122 ?_
    exact hret _ _ _ _ dX10_costNow_123 h

def vc_X10_costOf (x1 : Int32) (x2 : Int32) (σ : tzS) (Q : Int32 → tzS → Prop) : Prop :=
  vc_X10_reads  σ (fun (σ_1 : tzS) =>
    vc_X10_in x1 0 (σ_1.1 133 7) σ_1 (fun (r_3 : Int32) (σ_2 : tzS) =>
      (r_3 = 0 →
        Q (-2) σ_2) ∧
      (¬ r_3 = 0 →
        vc_X10_in x2 0 (σ_2.1 133 7) σ_2 (fun (r_6 : Int32) (σ_5 : tzS) =>
          (¬ r_6 = 0 →
            (x2 ≤ x1 →
              Q (-3) σ_5) ∧
            (¬ x2 ≤ x1 →
              vc_X10_costNow x1 x2 σ_5 (fun (r_10 : Int32) (σ_9 : tzS) =>
                Q r_10 σ_9))) ∧
          (r_6 = 0 →
            Q (-2) σ_5)))))
set_option maxRecDepth 20000 in
set_option maxHeartbeats 4000000 in
theorem m_X10_costOf (G : tzG) (hG : tz_ok G) {x1 : Int32} {x2 : Int32}  {σ : tzS} {Q : Int32 → tzS → Prop} (h : vc_X10_costOf x1 x2 σ Q) : tz_M G yX10_costOf cX10_costOf 3 (some .int) 4 95 [.ref 133, .int x1, .int x2] σ (tz_Qi G Q) := by
  unfold vc_X10_costOf at h
  refine tz_starti hG RX10 [(0, .ref _), (1, .int x1), (2, .int x2)] (by decide) rfl (Nat.le_of_ble_eq_true rfl) rfl (fun E C hret => ?_)
  refine tz_aload_n 0 0 C dX10_costOf_0 rfl rfl ?_
  refine tz_callvv C dX10_costOf_1 lk_RX10_147 (m_X10_reads G hG  h) (by decide) rfl rfl rfl rfl ⟨Nat.le_of_ble_eq_true rfl, Nat.le_of_ble_eq_true rfl⟩ (Nat.le_of_ble_eq_true rfl) rfl (fun σ_1 h => ?_)
  refine tz_iload_n 1 1 C dX10_costOf_4 rfl rfl ?_
  refine tz_iconst 0 (by decide) C dX10_costOf_5 ?_
  refine tz_aload_n 0 0 C dX10_costOf_6 rfl rfl ?_
  refine tz_getI C dX10_costOf_7 fl_RX10_109 (by decide) rfl rfl ?_
  refine tz_callis C dX10_costOf_10 lk_RX10_77 (m_X10_in G hG  h) rfl ⟨Nat.le_of_ble_eq_true rfl, Nat.le_of_ble_eq_true rfl⟩ (Nat.le_of_ble_eq_true rfl) rfl (fun r_3 σ_2 h => ?_)
  refine tz_if_eq 28 C dX10_costOf_13 (by decide) h (fun c_4 h => ?_) (fun c_4 h => ?_)
  · refine tz_bipush (-2) (by decide) C dX10_costOf_28 ?_
    exact hret _ _ _ _ dX10_costOf_30 h
  · refine tz_iload_n 2 2 C dX10_costOf_16 rfl rfl ?_
    refine tz_iconst 0 (by decide) C dX10_costOf_17 ?_
    refine tz_aload_n 0 0 C dX10_costOf_18 rfl rfl ?_
    refine tz_getI C dX10_costOf_19 fl_RX10_109 (by decide) rfl rfl ?_
    refine tz_callis C dX10_costOf_22 lk_RX10_77 (m_X10_in G hG  h) rfl ⟨Nat.le_of_ble_eq_true rfl, Nat.le_of_ble_eq_true rfl⟩ (Nat.le_of_ble_eq_true rfl) rfl (fun r_6 σ_5 h => ?_)
    refine tz_if_ne 31 C dX10_costOf_25 (by decide) h (fun c_7 h => ?_) (fun c_7 h => ?_)
    · refine tz_iload_n 2 2 C dX10_costOf_31 rfl rfl ?_
      refine tz_iload_n 1 1 C dX10_costOf_32 rfl rfl ?_
      refine tz_icmp_le 45 C dX10_costOf_33 (by decide) h (fun c_8 h => ?_) (fun c_8 h => ?_)
      · refine tz_bipush (-3) (by decide) C dX10_costOf_45 ?_
        exact hret _ _ _ _ dX10_costOf_47 h
      · refine tz_aload_n 0 0 C dX10_costOf_36 rfl rfl ?_
        refine tz_iload_n 1 1 C dX10_costOf_37 rfl rfl ?_
        refine tz_iload_n 2 2 C dX10_costOf_38 rfl rfl ?_
        refine tz_calliv C dX10_costOf_39 lk_RX10_213 (m_X10_costNow G hG  h) (by decide) rfl rfl rfl rfl ⟨Nat.le_of_ble_eq_true rfl, Nat.le_of_ble_eq_true rfl⟩ (Nat.le_of_ble_eq_true rfl) rfl (fun r_10 σ_9 h => ?_)
        refine tz_goto 47 C dX10_costOf_42 (by decide) ?_
        exact hret _ _ _ _ dX10_costOf_47 h
    · refine tz_bipush (-2) (by decide) C dX10_costOf_28 ?_
      exact hret _ _ _ _ dX10_costOf_30 h

def vc_X10_cost (x1 : Int32) (x2 : Int32) (σ : tzS) (Q : Int32 → tzS → Prop) : Prop :=
  vc_X10_costOf x1 x2 σ (fun (r_2 : Int32) (σ_1 : tzS) =>
    Q r_2 σ_1)
set_option maxRecDepth 20000 in
set_option maxHeartbeats 4000000 in
theorem m_X10_cost (G : tzG) (hG : tz_ok G) {x1 : Int32} {x2 : Int32}  {σ : tzS} {Q : Int32 → tzS → Prop} (h : vc_X10_cost x1 x2 σ Q) : tz_M G yX10_cost cX10_cost 3 (some .int) 5 117 [.ref 133, .int x1, .int x2] σ (tz_Qi G Q) := by
  unfold vc_X10_cost at h
  refine tz_starti hG RX10 [(0, .ref _), (1, .int x1), (2, .int x2)] (by decide) rfl (Nat.le_of_ble_eq_true rfl) rfl (fun E C hret => ?_)
  refine tz_aload_n 0 0 C dX10_cost_0 rfl rfl ?_
  refine tz_iload_n 1 1 C dX10_cost_1 rfl rfl ?_
  refine tz_iload_n 2 2 C dX10_cost_2 rfl rfl ?_
  refine tz_calliv C dX10_cost_3 lk_RX10_216 (m_X10_costOf G hG  h) (by decide) rfl rfl rfl rfl ⟨Nat.le_of_ble_eq_true rfl, Nat.le_of_ble_eq_true rfl⟩ (Nat.le_of_ble_eq_true rfl) rfl (fun r_2 σ_1 h => ?_)
  exact hret _ _ _ _ dX10_cost_6 h

def vc_X10_placeOf (x1 : Int32) (σ : tzS) (Q : Int32 → tzS → Prop) : Prop :=
  ((σ.1 133 18) = (-1) →
    Q x1 σ) ∧
  (¬ (σ.1 133 18) = (-1) →
    (x1 ≤ (σ.1 133 18) →
      Q x1 σ) ∧
    (¬ x1 ≤ (σ.1 133 18) →
      Q (x1 + 1) σ))
set_option maxRecDepth 20000 in
set_option maxHeartbeats 4000000 in
theorem m_X10_placeOf (G : tzG) (hG : tz_ok G) {x1 : Int32}  {σ : tzS} {Q : Int32 → tzS → Prop} (h : vc_X10_placeOf x1 σ Q) : tz_M G yX10_placeOf cX10_placeOf 2 (some .int) 0 0 [.ref 133, .int x1] σ (tz_Qi G Q) := by
  unfold vc_X10_placeOf at h
  refine tz_starti hG RX10 [(0, .ref _), (1, .int x1)] (by decide) rfl (Nat.le_of_ble_eq_true rfl) rfl (fun E C hret => ?_)
  refine tz_aload_n 0 0 C dX10_placeOf_0 rfl rfl ?_
  refine tz_getI C dX10_placeOf_1 fl_RX10_144 (by decide) rfl rfl ?_
  refine tz_iconst (-1) (by decide) C dX10_placeOf_4 ?_
  refine tz_icmp_eq 22 C dX10_placeOf_5 (by decide) h (fun c_1 h => ?_) (fun c_1 h => ?_)
  · refine tz_iload_n 1 1 C dX10_placeOf_22 rfl rfl ?_
    exact hret _ _ _ _ dX10_placeOf_23 h
  · refine tz_iload_n 1 1 C dX10_placeOf_8 rfl rfl ?_
    refine tz_aload_n 0 0 C dX10_placeOf_9 rfl rfl ?_
    refine tz_getI C dX10_placeOf_10 fl_RX10_144 (by decide) rfl rfl ?_
    refine tz_icmp_le 22 C dX10_placeOf_13 (by decide) h (fun c_2 h => ?_) (fun c_2 h => ?_)
    · refine tz_iload_n 1 1 C dX10_placeOf_22 rfl rfl ?_
      exact hret _ _ _ _ dX10_placeOf_23 h
    · refine tz_iload_n 1 1 C dX10_placeOf_16 rfl rfl ?_
      refine tz_iconst 1 (by decide) C dX10_placeOf_17 ?_
      refine tz_iadd C dX10_placeOf_18 ?_
      refine tz_goto 23 C dX10_placeOf_19 (by decide) ?_
      exact hret _ _ _ _ dX10_placeOf_23 h

def vc_X10_parts  (σ : tzS) (Q : tzS → Prop) : Prop :=
  (¬ (σ.1 133 18) = (-1) →
    ∀ σ_2 : tzS, σ_2 = tz_st σ 133 30 ((σ.1 133 7) - 1) →
    tz_loop1 (fun (x1_5 : Int32) (σ_4 : tzS) (ag_3 : Int32 → tzS → Prop) =>
      ((σ_4.1 133 30) ≤ x1_5 →
        tz_loop1 (fun (x1_9 : Int32) (σ_8 : tzS) (ag_7 : Int32 → tzS → Prop) =>
          ((9 : Int32) ≤ x1_9 →
            Q σ_8) ∧
          (¬ (9 : Int32) ≤ x1_9 →
            tz_loop1 (fun (x2_13 : Int32) (σ_12 : tzS) (ag_11 : Int32 → tzS → Prop) =>
              ((σ_12.1 133 30) < x2_13 →
                ∀ x1_15 : Int32, x1_15 = x1_9 + 1 →
                ag_7 x1_15 σ_12) ∧
              (¬ (σ_12.1 133 30) < x2_13 →
                (¬ x1_9 = 0 →
                  tz_loop3 (fun (x3_19 : Int32) (x4_20 : Int32) (x5_21 : Int32) (σ_18 : tzS) (ag_17 : Int32 → Int32 → Int32 → tzS → Prop) =>
                    (x2_13 ≤ x5_21 →
                      vp_in ((13 * x1_9) + x2_13) 117 ∧ (
                        ∀ σ_23 : tzS, σ_23 = tz_st σ_18 149 ((13 * x1_9) + x2_13).toNatClampNeg x4_20 →
                        ∀ σ_25 : tzS, σ_25 = tz_st σ_23 150 ((13 * x1_9) + x2_13).toNatClampNeg x3_19 →
                        ∀ x2_26 : Int32, x2_26 = x2_13 + 1 →
                        ag_11 x2_26 σ_25)) ∧
                    (¬ x2_13 ≤ x5_21 →
                      (x1_9 ≤ 0 →
                        vp_in ((13 * x1_9) + x2_13) 117 ∧ (
                          ∀ σ_28 : tzS, σ_28 = tz_st σ_18 149 ((13 * x1_9) + x2_13).toNatClampNeg x4_20 →
                          ∀ σ_30 : tzS, σ_30 = tz_st σ_28 150 ((13 * x1_9) + x2_13).toNatClampNeg x3_19 →
                          ∀ x2_31 : Int32, x2_31 = x2_13 + 1 →
                          ag_11 x2_31 σ_30)) ∧
                      (¬ x1_9 ≤ 0 →
                        vp_in ((13 * (x1_9 - 1)) + x5_21) 117 ∧ (
                          ∀ x6_33 : Int32, x6_33 = (σ_18.1 149 ((13 * (x1_9 - 1)) + x5_21).toNatClampNeg) →
                          vp_in ((13 * x5_21) + x2_13) 169 ∧ (
                            ∀ x7_35 : Int32, x7_35 = (x6_33 + (σ_18.1 148 ((13 * x5_21) + x2_13).toNatClampNeg)) →
                            (x6_33 = (-1) →
                              ∀ x5_37 : Int32, x5_37 = x5_21 + 1 →
                              ag_17 x3_19 x4_20 x5_37 σ_18) ∧
                            (¬ x6_33 = (-1) →
                              (x4_20 = (-1) →
                                ∀ x5_39 : Int32, x5_39 = x5_21 + 1 →
                                ag_17 x5_21 x7_35 x5_39 σ_18) ∧
                              (¬ x4_20 = (-1) →
                                (x4_20 ≤ x7_35 →
                                  ∀ x5_41 : Int32, x5_41 = x5_21 + 1 →
                                  ag_17 x3_19 x4_20 x5_41 σ_18) ∧
                                (¬ x4_20 ≤ x7_35 →
                                  ∀ x5_42 : Int32, x5_42 = x5_21 + 1 →
                                  ag_17 x5_21 x7_35 x5_42 σ_18)))))))) ((-1) : Int32) ((-1) : Int32) (0 : Int32) σ_12) ∧
                (x1_9 = 0 →
                  (¬ x2_13 = 0 →
                    tz_loop3 (fun (x3_46 : Int32) (x4_47 : Int32) (x5_48 : Int32) (σ_45 : tzS) (ag_44 : Int32 → Int32 → Int32 → tzS → Prop) =>
                      (x2_13 ≤ x5_48 →
                        vp_in ((13 * x1_9) + x2_13) 117 ∧ (
                          ∀ σ_50 : tzS, σ_50 = tz_st σ_45 149 ((13 * x1_9) + x2_13).toNatClampNeg x4_47 →
                          ∀ σ_52 : tzS, σ_52 = tz_st σ_50 150 ((13 * x1_9) + x2_13).toNatClampNeg x3_46 →
                          ∀ x2_53 : Int32, x2_53 = x2_13 + 1 →
                          ag_11 x2_53 σ_52)) ∧
                      (¬ x2_13 ≤ x5_48 →
                        (x1_9 ≤ 0 →
                          vp_in ((13 * x1_9) + x2_13) 117 ∧ (
                            ∀ σ_55 : tzS, σ_55 = tz_st σ_45 149 ((13 * x1_9) + x2_13).toNatClampNeg x4_47 →
                            ∀ σ_57 : tzS, σ_57 = tz_st σ_55 150 ((13 * x1_9) + x2_13).toNatClampNeg x3_46 →
                            ∀ x2_58 : Int32, x2_58 = x2_13 + 1 →
                            ag_11 x2_58 σ_57)) ∧
                        (¬ x1_9 ≤ 0 →
                          vp_in ((13 * (x1_9 - 1)) + x5_48) 117 ∧ (
                            ∀ x6_60 : Int32, x6_60 = (σ_45.1 149 ((13 * (x1_9 - 1)) + x5_48).toNatClampNeg) →
                            vp_in ((13 * x5_48) + x2_13) 169 ∧ (
                              ∀ x7_62 : Int32, x7_62 = (x6_60 + (σ_45.1 148 ((13 * x5_48) + x2_13).toNatClampNeg)) →
                              (x6_60 = (-1) →
                                ∀ x5_64 : Int32, x5_64 = x5_48 + 1 →
                                ag_44 x3_46 x4_47 x5_64 σ_45) ∧
                              (¬ x6_60 = (-1) →
                                (x4_47 = (-1) →
                                  ∀ x5_66 : Int32, x5_66 = x5_48 + 1 →
                                  ag_44 x5_48 x7_62 x5_66 σ_45) ∧
                                (¬ x4_47 = (-1) →
                                  (x4_47 ≤ x7_62 →
                                    ∀ x5_68 : Int32, x5_68 = x5_48 + 1 →
                                    ag_44 x3_46 x4_47 x5_68 σ_45) ∧
                                  (¬ x4_47 ≤ x7_62 →
                                    ∀ x5_69 : Int32, x5_69 = x5_48 + 1 →
                                    ag_44 x5_48 x7_62 x5_69 σ_45)))))))) ((-1) : Int32) ((-1) : Int32) (0 : Int32) σ_12) ∧
                  (x2_13 = 0 →
                    tz_loop3 (fun (x3_72 : Int32) (x4_73 : Int32) (x5_74 : Int32) (σ_71 : tzS) (ag_70 : Int32 → Int32 → Int32 → tzS → Prop) =>
                      (x2_13 ≤ x5_74 →
                        vp_in ((13 * x1_9) + x2_13) 117 ∧ (
                          ∀ σ_76 : tzS, σ_76 = tz_st σ_71 149 ((13 * x1_9) + x2_13).toNatClampNeg x4_73 →
                          ∀ σ_78 : tzS, σ_78 = tz_st σ_76 150 ((13 * x1_9) + x2_13).toNatClampNeg x3_72 →
                          ∀ x2_79 : Int32, x2_79 = x2_13 + 1 →
                          ag_11 x2_79 σ_78)) ∧
                      (¬ x2_13 ≤ x5_74 →
                        (x1_9 ≤ 0 →
                          vp_in ((13 * x1_9) + x2_13) 117 ∧ (
                            ∀ σ_81 : tzS, σ_81 = tz_st σ_71 149 ((13 * x1_9) + x2_13).toNatClampNeg x4_73 →
                            ∀ σ_83 : tzS, σ_83 = tz_st σ_81 150 ((13 * x1_9) + x2_13).toNatClampNeg x3_72 →
                            ∀ x2_84 : Int32, x2_84 = x2_13 + 1 →
                            ag_11 x2_84 σ_83)) ∧
                        (¬ x1_9 ≤ 0 →
                          vp_in ((13 * (x1_9 - 1)) + x5_74) 117 ∧ (
                            ∀ x6_86 : Int32, x6_86 = (σ_71.1 149 ((13 * (x1_9 - 1)) + x5_74).toNatClampNeg) →
                            vp_in ((13 * x5_74) + x2_13) 169 ∧ (
                              ∀ x7_88 : Int32, x7_88 = (x6_86 + (σ_71.1 148 ((13 * x5_74) + x2_13).toNatClampNeg)) →
                              (x6_86 = (-1) →
                                ∀ x5_90 : Int32, x5_90 = x5_74 + 1 →
                                ag_70 x3_72 x4_73 x5_90 σ_71) ∧
                              (¬ x6_86 = (-1) →
                                (x4_73 = (-1) →
                                  ∀ x5_92 : Int32, x5_92 = x5_74 + 1 →
                                  ag_70 x5_74 x7_88 x5_92 σ_71) ∧
                                (¬ x4_73 = (-1) →
                                  (x4_73 ≤ x7_88 →
                                    ∀ x5_94 : Int32, x5_94 = x5_74 + 1 →
                                    ag_70 x3_72 x4_73 x5_94 σ_71) ∧
                                  (¬ x4_73 ≤ x7_88 →
                                    ∀ x5_95 : Int32, x5_95 = x5_74 + 1 →
                                    ag_70 x5_74 x7_88 x5_95 σ_71)))))))) ((-1) : Int32) (0 : Int32) (0 : Int32) σ_12)))) (0 : Int32) σ_8)) (0 : Int32) σ_4) ∧
      (¬ (σ_4.1 133 30) ≤ x1_5 →
        ∀ x2_96 : Int32, x2_96 = (x1_5 + 1) →
        tz_loop1 (fun (x2_99 : Int32) (σ_98 : tzS) (ag_97 : Int32 → tzS → Prop) =>
          ((σ_98.1 133 30) < x2_99 →
            ∀ x1_101 : Int32, x1_101 = x1_5 + 1 →
            ag_3 x1_101 σ_98) ∧
          (¬ (σ_98.1 133 30) < x2_99 →
            vc_X10_placeOf x1_5 σ_98 (fun (r_103 : Int32) (σ_102 : tzS) =>
              vc_X10_placeOf x2_99 σ_102 (fun (r_105 : Int32) (σ_104 : tzS) =>
                vc_X10_costNow r_103 r_105 σ_104 (fun (r_107 : Int32) (σ_106 : tzS) =>
                  vp_in ((13 * x1_5) + x2_99) 169 ∧ (
                    ∀ σ_108 : tzS, σ_108 = tz_st σ_106 148 ((13 * x1_5) + x2_99).toNatClampNeg r_107 →
                    ∀ x2_110 : Int32, x2_110 = x2_99 + 1 →
                    ag_97 x2_110 σ_108)))))) x2_96 σ_4)) (0 : Int32) σ_2) ∧
  ((σ.1 133 18) = (-1) →
    ∀ σ_111 : tzS, σ_111 = tz_st σ 133 30 (σ.1 133 7) →
    tz_loop1 (fun (x1_114 : Int32) (σ_113 : tzS) (ag_112 : Int32 → tzS → Prop) =>
      ((σ_113.1 133 30) ≤ x1_114 →
        tz_loop1 (fun (x1_118 : Int32) (σ_117 : tzS) (ag_116 : Int32 → tzS → Prop) =>
          ((9 : Int32) ≤ x1_118 →
            Q σ_117) ∧
          (¬ (9 : Int32) ≤ x1_118 →
            tz_loop1 (fun (x2_122 : Int32) (σ_121 : tzS) (ag_120 : Int32 → tzS → Prop) =>
              ((σ_121.1 133 30) < x2_122 →
                ∀ x1_124 : Int32, x1_124 = x1_118 + 1 →
                ag_116 x1_124 σ_121) ∧
              (¬ (σ_121.1 133 30) < x2_122 →
                (¬ x1_118 = 0 →
                  tz_loop3 (fun (x3_128 : Int32) (x4_129 : Int32) (x5_130 : Int32) (σ_127 : tzS) (ag_126 : Int32 → Int32 → Int32 → tzS → Prop) =>
                    (x2_122 ≤ x5_130 →
                      vp_in ((13 * x1_118) + x2_122) 117 ∧ (
                        ∀ σ_132 : tzS, σ_132 = tz_st σ_127 149 ((13 * x1_118) + x2_122).toNatClampNeg x4_129 →
                        ∀ σ_134 : tzS, σ_134 = tz_st σ_132 150 ((13 * x1_118) + x2_122).toNatClampNeg x3_128 →
                        ∀ x2_135 : Int32, x2_135 = x2_122 + 1 →
                        ag_120 x2_135 σ_134)) ∧
                    (¬ x2_122 ≤ x5_130 →
                      (x1_118 ≤ 0 →
                        vp_in ((13 * x1_118) + x2_122) 117 ∧ (
                          ∀ σ_137 : tzS, σ_137 = tz_st σ_127 149 ((13 * x1_118) + x2_122).toNatClampNeg x4_129 →
                          ∀ σ_139 : tzS, σ_139 = tz_st σ_137 150 ((13 * x1_118) + x2_122).toNatClampNeg x3_128 →
                          ∀ x2_140 : Int32, x2_140 = x2_122 + 1 →
                          ag_120 x2_140 σ_139)) ∧
                      (¬ x1_118 ≤ 0 →
                        vp_in ((13 * (x1_118 - 1)) + x5_130) 117 ∧ (
                          ∀ x6_142 : Int32, x6_142 = (σ_127.1 149 ((13 * (x1_118 - 1)) + x5_130).toNatClampNeg) →
                          vp_in ((13 * x5_130) + x2_122) 169 ∧ (
                            ∀ x7_144 : Int32, x7_144 = (x6_142 + (σ_127.1 148 ((13 * x5_130) + x2_122).toNatClampNeg)) →
                            (x6_142 = (-1) →
                              ∀ x5_146 : Int32, x5_146 = x5_130 + 1 →
                              ag_126 x3_128 x4_129 x5_146 σ_127) ∧
                            (¬ x6_142 = (-1) →
                              (x4_129 = (-1) →
                                ∀ x5_148 : Int32, x5_148 = x5_130 + 1 →
                                ag_126 x5_130 x7_144 x5_148 σ_127) ∧
                              (¬ x4_129 = (-1) →
                                (x4_129 ≤ x7_144 →
                                  ∀ x5_150 : Int32, x5_150 = x5_130 + 1 →
                                  ag_126 x3_128 x4_129 x5_150 σ_127) ∧
                                (¬ x4_129 ≤ x7_144 →
                                  ∀ x5_151 : Int32, x5_151 = x5_130 + 1 →
                                  ag_126 x5_130 x7_144 x5_151 σ_127)))))))) ((-1) : Int32) ((-1) : Int32) (0 : Int32) σ_121) ∧
                (x1_118 = 0 →
                  (¬ x2_122 = 0 →
                    tz_loop3 (fun (x3_155 : Int32) (x4_156 : Int32) (x5_157 : Int32) (σ_154 : tzS) (ag_153 : Int32 → Int32 → Int32 → tzS → Prop) =>
                      (x2_122 ≤ x5_157 →
                        vp_in ((13 * x1_118) + x2_122) 117 ∧ (
                          ∀ σ_159 : tzS, σ_159 = tz_st σ_154 149 ((13 * x1_118) + x2_122).toNatClampNeg x4_156 →
                          ∀ σ_161 : tzS, σ_161 = tz_st σ_159 150 ((13 * x1_118) + x2_122).toNatClampNeg x3_155 →
                          ∀ x2_162 : Int32, x2_162 = x2_122 + 1 →
                          ag_120 x2_162 σ_161)) ∧
                      (¬ x2_122 ≤ x5_157 →
                        (x1_118 ≤ 0 →
                          vp_in ((13 * x1_118) + x2_122) 117 ∧ (
                            ∀ σ_164 : tzS, σ_164 = tz_st σ_154 149 ((13 * x1_118) + x2_122).toNatClampNeg x4_156 →
                            ∀ σ_166 : tzS, σ_166 = tz_st σ_164 150 ((13 * x1_118) + x2_122).toNatClampNeg x3_155 →
                            ∀ x2_167 : Int32, x2_167 = x2_122 + 1 →
                            ag_120 x2_167 σ_166)) ∧
                        (¬ x1_118 ≤ 0 →
                          vp_in ((13 * (x1_118 - 1)) + x5_157) 117 ∧ (
                            ∀ x6_169 : Int32, x6_169 = (σ_154.1 149 ((13 * (x1_118 - 1)) + x5_157).toNatClampNeg) →
                            vp_in ((13 * x5_157) + x2_122) 169 ∧ (
                              ∀ x7_171 : Int32, x7_171 = (x6_169 + (σ_154.1 148 ((13 * x5_157) + x2_122).toNatClampNeg)) →
                              (x6_169 = (-1) →
                                ∀ x5_173 : Int32, x5_173 = x5_157 + 1 →
                                ag_153 x3_155 x4_156 x5_173 σ_154) ∧
                              (¬ x6_169 = (-1) →
                                (x4_156 = (-1) →
                                  ∀ x5_175 : Int32, x5_175 = x5_157 + 1 →
                                  ag_153 x5_157 x7_171 x5_175 σ_154) ∧
                                (¬ x4_156 = (-1) →
                                  (x4_156 ≤ x7_171 →
                                    ∀ x5_177 : Int32, x5_177 = x5_157 + 1 →
                                    ag_153 x3_155 x4_156 x5_177 σ_154) ∧
                                  (¬ x4_156 ≤ x7_171 →
                                    ∀ x5_178 : Int32, x5_178 = x5_157 + 1 →
                                    ag_153 x5_157 x7_171 x5_178 σ_154)))))))) ((-1) : Int32) ((-1) : Int32) (0 : Int32) σ_121) ∧
                  (x2_122 = 0 →
                    tz_loop3 (fun (x3_181 : Int32) (x4_182 : Int32) (x5_183 : Int32) (σ_180 : tzS) (ag_179 : Int32 → Int32 → Int32 → tzS → Prop) =>
                      (x2_122 ≤ x5_183 →
                        vp_in ((13 * x1_118) + x2_122) 117 ∧ (
                          ∀ σ_185 : tzS, σ_185 = tz_st σ_180 149 ((13 * x1_118) + x2_122).toNatClampNeg x4_182 →
                          ∀ σ_187 : tzS, σ_187 = tz_st σ_185 150 ((13 * x1_118) + x2_122).toNatClampNeg x3_181 →
                          ∀ x2_188 : Int32, x2_188 = x2_122 + 1 →
                          ag_120 x2_188 σ_187)) ∧
                      (¬ x2_122 ≤ x5_183 →
                        (x1_118 ≤ 0 →
                          vp_in ((13 * x1_118) + x2_122) 117 ∧ (
                            ∀ σ_190 : tzS, σ_190 = tz_st σ_180 149 ((13 * x1_118) + x2_122).toNatClampNeg x4_182 →
                            ∀ σ_192 : tzS, σ_192 = tz_st σ_190 150 ((13 * x1_118) + x2_122).toNatClampNeg x3_181 →
                            ∀ x2_193 : Int32, x2_193 = x2_122 + 1 →
                            ag_120 x2_193 σ_192)) ∧
                        (¬ x1_118 ≤ 0 →
                          vp_in ((13 * (x1_118 - 1)) + x5_183) 117 ∧ (
                            ∀ x6_195 : Int32, x6_195 = (σ_180.1 149 ((13 * (x1_118 - 1)) + x5_183).toNatClampNeg) →
                            vp_in ((13 * x5_183) + x2_122) 169 ∧ (
                              ∀ x7_197 : Int32, x7_197 = (x6_195 + (σ_180.1 148 ((13 * x5_183) + x2_122).toNatClampNeg)) →
                              (x6_195 = (-1) →
                                ∀ x5_199 : Int32, x5_199 = x5_183 + 1 →
                                ag_179 x3_181 x4_182 x5_199 σ_180) ∧
                              (¬ x6_195 = (-1) →
                                (x4_182 = (-1) →
                                  ∀ x5_201 : Int32, x5_201 = x5_183 + 1 →
                                  ag_179 x5_183 x7_197 x5_201 σ_180) ∧
                                (¬ x4_182 = (-1) →
                                  (x4_182 ≤ x7_197 →
                                    ∀ x5_203 : Int32, x5_203 = x5_183 + 1 →
                                    ag_179 x3_181 x4_182 x5_203 σ_180) ∧
                                  (¬ x4_182 ≤ x7_197 →
                                    ∀ x5_204 : Int32, x5_204 = x5_183 + 1 →
                                    ag_179 x5_183 x7_197 x5_204 σ_180)))))))) ((-1) : Int32) (0 : Int32) (0 : Int32) σ_121)))) (0 : Int32) σ_117)) (0 : Int32) σ_113) ∧
      (¬ (σ_113.1 133 30) ≤ x1_114 →
        ∀ x2_205 : Int32, x2_205 = (x1_114 + 1) →
        tz_loop1 (fun (x2_208 : Int32) (σ_207 : tzS) (ag_206 : Int32 → tzS → Prop) =>
          ((σ_207.1 133 30) < x2_208 →
            ∀ x1_210 : Int32, x1_210 = x1_114 + 1 →
            ag_112 x1_210 σ_207) ∧
          (¬ (σ_207.1 133 30) < x2_208 →
            vc_X10_placeOf x1_114 σ_207 (fun (r_212 : Int32) (σ_211 : tzS) =>
              vc_X10_placeOf x2_208 σ_211 (fun (r_214 : Int32) (σ_213 : tzS) =>
                vc_X10_costNow r_212 r_214 σ_213 (fun (r_216 : Int32) (σ_215 : tzS) =>
                  vp_in ((13 * x1_114) + x2_208) 169 ∧ (
                    ∀ σ_217 : tzS, σ_217 = tz_st σ_215 148 ((13 * x1_114) + x2_208).toNatClampNeg r_216 →
                    ∀ x2_219 : Int32, x2_219 = x2_208 + 1 →
                    ag_206 x2_219 σ_217)))))) x2_205 σ_113)) (0 : Int32) σ_111)
set_option maxRecDepth 20000 in
set_option maxHeartbeats 4000000 in
theorem m_X10_parts (G : tzG) (hG : tz_ok G)   {σ : tzS} {Q : tzS → Prop} (h : vc_X10_parts  σ Q) : tz_M G yX10_parts cX10_parts 9 (none) 2 49 [.ref 133] σ (tz_Qv G Q) := by
  unfold vc_X10_parts at h
  refine tz_startv hG RX10 [(0, .ref _)] (by decide) rfl (Nat.le_of_ble_eq_true rfl) rfl (fun E C hret => ?_)
  refine tz_aload_n 0 0 C dX10_parts_0 rfl rfl ?_
  refine tz_aload_n 0 0 C dX10_parts_1 rfl rfl ?_
  refine tz_getI C dX10_parts_2 fl_RX10_144 (by decide) rfl rfl ?_
  refine tz_iconst (-1) (by decide) C dX10_parts_5 ?_
  refine tz_icmp_ne 16 C dX10_parts_6 (by decide) h (fun c_1 h => ?_) (fun c_1 h => ?_)
  · refine tz_aload_n 0 0 C dX10_parts_16 rfl rfl ?_
    refine tz_getI C dX10_parts_17 fl_RX10_109 (by decide) rfl rfl ?_
    refine tz_iconst 1 (by decide) C dX10_parts_20 ?_
    refine tz_isub C dX10_parts_21 ?_
    refine tz_put C dX10_parts_22 fp_RX10_219 (by decide) rfl rfl rfl rfl h (fun σ_2 h => ?_)
    refine tz_iconst 0 (by decide) C dX10_parts_25 ?_
    refine tz_istore_n_k 1 [(0, .ref _)] C dX10_parts_26 rfl (Nat.le_of_ble_eq_true rfl) rfl ?_
    refine tz_sub (L := [(0, .ref _), (1, .int 0)]) ?_ [1, 0] rfl
    refine tz_loop1_w (V := fun (x1_5 : Int32) (σ_4 : tzS) => tz_V G E 27 [(0, .ref _), (1, .int x1_5)] [] σ_4) h (fun ag_3 ihag_3 x1_5 σ_4 h => ?_)
    refine tz_iload_n 1 1 C dX10_parts_27 rfl rfl ?_
    refine tz_aload_n 0 0 C dX10_parts_28 rfl rfl ?_
    refine tz_getI C dX10_parts_29 fl_RX10_219 (by decide) rfl rfl ?_
    refine tz_icmp_ge 84 C dX10_parts_32 (by decide) h (fun c_6 h => ?_) (fun c_6 h => ?_)
    · refine tz_iconst 0 (by decide) C dX10_parts_84 ?_
      refine tz_istore_n_k 1 [(0, .ref _)] C dX10_parts_85 rfl (Nat.le_of_ble_eq_true rfl) rfl ?_
      refine tz_sub (L := [(0, .ref _), (1, .int 0)]) ?_ [1, 0] rfl
      refine tz_loop1_w (V := fun (x1_9 : Int32) (σ_8 : tzS) => tz_V G E 86 [(0, .ref _), (1, .int x1_9)] [] σ_8) h (fun ag_7 ihag_7 x1_9 σ_8 h => ?_)
      refine tz_iload_n 1 1 C dX10_parts_86 rfl rfl ?_
      refine tz_bipush 9 (by decide) C dX10_parts_87 ?_
      refine tz_icmp_ge 260 C dX10_parts_89 (by decide) h (fun c_10 h => ?_) (fun c_10 h => ?_)
      · exact hret _ _ _ dX10_parts_260 h
      · refine tz_iconst 0 (by decide) C dX10_parts_92 ?_
        refine tz_istore_n_k 2 [(0, .ref _), (1, .int x1_9)] C dX10_parts_93 rfl (Nat.le_of_ble_eq_true rfl) rfl ?_
        refine tz_sub (L := [(0, .ref _), (1, .int x1_9), (2, .int 0)]) ?_ [1, 2, 0] rfl
        refine tz_loop1_w (V := fun (x2_13 : Int32) (σ_12 : tzS) => tz_V G E 94 [(0, .ref _), (1, .int x1_9), (2, .int x2_13)] [] σ_12) h (fun ag_11 ihag_11 x2_13 σ_12 h => ?_)
        refine tz_iload_n 2 2 C dX10_parts_94 rfl rfl ?_
        refine tz_aload_n 0 0 C dX10_parts_95 rfl rfl ?_
        refine tz_getI C dX10_parts_96 fl_RX10_219 (by decide) rfl rfl ?_
        refine tz_icmp_gt 254 C dX10_parts_99 (by decide) h (fun c_14 h => ?_) (fun c_14 h => ?_)
        · refine tz_iinc 1 [(0, .ref _), (2, .int x2_13)] 1 C dX10_parts_254 (by decide) rfl (Nat.le_of_ble_eq_true rfl) rfl h (fun x1_15 h => ?_)
          refine tz_goto 86 C dX10_parts_257 (by decide) ?_
          exact tz_sub (ihag_7 _ _ h) [1, 0] rfl
        · refine tz_iconst (-1) (by decide) C dX10_parts_102 ?_
          refine tz_istore_n_k 3 [(0, .ref _), (1, .int x1_9), (2, .int x2_13)] C dX10_parts_103 rfl (Nat.le_of_ble_eq_true rfl) rfl ?_
          refine tz_iload_n 1 2 C dX10_parts_104 rfl rfl ?_
          refine tz_if_ne 116 C dX10_parts_105 (by decide) h (fun c_16 h => ?_) (fun c_16 h => ?_)
          · refine tz_iconst (-1) (by decide) C dX10_parts_116 ?_
            refine tz_istore_k [(3, .int (-1)), (0, .ref _), (1, .int x1_9), (2, .int x2_13)] C dX10_parts_117 (Nat.le_of_ble_eq_true rfl) rfl ?_
            refine tz_iconst 0 (by decide) C dX10_parts_119 ?_
            refine tz_istore_k [(4, .int (-1)), (3, .int (-1)), (0, .ref _), (1, .int x1_9), (2, .int x2_13)] C dX10_parts_120 (Nat.le_of_ble_eq_true rfl) rfl ?_
            refine tz_sub (L := [(0, .ref _), (1, .int x1_9), (2, .int x2_13), (3, .int (-1)), (4, .int (-1)), (5, .int 0)]) ?_ [3, 4, 5, 2, 1, 0] rfl
            refine tz_loop3_w (V := fun (x3_19 : Int32) (x4_20 : Int32) (x5_21 : Int32) (σ_18 : tzS) => tz_V G E 122 [(0, .ref _), (1, .int x1_9), (2, .int x2_13), (3, .int x3_19), (4, .int x4_20), (5, .int x5_21)] [] σ_18) h (fun ag_17 ihag_17 x3_19 x4_20 x5_21 σ_18 h => ?_)
            refine tz_iload 5 C dX10_parts_122 rfl ?_
            refine tz_iload_n 2 2 C dX10_parts_124 rfl rfl ?_
            refine tz_icmp_ge 223 C dX10_parts_125 (by decide) h (fun c_22 h => ?_) (fun c_22 h => ?_)
            · refine tz_aload_n 0 0 C dX10_parts_223 rfl rfl ?_
              refine tz_getR C dX10_parts_224 fl_RX10_55 (by decide) rfl rfl ?_
              refine tz_bipush 13 (by decide) C dX10_parts_227 ?_
              refine tz_iload_n 1 1 C dX10_parts_229 rfl rfl ?_
              refine tz_imul C dX10_parts_230 ?_
              refine tz_iload_n 2 2 C dX10_parts_231 rfl rfl ?_
              refine tz_iadd C dX10_parts_232 ?_
              refine tz_iload 4 C dX10_parts_233 rfl ?_
              have hin_24 := h.1
              refine tz_iast C dX10_parts_235 (by decide) rfl h (fun σ_23 h => ?_)
              refine tz_aload_n 0 0 C dX10_parts_236 rfl rfl ?_
              refine tz_getR C dX10_parts_237 fl_RX10_58 (by decide) rfl rfl ?_
              refine tz_bipush 13 (by decide) C dX10_parts_240 ?_
              refine tz_iload_n 1 1 C dX10_parts_242 rfl rfl ?_
              refine tz_imul C dX10_parts_243 ?_
              refine tz_iload_n 2 2 C dX10_parts_244 rfl rfl ?_
              refine tz_iadd C dX10_parts_245 ?_
              refine tz_iload_n 3 3 C dX10_parts_246 rfl rfl ?_
              refine tz_iast_c _ C dX10_parts_247 (by decide) rfl hin_24 rfl h (fun σ_25 h => ?_)
              refine tz_iinc 2 [(0, .ref _), (1, .int x1_9), (3, .int x3_19), (4, .int x4_20), (5, .int x5_21)] 1 C dX10_parts_248 (by decide) rfl (Nat.le_of_ble_eq_true rfl) rfl h (fun x2_26 h => ?_)
              refine tz_goto 94 C dX10_parts_251 (by decide) ?_
              exact tz_sub (ihag_11 _ _ h) [1, 2, 0] rfl
            · refine tz_iload_n 1 1 C dX10_parts_128 rfl rfl ?_
              refine tz_if_le 223 C dX10_parts_129 (by decide) h (fun c_27 h => ?_) (fun c_27 h => ?_)
              · refine tz_aload_n 0 0 C dX10_parts_223 rfl rfl ?_
                refine tz_getR C dX10_parts_224 fl_RX10_55 (by decide) rfl rfl ?_
                refine tz_bipush 13 (by decide) C dX10_parts_227 ?_
                refine tz_iload_n 1 1 C dX10_parts_229 rfl rfl ?_
                refine tz_imul C dX10_parts_230 ?_
                refine tz_iload_n 2 2 C dX10_parts_231 rfl rfl ?_
                refine tz_iadd C dX10_parts_232 ?_
                refine tz_iload 4 C dX10_parts_233 rfl ?_
                have hin_29 := h.1
                refine tz_iast C dX10_parts_235 (by decide) rfl h (fun σ_28 h => ?_)
                refine tz_aload_n 0 0 C dX10_parts_236 rfl rfl ?_
                refine tz_getR C dX10_parts_237 fl_RX10_58 (by decide) rfl rfl ?_
                refine tz_bipush 13 (by decide) C dX10_parts_240 ?_
                refine tz_iload_n 1 1 C dX10_parts_242 rfl rfl ?_
                refine tz_imul C dX10_parts_243 ?_
                refine tz_iload_n 2 2 C dX10_parts_244 rfl rfl ?_
                refine tz_iadd C dX10_parts_245 ?_
                refine tz_iload_n 3 3 C dX10_parts_246 rfl rfl ?_
                refine tz_iast_c _ C dX10_parts_247 (by decide) rfl hin_29 rfl h (fun σ_30 h => ?_)
                refine tz_iinc 2 [(0, .ref _), (1, .int x1_9), (3, .int x3_19), (4, .int x4_20), (5, .int x5_21)] 1 C dX10_parts_248 (by decide) rfl (Nat.le_of_ble_eq_true rfl) rfl h (fun x2_31 h => ?_)
                refine tz_goto 94 C dX10_parts_251 (by decide) ?_
                exact tz_sub (ihag_11 _ _ h) [1, 2, 0] rfl
              · refine tz_aload_n 0 0 C dX10_parts_132 rfl rfl ?_
                refine tz_getR C dX10_parts_133 fl_RX10_55 (by decide) rfl rfl ?_
                refine tz_bipush 13 (by decide) C dX10_parts_136 ?_
                refine tz_iload_n 1 1 C dX10_parts_138 rfl rfl ?_
                refine tz_iconst 1 (by decide) C dX10_parts_139 ?_
                refine tz_isub C dX10_parts_140 ?_
                refine tz_imul C dX10_parts_141 ?_
                refine tz_iload 5 C dX10_parts_142 rfl ?_
                refine tz_iadd C dX10_parts_144 ?_
                obtain ⟨hin_32, h⟩ := h
                refine tz_iald C dX10_parts_145 (by decide) rfl hin_32 ?_
                refine tz_istore [(0, .ref _), (1, .int x1_9), (2, .int x2_13), (3, .int x3_19), (4, .int x4_20), (5, .int x5_21)] C dX10_parts_146 (Nat.le_of_ble_eq_true rfl) rfl h (fun x6_33 h => ?_)
                refine tz_iload 0 C dX10_parts_148 rfl ?_
                refine tz_aload_n 0 1 C dX10_parts_150 rfl rfl ?_
                refine tz_getR C dX10_parts_151 fl_RX10_52 (by decide) rfl rfl ?_
                refine tz_bipush 13 (by decide) C dX10_parts_154 ?_
                refine tz_iload 6 C dX10_parts_156 rfl ?_
                refine tz_imul C dX10_parts_158 ?_
                refine tz_iload_n 2 3 C dX10_parts_159 rfl rfl ?_
                refine tz_iadd C dX10_parts_160 ?_
                obtain ⟨hin_34, h⟩ := h
                refine tz_iald C dX10_parts_161 (by decide) rfl hin_34 ?_
                refine tz_iadd C dX10_parts_162 ?_
                refine tz_istore [(6, .int x6_33), (0, .ref _), (1, .int x1_9), (2, .int x2_13), (3, .int x3_19), (4, .int x4_20), (5, .int x5_21)] C dX10_parts_163 (Nat.le_of_ble_eq_true rfl) rfl h (fun x7_35 h => ?_)
                refine tz_iload 1 C dX10_parts_165 rfl ?_
                refine tz_iconst (-1) (by decide) C dX10_parts_167 ?_
                refine tz_icmp_eq 188 C dX10_parts_168 (by decide) h (fun c_36 h => ?_) (fun c_36 h => ?_)
                · refine tz_iconst 0 (by decide) C dX10_parts_188 ?_
                  refine tz_istore_k [(7, .int x7_35), (6, .int x6_33), (0, .ref _), (1, .int x1_9), (2, .int x2_13), (3, .int x3_19), (4, .int x4_20), (5, .int x5_21)] C dX10_parts_189 (Nat.le_of_ble_eq_true rfl) rfl ?_
                  refine tz_iload 0 C dX10_parts_191 rfl ?_
                  refine tz_if_eq_t 201 C dX10_parts_193 (by decide) (by decide) ?_
                  refine tz_iload_n 3 6 C dX10_parts_201 rfl rfl ?_
                  refine tz_istore_n_k 3 [(8, .int 0), (7, .int x7_35), (6, .int x6_33), (0, .ref _), (1, .int x1_9), (2, .int x2_13), (4, .int x4_20), (5, .int x5_21)] C dX10_parts_202 rfl (Nat.le_of_ble_eq_true rfl) rfl ?_
                  refine tz_iload 1 C dX10_parts_203 rfl ?_
                  refine tz_if_eq_t 213 C dX10_parts_205 (by decide) (by decide) ?_
                  refine tz_iload 7 C dX10_parts_213 rfl ?_
                  refine tz_istore_k [(3, .int x3_19), (8, .int 0), (7, .int x7_35), (6, .int x6_33), (0, .ref _), (1, .int x1_9), (2, .int x2_13), (5, .int x5_21)] C dX10_parts_215 (Nat.le_of_ble_eq_true rfl) rfl ?_
                  refine tz_iinc 8 [(4, .int x4_20), (3, .int x3_19), (8, .int 0), (7, .int x7_35), (6, .int x6_33), (0, .ref _), (1, .int x1_9), (2, .int x2_13)] 1 C dX10_parts_217 (by decide) rfl (Nat.le_of_ble_eq_true rfl) rfl h (fun x5_37 h => ?_)
                  refine tz_goto 122 C dX10_parts_220 (by decide) ?_
                  exact tz_sub (ihag_17 _ _ _ _ h) [6, 7, 8, 2, 1, 0] rfl
                · refine tz_iload 6 C dX10_parts_171 rfl ?_
                  refine tz_iconst (-1) (by decide) C dX10_parts_173 ?_
                  refine tz_icmp_eq 184 C dX10_parts_174 (by decide) h (fun c_38 h => ?_) (fun c_38 h => ?_)
                  · refine tz_iconst 1 (by decide) C dX10_parts_184 ?_
                    refine tz_goto 189 C dX10_parts_185 (by decide) ?_
                    refine tz_istore_k [(7, .int x7_35), (6, .int x6_33), (0, .ref _), (1, .int x1_9), (2, .int x2_13), (3, .int x3_19), (4, .int x4_20), (5, .int x5_21)] C dX10_parts_189 (Nat.le_of_ble_eq_true rfl) rfl ?_
                    refine tz_iload 0 C dX10_parts_191 rfl ?_
                    refine tz_if_eq_f 201 C dX10_parts_193 (by decide) (by decide) ?_
                    refine tz_iload 8 C dX10_parts_196 rfl ?_
                    refine tz_goto 202 C dX10_parts_198 (by decide) ?_
                    refine tz_istore_n_k 3 [(8, .int 1), (7, .int x7_35), (6, .int x6_33), (0, .ref _), (1, .int x1_9), (2, .int x2_13), (4, .int x4_20), (5, .int x5_21)] C dX10_parts_202 rfl (Nat.le_of_ble_eq_true rfl) rfl ?_
                    refine tz_iload 1 C dX10_parts_203 rfl ?_
                    refine tz_if_eq_f 213 C dX10_parts_205 (by decide) (by decide) ?_
                    refine tz_iload 2 C dX10_parts_208 rfl ?_
                    refine tz_goto 215 C dX10_parts_210 (by decide) ?_
                    refine tz_istore_k [(3, .int x5_21), (8, .int 1), (7, .int x7_35), (6, .int x6_33), (0, .ref _), (1, .int x1_9), (2, .int x2_13), (5, .int x5_21)] C dX10_parts_215 (Nat.le_of_ble_eq_true rfl) rfl ?_
                    refine tz_iinc 8 [(4, .int x7_35), (3, .int x5_21), (8, .int 1), (7, .int x7_35), (6, .int x6_33), (0, .ref _), (1, .int x1_9), (2, .int x2_13)] 1 C dX10_parts_217 (by decide) rfl (Nat.le_of_ble_eq_true rfl) rfl h (fun x5_39 h => ?_)
                    refine tz_goto 122 C dX10_parts_220 (by decide) ?_
                    exact tz_sub (ihag_17 _ _ _ _ h) [6, 7, 8, 2, 1, 0] rfl
                  · refine tz_iload 0 C dX10_parts_177 rfl ?_
                    refine tz_iload 6 C dX10_parts_179 rfl ?_
                    refine tz_icmp_ge 188 C dX10_parts_181 (by decide) h (fun c_40 h => ?_) (fun c_40 h => ?_)
                    · refine tz_iconst 0 (by decide) C dX10_parts_188 ?_
                      refine tz_istore_k [(7, .int x7_35), (6, .int x6_33), (0, .ref _), (1, .int x1_9), (2, .int x2_13), (3, .int x3_19), (4, .int x4_20), (5, .int x5_21)] C dX10_parts_189 (Nat.le_of_ble_eq_true rfl) rfl ?_
                      refine tz_iload 0 C dX10_parts_191 rfl ?_
                      refine tz_if_eq_t 201 C dX10_parts_193 (by decide) (by decide) ?_
                      refine tz_iload_n 3 6 C dX10_parts_201 rfl rfl ?_
                      refine tz_istore_n_k 3 [(8, .int 0), (7, .int x7_35), (6, .int x6_33), (0, .ref _), (1, .int x1_9), (2, .int x2_13), (4, .int x4_20), (5, .int x5_21)] C dX10_parts_202 rfl (Nat.le_of_ble_eq_true rfl) rfl ?_
                      refine tz_iload 1 C dX10_parts_203 rfl ?_
                      refine tz_if_eq_t 213 C dX10_parts_205 (by decide) (by decide) ?_
                      refine tz_iload 7 C dX10_parts_213 rfl ?_
                      refine tz_istore_k [(3, .int x3_19), (8, .int 0), (7, .int x7_35), (6, .int x6_33), (0, .ref _), (1, .int x1_9), (2, .int x2_13), (5, .int x5_21)] C dX10_parts_215 (Nat.le_of_ble_eq_true rfl) rfl ?_
                      refine tz_iinc 8 [(4, .int x4_20), (3, .int x3_19), (8, .int 0), (7, .int x7_35), (6, .int x6_33), (0, .ref _), (1, .int x1_9), (2, .int x2_13)] 1 C dX10_parts_217 (by decide) rfl (Nat.le_of_ble_eq_true rfl) rfl h (fun x5_41 h => ?_)
                      refine tz_goto 122 C dX10_parts_220 (by decide) ?_
                      exact tz_sub (ihag_17 _ _ _ _ h) [6, 7, 8, 2, 1, 0] rfl
                    · refine tz_iconst 1 (by decide) C dX10_parts_184 ?_
                      refine tz_goto 189 C dX10_parts_185 (by decide) ?_
                      refine tz_istore_k [(7, .int x7_35), (6, .int x6_33), (0, .ref _), (1, .int x1_9), (2, .int x2_13), (3, .int x3_19), (4, .int x4_20), (5, .int x5_21)] C dX10_parts_189 (Nat.le_of_ble_eq_true rfl) rfl ?_
                      refine tz_iload 0 C dX10_parts_191 rfl ?_
                      refine tz_if_eq_f 201 C dX10_parts_193 (by decide) (by decide) ?_
                      refine tz_iload 8 C dX10_parts_196 rfl ?_
                      refine tz_goto 202 C dX10_parts_198 (by decide) ?_
                      refine tz_istore_n_k 3 [(8, .int 1), (7, .int x7_35), (6, .int x6_33), (0, .ref _), (1, .int x1_9), (2, .int x2_13), (4, .int x4_20), (5, .int x5_21)] C dX10_parts_202 rfl (Nat.le_of_ble_eq_true rfl) rfl ?_
                      refine tz_iload 1 C dX10_parts_203 rfl ?_
                      refine tz_if_eq_f 213 C dX10_parts_205 (by decide) (by decide) ?_
                      refine tz_iload 2 C dX10_parts_208 rfl ?_
                      refine tz_goto 215 C dX10_parts_210 (by decide) ?_
                      refine tz_istore_k [(3, .int x5_21), (8, .int 1), (7, .int x7_35), (6, .int x6_33), (0, .ref _), (1, .int x1_9), (2, .int x2_13), (5, .int x5_21)] C dX10_parts_215 (Nat.le_of_ble_eq_true rfl) rfl ?_
                      refine tz_iinc 8 [(4, .int x7_35), (3, .int x5_21), (8, .int 1), (7, .int x7_35), (6, .int x6_33), (0, .ref _), (1, .int x1_9), (2, .int x2_13)] 1 C dX10_parts_217 (by decide) rfl (Nat.le_of_ble_eq_true rfl) rfl h (fun x5_42 h => ?_)
                      refine tz_goto 122 C dX10_parts_220 (by decide) ?_
                      exact tz_sub (ihag_17 _ _ _ _ h) [6, 7, 8, 2, 1, 0] rfl
          · refine tz_iload_n 2 3 C dX10_parts_108 rfl rfl ?_
            refine tz_if_ne 116 C dX10_parts_109 (by decide) h (fun c_43 h => ?_) (fun c_43 h => ?_)
            · refine tz_iconst (-1) (by decide) C dX10_parts_116 ?_
              refine tz_istore_k [(3, .int (-1)), (0, .ref _), (1, .int x1_9), (2, .int x2_13)] C dX10_parts_117 (Nat.le_of_ble_eq_true rfl) rfl ?_
              refine tz_iconst 0 (by decide) C dX10_parts_119 ?_
              refine tz_istore_k [(4, .int (-1)), (3, .int (-1)), (0, .ref _), (1, .int x1_9), (2, .int x2_13)] C dX10_parts_120 (Nat.le_of_ble_eq_true rfl) rfl ?_
              refine tz_sub (L := [(0, .ref _), (1, .int x1_9), (2, .int x2_13), (3, .int (-1)), (4, .int (-1)), (5, .int 0)]) ?_ [3, 4, 5, 2, 1, 0] rfl
              refine tz_loop3_w (V := fun (x3_46 : Int32) (x4_47 : Int32) (x5_48 : Int32) (σ_45 : tzS) => tz_V G E 122 [(0, .ref _), (1, .int x1_9), (2, .int x2_13), (3, .int x3_46), (4, .int x4_47), (5, .int x5_48)] [] σ_45) h (fun ag_44 ihag_44 x3_46 x4_47 x5_48 σ_45 h => ?_)
              refine tz_iload 5 C dX10_parts_122 rfl ?_
              refine tz_iload_n 2 2 C dX10_parts_124 rfl rfl ?_
              refine tz_icmp_ge 223 C dX10_parts_125 (by decide) h (fun c_49 h => ?_) (fun c_49 h => ?_)
              · refine tz_aload_n 0 0 C dX10_parts_223 rfl rfl ?_
                refine tz_getR C dX10_parts_224 fl_RX10_55 (by decide) rfl rfl ?_
                refine tz_bipush 13 (by decide) C dX10_parts_227 ?_
                refine tz_iload_n 1 1 C dX10_parts_229 rfl rfl ?_
                refine tz_imul C dX10_parts_230 ?_
                refine tz_iload_n 2 2 C dX10_parts_231 rfl rfl ?_
                refine tz_iadd C dX10_parts_232 ?_
                refine tz_iload 4 C dX10_parts_233 rfl ?_
                have hin_51 := h.1
                refine tz_iast C dX10_parts_235 (by decide) rfl h (fun σ_50 h => ?_)
                refine tz_aload_n 0 0 C dX10_parts_236 rfl rfl ?_
                refine tz_getR C dX10_parts_237 fl_RX10_58 (by decide) rfl rfl ?_
                refine tz_bipush 13 (by decide) C dX10_parts_240 ?_
                refine tz_iload_n 1 1 C dX10_parts_242 rfl rfl ?_
                refine tz_imul C dX10_parts_243 ?_
                refine tz_iload_n 2 2 C dX10_parts_244 rfl rfl ?_
                refine tz_iadd C dX10_parts_245 ?_
                refine tz_iload_n 3 3 C dX10_parts_246 rfl rfl ?_
                refine tz_iast_c _ C dX10_parts_247 (by decide) rfl hin_51 rfl h (fun σ_52 h => ?_)
                refine tz_iinc 2 [(0, .ref _), (1, .int x1_9), (3, .int x3_46), (4, .int x4_47), (5, .int x5_48)] 1 C dX10_parts_248 (by decide) rfl (Nat.le_of_ble_eq_true rfl) rfl h (fun x2_53 h => ?_)
                refine tz_goto 94 C dX10_parts_251 (by decide) ?_
                exact tz_sub (ihag_11 _ _ h) [1, 2, 0] rfl
              · refine tz_iload_n 1 1 C dX10_parts_128 rfl rfl ?_
                refine tz_if_le 223 C dX10_parts_129 (by decide) h (fun c_54 h => ?_) (fun c_54 h => ?_)
                · refine tz_aload_n 0 0 C dX10_parts_223 rfl rfl ?_
                  refine tz_getR C dX10_parts_224 fl_RX10_55 (by decide) rfl rfl ?_
                  refine tz_bipush 13 (by decide) C dX10_parts_227 ?_
                  refine tz_iload_n 1 1 C dX10_parts_229 rfl rfl ?_
                  refine tz_imul C dX10_parts_230 ?_
                  refine tz_iload_n 2 2 C dX10_parts_231 rfl rfl ?_
                  refine tz_iadd C dX10_parts_232 ?_
                  refine tz_iload 4 C dX10_parts_233 rfl ?_
                  have hin_56 := h.1
                  refine tz_iast C dX10_parts_235 (by decide) rfl h (fun σ_55 h => ?_)
                  refine tz_aload_n 0 0 C dX10_parts_236 rfl rfl ?_
                  refine tz_getR C dX10_parts_237 fl_RX10_58 (by decide) rfl rfl ?_
                  refine tz_bipush 13 (by decide) C dX10_parts_240 ?_
                  refine tz_iload_n 1 1 C dX10_parts_242 rfl rfl ?_
                  refine tz_imul C dX10_parts_243 ?_
                  refine tz_iload_n 2 2 C dX10_parts_244 rfl rfl ?_
                  refine tz_iadd C dX10_parts_245 ?_
                  refine tz_iload_n 3 3 C dX10_parts_246 rfl rfl ?_
                  refine tz_iast_c _ C dX10_parts_247 (by decide) rfl hin_56 rfl h (fun σ_57 h => ?_)
                  refine tz_iinc 2 [(0, .ref _), (1, .int x1_9), (3, .int x3_46), (4, .int x4_47), (5, .int x5_48)] 1 C dX10_parts_248 (by decide) rfl (Nat.le_of_ble_eq_true rfl) rfl h (fun x2_58 h => ?_)
                  refine tz_goto 94 C dX10_parts_251 (by decide) ?_
                  exact tz_sub (ihag_11 _ _ h) [1, 2, 0] rfl
                · refine tz_aload_n 0 0 C dX10_parts_132 rfl rfl ?_
                  refine tz_getR C dX10_parts_133 fl_RX10_55 (by decide) rfl rfl ?_
                  refine tz_bipush 13 (by decide) C dX10_parts_136 ?_
                  refine tz_iload_n 1 1 C dX10_parts_138 rfl rfl ?_
                  refine tz_iconst 1 (by decide) C dX10_parts_139 ?_
                  refine tz_isub C dX10_parts_140 ?_
                  refine tz_imul C dX10_parts_141 ?_
                  refine tz_iload 5 C dX10_parts_142 rfl ?_
                  refine tz_iadd C dX10_parts_144 ?_
                  obtain ⟨hin_59, h⟩ := h
                  refine tz_iald C dX10_parts_145 (by decide) rfl hin_59 ?_
                  refine tz_istore [(0, .ref _), (1, .int x1_9), (2, .int x2_13), (3, .int x3_46), (4, .int x4_47), (5, .int x5_48)] C dX10_parts_146 (Nat.le_of_ble_eq_true rfl) rfl h (fun x6_60 h => ?_)
                  refine tz_iload 0 C dX10_parts_148 rfl ?_
                  refine tz_aload_n 0 1 C dX10_parts_150 rfl rfl ?_
                  refine tz_getR C dX10_parts_151 fl_RX10_52 (by decide) rfl rfl ?_
                  refine tz_bipush 13 (by decide) C dX10_parts_154 ?_
                  refine tz_iload 6 C dX10_parts_156 rfl ?_
                  refine tz_imul C dX10_parts_158 ?_
                  refine tz_iload_n 2 3 C dX10_parts_159 rfl rfl ?_
                  refine tz_iadd C dX10_parts_160 ?_
                  obtain ⟨hin_61, h⟩ := h
                  refine tz_iald C dX10_parts_161 (by decide) rfl hin_61 ?_
                  refine tz_iadd C dX10_parts_162 ?_
                  refine tz_istore [(6, .int x6_60), (0, .ref _), (1, .int x1_9), (2, .int x2_13), (3, .int x3_46), (4, .int x4_47), (5, .int x5_48)] C dX10_parts_163 (Nat.le_of_ble_eq_true rfl) rfl h (fun x7_62 h => ?_)
                  refine tz_iload 1 C dX10_parts_165 rfl ?_
                  refine tz_iconst (-1) (by decide) C dX10_parts_167 ?_
                  refine tz_icmp_eq 188 C dX10_parts_168 (by decide) h (fun c_63 h => ?_) (fun c_63 h => ?_)
                  · refine tz_iconst 0 (by decide) C dX10_parts_188 ?_
                    refine tz_istore_k [(7, .int x7_62), (6, .int x6_60), (0, .ref _), (1, .int x1_9), (2, .int x2_13), (3, .int x3_46), (4, .int x4_47), (5, .int x5_48)] C dX10_parts_189 (Nat.le_of_ble_eq_true rfl) rfl ?_
                    refine tz_iload 0 C dX10_parts_191 rfl ?_
                    refine tz_if_eq_t 201 C dX10_parts_193 (by decide) (by decide) ?_
                    refine tz_iload_n 3 6 C dX10_parts_201 rfl rfl ?_
                    refine tz_istore_n_k 3 [(8, .int 0), (7, .int x7_62), (6, .int x6_60), (0, .ref _), (1, .int x1_9), (2, .int x2_13), (4, .int x4_47), (5, .int x5_48)] C dX10_parts_202 rfl (Nat.le_of_ble_eq_true rfl) rfl ?_
                    refine tz_iload 1 C dX10_parts_203 rfl ?_
                    refine tz_if_eq_t 213 C dX10_parts_205 (by decide) (by decide) ?_
                    refine tz_iload 7 C dX10_parts_213 rfl ?_
                    refine tz_istore_k [(3, .int x3_46), (8, .int 0), (7, .int x7_62), (6, .int x6_60), (0, .ref _), (1, .int x1_9), (2, .int x2_13), (5, .int x5_48)] C dX10_parts_215 (Nat.le_of_ble_eq_true rfl) rfl ?_
                    refine tz_iinc 8 [(4, .int x4_47), (3, .int x3_46), (8, .int 0), (7, .int x7_62), (6, .int x6_60), (0, .ref _), (1, .int x1_9), (2, .int x2_13)] 1 C dX10_parts_217 (by decide) rfl (Nat.le_of_ble_eq_true rfl) rfl h (fun x5_64 h => ?_)
                    refine tz_goto 122 C dX10_parts_220 (by decide) ?_
                    exact tz_sub (ihag_44 _ _ _ _ h) [6, 7, 8, 2, 1, 0] rfl
                  · refine tz_iload 6 C dX10_parts_171 rfl ?_
                    refine tz_iconst (-1) (by decide) C dX10_parts_173 ?_
                    refine tz_icmp_eq 184 C dX10_parts_174 (by decide) h (fun c_65 h => ?_) (fun c_65 h => ?_)
                    · refine tz_iconst 1 (by decide) C dX10_parts_184 ?_
                      refine tz_goto 189 C dX10_parts_185 (by decide) ?_
                      refine tz_istore_k [(7, .int x7_62), (6, .int x6_60), (0, .ref _), (1, .int x1_9), (2, .int x2_13), (3, .int x3_46), (4, .int x4_47), (5, .int x5_48)] C dX10_parts_189 (Nat.le_of_ble_eq_true rfl) rfl ?_
                      refine tz_iload 0 C dX10_parts_191 rfl ?_
                      refine tz_if_eq_f 201 C dX10_parts_193 (by decide) (by decide) ?_
                      refine tz_iload 8 C dX10_parts_196 rfl ?_
                      refine tz_goto 202 C dX10_parts_198 (by decide) ?_
                      refine tz_istore_n_k 3 [(8, .int 1), (7, .int x7_62), (6, .int x6_60), (0, .ref _), (1, .int x1_9), (2, .int x2_13), (4, .int x4_47), (5, .int x5_48)] C dX10_parts_202 rfl (Nat.le_of_ble_eq_true rfl) rfl ?_
                      refine tz_iload 1 C dX10_parts_203 rfl ?_
                      refine tz_if_eq_f 213 C dX10_parts_205 (by decide) (by decide) ?_
                      refine tz_iload 2 C dX10_parts_208 rfl ?_
                      refine tz_goto 215 C dX10_parts_210 (by decide) ?_
                      refine tz_istore_k [(3, .int x5_48), (8, .int 1), (7, .int x7_62), (6, .int x6_60), (0, .ref _), (1, .int x1_9), (2, .int x2_13), (5, .int x5_48)] C dX10_parts_215 (Nat.le_of_ble_eq_true rfl) rfl ?_
                      refine tz_iinc 8 [(4, .int x7_62), (3, .int x5_48), (8, .int 1), (7, .int x7_62), (6, .int x6_60), (0, .ref _), (1, .int x1_9), (2, .int x2_13)] 1 C dX10_parts_217 (by decide) rfl (Nat.le_of_ble_eq_true rfl) rfl h (fun x5_66 h => ?_)
                      refine tz_goto 122 C dX10_parts_220 (by decide) ?_
                      exact tz_sub (ihag_44 _ _ _ _ h) [6, 7, 8, 2, 1, 0] rfl
                    · refine tz_iload 0 C dX10_parts_177 rfl ?_
                      refine tz_iload 6 C dX10_parts_179 rfl ?_
                      refine tz_icmp_ge 188 C dX10_parts_181 (by decide) h (fun c_67 h => ?_) (fun c_67 h => ?_)
                      · refine tz_iconst 0 (by decide) C dX10_parts_188 ?_
                        refine tz_istore_k [(7, .int x7_62), (6, .int x6_60), (0, .ref _), (1, .int x1_9), (2, .int x2_13), (3, .int x3_46), (4, .int x4_47), (5, .int x5_48)] C dX10_parts_189 (Nat.le_of_ble_eq_true rfl) rfl ?_
                        refine tz_iload 0 C dX10_parts_191 rfl ?_
                        refine tz_if_eq_t 201 C dX10_parts_193 (by decide) (by decide) ?_
                        refine tz_iload_n 3 6 C dX10_parts_201 rfl rfl ?_
                        refine tz_istore_n_k 3 [(8, .int 0), (7, .int x7_62), (6, .int x6_60), (0, .ref _), (1, .int x1_9), (2, .int x2_13), (4, .int x4_47), (5, .int x5_48)] C dX10_parts_202 rfl (Nat.le_of_ble_eq_true rfl) rfl ?_
                        refine tz_iload 1 C dX10_parts_203 rfl ?_
                        refine tz_if_eq_t 213 C dX10_parts_205 (by decide) (by decide) ?_
                        refine tz_iload 7 C dX10_parts_213 rfl ?_
                        refine tz_istore_k [(3, .int x3_46), (8, .int 0), (7, .int x7_62), (6, .int x6_60), (0, .ref _), (1, .int x1_9), (2, .int x2_13), (5, .int x5_48)] C dX10_parts_215 (Nat.le_of_ble_eq_true rfl) rfl ?_
                        refine tz_iinc 8 [(4, .int x4_47), (3, .int x3_46), (8, .int 0), (7, .int x7_62), (6, .int x6_60), (0, .ref _), (1, .int x1_9), (2, .int x2_13)] 1 C dX10_parts_217 (by decide) rfl (Nat.le_of_ble_eq_true rfl) rfl h (fun x5_68 h => ?_)
                        refine tz_goto 122 C dX10_parts_220 (by decide) ?_
                        exact tz_sub (ihag_44 _ _ _ _ h) [6, 7, 8, 2, 1, 0] rfl
                      · refine tz_iconst 1 (by decide) C dX10_parts_184 ?_
                        refine tz_goto 189 C dX10_parts_185 (by decide) ?_
                        refine tz_istore_k [(7, .int x7_62), (6, .int x6_60), (0, .ref _), (1, .int x1_9), (2, .int x2_13), (3, .int x3_46), (4, .int x4_47), (5, .int x5_48)] C dX10_parts_189 (Nat.le_of_ble_eq_true rfl) rfl ?_
                        refine tz_iload 0 C dX10_parts_191 rfl ?_
                        refine tz_if_eq_f 201 C dX10_parts_193 (by decide) (by decide) ?_
                        refine tz_iload 8 C dX10_parts_196 rfl ?_
                        refine tz_goto 202 C dX10_parts_198 (by decide) ?_
                        refine tz_istore_n_k 3 [(8, .int 1), (7, .int x7_62), (6, .int x6_60), (0, .ref _), (1, .int x1_9), (2, .int x2_13), (4, .int x4_47), (5, .int x5_48)] C dX10_parts_202 rfl (Nat.le_of_ble_eq_true rfl) rfl ?_
                        refine tz_iload 1 C dX10_parts_203 rfl ?_
                        refine tz_if_eq_f 213 C dX10_parts_205 (by decide) (by decide) ?_
                        refine tz_iload 2 C dX10_parts_208 rfl ?_
                        refine tz_goto 215 C dX10_parts_210 (by decide) ?_
                        refine tz_istore_k [(3, .int x5_48), (8, .int 1), (7, .int x7_62), (6, .int x6_60), (0, .ref _), (1, .int x1_9), (2, .int x2_13), (5, .int x5_48)] C dX10_parts_215 (Nat.le_of_ble_eq_true rfl) rfl ?_
                        refine tz_iinc 8 [(4, .int x7_62), (3, .int x5_48), (8, .int 1), (7, .int x7_62), (6, .int x6_60), (0, .ref _), (1, .int x1_9), (2, .int x2_13)] 1 C dX10_parts_217 (by decide) rfl (Nat.le_of_ble_eq_true rfl) rfl h (fun x5_69 h => ?_)
                        refine tz_goto 122 C dX10_parts_220 (by decide) ?_
                        exact tz_sub (ihag_44 _ _ _ _ h) [6, 7, 8, 2, 1, 0] rfl
            · refine tz_iconst 0 (by decide) C dX10_parts_112 ?_
              refine tz_goto 117 C dX10_parts_113 (by decide) ?_
              refine tz_istore_k [(3, .int (-1)), (0, .ref _), (1, .int x1_9), (2, .int x2_13)] C dX10_parts_117 (Nat.le_of_ble_eq_true rfl) rfl ?_
              refine tz_iconst 0 (by decide) C dX10_parts_119 ?_
              refine tz_istore_k [(4, .int 0), (3, .int (-1)), (0, .ref _), (1, .int x1_9), (2, .int x2_13)] C dX10_parts_120 (Nat.le_of_ble_eq_true rfl) rfl ?_
              refine tz_sub (L := [(0, .ref _), (1, .int x1_9), (2, .int x2_13), (3, .int (-1)), (4, .int 0), (5, .int 0)]) ?_ [3, 4, 5, 2, 1, 0] rfl
              refine tz_loop3_w (V := fun (x3_72 : Int32) (x4_73 : Int32) (x5_74 : Int32) (σ_71 : tzS) => tz_V G E 122 [(0, .ref _), (1, .int x1_9), (2, .int x2_13), (3, .int x3_72), (4, .int x4_73), (5, .int x5_74)] [] σ_71) h (fun ag_70 ihag_70 x3_72 x4_73 x5_74 σ_71 h => ?_)
              refine tz_iload 5 C dX10_parts_122 rfl ?_
              refine tz_iload_n 2 2 C dX10_parts_124 rfl rfl ?_
              refine tz_icmp_ge 223 C dX10_parts_125 (by decide) h (fun c_75 h => ?_) (fun c_75 h => ?_)
              · refine tz_aload_n 0 0 C dX10_parts_223 rfl rfl ?_
                refine tz_getR C dX10_parts_224 fl_RX10_55 (by decide) rfl rfl ?_
                refine tz_bipush 13 (by decide) C dX10_parts_227 ?_
                refine tz_iload_n 1 1 C dX10_parts_229 rfl rfl ?_
                refine tz_imul C dX10_parts_230 ?_
                refine tz_iload_n 2 2 C dX10_parts_231 rfl rfl ?_
                refine tz_iadd C dX10_parts_232 ?_
                refine tz_iload 4 C dX10_parts_233 rfl ?_
                have hin_77 := h.1
                refine tz_iast C dX10_parts_235 (by decide) rfl h (fun σ_76 h => ?_)
                refine tz_aload_n 0 0 C dX10_parts_236 rfl rfl ?_
                refine tz_getR C dX10_parts_237 fl_RX10_58 (by decide) rfl rfl ?_
                refine tz_bipush 13 (by decide) C dX10_parts_240 ?_
                refine tz_iload_n 1 1 C dX10_parts_242 rfl rfl ?_
                refine tz_imul C dX10_parts_243 ?_
                refine tz_iload_n 2 2 C dX10_parts_244 rfl rfl ?_
                refine tz_iadd C dX10_parts_245 ?_
                refine tz_iload_n 3 3 C dX10_parts_246 rfl rfl ?_
                refine tz_iast_c _ C dX10_parts_247 (by decide) rfl hin_77 rfl h (fun σ_78 h => ?_)
                refine tz_iinc 2 [(0, .ref _), (1, .int x1_9), (3, .int x3_72), (4, .int x4_73), (5, .int x5_74)] 1 C dX10_parts_248 (by decide) rfl (Nat.le_of_ble_eq_true rfl) rfl h (fun x2_79 h => ?_)
                refine tz_goto 94 C dX10_parts_251 (by decide) ?_
                exact tz_sub (ihag_11 _ _ h) [1, 2, 0] rfl
              · refine tz_iload_n 1 1 C dX10_parts_128 rfl rfl ?_
                refine tz_if_le 223 C dX10_parts_129 (by decide) h (fun c_80 h => ?_) (fun c_80 h => ?_)
                · refine tz_aload_n 0 0 C dX10_parts_223 rfl rfl ?_
                  refine tz_getR C dX10_parts_224 fl_RX10_55 (by decide) rfl rfl ?_
                  refine tz_bipush 13 (by decide) C dX10_parts_227 ?_
                  refine tz_iload_n 1 1 C dX10_parts_229 rfl rfl ?_
                  refine tz_imul C dX10_parts_230 ?_
                  refine tz_iload_n 2 2 C dX10_parts_231 rfl rfl ?_
                  refine tz_iadd C dX10_parts_232 ?_
                  refine tz_iload 4 C dX10_parts_233 rfl ?_
                  have hin_82 := h.1
                  refine tz_iast C dX10_parts_235 (by decide) rfl h (fun σ_81 h => ?_)
                  refine tz_aload_n 0 0 C dX10_parts_236 rfl rfl ?_
                  refine tz_getR C dX10_parts_237 fl_RX10_58 (by decide) rfl rfl ?_
                  refine tz_bipush 13 (by decide) C dX10_parts_240 ?_
                  refine tz_iload_n 1 1 C dX10_parts_242 rfl rfl ?_
                  refine tz_imul C dX10_parts_243 ?_
                  refine tz_iload_n 2 2 C dX10_parts_244 rfl rfl ?_
                  refine tz_iadd C dX10_parts_245 ?_
                  refine tz_iload_n 3 3 C dX10_parts_246 rfl rfl ?_
                  refine tz_iast_c _ C dX10_parts_247 (by decide) rfl hin_82 rfl h (fun σ_83 h => ?_)
                  refine tz_iinc 2 [(0, .ref _), (1, .int x1_9), (3, .int x3_72), (4, .int x4_73), (5, .int x5_74)] 1 C dX10_parts_248 (by decide) rfl (Nat.le_of_ble_eq_true rfl) rfl h (fun x2_84 h => ?_)
                  refine tz_goto 94 C dX10_parts_251 (by decide) ?_
                  exact tz_sub (ihag_11 _ _ h) [1, 2, 0] rfl
                · refine tz_aload_n 0 0 C dX10_parts_132 rfl rfl ?_
                  refine tz_getR C dX10_parts_133 fl_RX10_55 (by decide) rfl rfl ?_
                  refine tz_bipush 13 (by decide) C dX10_parts_136 ?_
                  refine tz_iload_n 1 1 C dX10_parts_138 rfl rfl ?_
                  refine tz_iconst 1 (by decide) C dX10_parts_139 ?_
                  refine tz_isub C dX10_parts_140 ?_
                  refine tz_imul C dX10_parts_141 ?_
                  refine tz_iload 5 C dX10_parts_142 rfl ?_
                  refine tz_iadd C dX10_parts_144 ?_
                  obtain ⟨hin_85, h⟩ := h
                  refine tz_iald C dX10_parts_145 (by decide) rfl hin_85 ?_
                  refine tz_istore [(0, .ref _), (1, .int x1_9), (2, .int x2_13), (3, .int x3_72), (4, .int x4_73), (5, .int x5_74)] C dX10_parts_146 (Nat.le_of_ble_eq_true rfl) rfl h (fun x6_86 h => ?_)
                  refine tz_iload 0 C dX10_parts_148 rfl ?_
                  refine tz_aload_n 0 1 C dX10_parts_150 rfl rfl ?_
                  refine tz_getR C dX10_parts_151 fl_RX10_52 (by decide) rfl rfl ?_
                  refine tz_bipush 13 (by decide) C dX10_parts_154 ?_
                  refine tz_iload 6 C dX10_parts_156 rfl ?_
                  refine tz_imul C dX10_parts_158 ?_
                  refine tz_iload_n 2 3 C dX10_parts_159 rfl rfl ?_
                  refine tz_iadd C dX10_parts_160 ?_
                  obtain ⟨hin_87, h⟩ := h
                  refine tz_iald C dX10_parts_161 (by decide) rfl hin_87 ?_
                  refine tz_iadd C dX10_parts_162 ?_
                  refine tz_istore [(6, .int x6_86), (0, .ref _), (1, .int x1_9), (2, .int x2_13), (3, .int x3_72), (4, .int x4_73), (5, .int x5_74)] C dX10_parts_163 (Nat.le_of_ble_eq_true rfl) rfl h (fun x7_88 h => ?_)
                  refine tz_iload 1 C dX10_parts_165 rfl ?_
                  refine tz_iconst (-1) (by decide) C dX10_parts_167 ?_
                  refine tz_icmp_eq 188 C dX10_parts_168 (by decide) h (fun c_89 h => ?_) (fun c_89 h => ?_)
                  · refine tz_iconst 0 (by decide) C dX10_parts_188 ?_
                    refine tz_istore_k [(7, .int x7_88), (6, .int x6_86), (0, .ref _), (1, .int x1_9), (2, .int x2_13), (3, .int x3_72), (4, .int x4_73), (5, .int x5_74)] C dX10_parts_189 (Nat.le_of_ble_eq_true rfl) rfl ?_
                    refine tz_iload 0 C dX10_parts_191 rfl ?_
                    refine tz_if_eq_t 201 C dX10_parts_193 (by decide) (by decide) ?_
                    refine tz_iload_n 3 6 C dX10_parts_201 rfl rfl ?_
                    refine tz_istore_n_k 3 [(8, .int 0), (7, .int x7_88), (6, .int x6_86), (0, .ref _), (1, .int x1_9), (2, .int x2_13), (4, .int x4_73), (5, .int x5_74)] C dX10_parts_202 rfl (Nat.le_of_ble_eq_true rfl) rfl ?_
                    refine tz_iload 1 C dX10_parts_203 rfl ?_
                    refine tz_if_eq_t 213 C dX10_parts_205 (by decide) (by decide) ?_
                    refine tz_iload 7 C dX10_parts_213 rfl ?_
                    refine tz_istore_k [(3, .int x3_72), (8, .int 0), (7, .int x7_88), (6, .int x6_86), (0, .ref _), (1, .int x1_9), (2, .int x2_13), (5, .int x5_74)] C dX10_parts_215 (Nat.le_of_ble_eq_true rfl) rfl ?_
                    refine tz_iinc 8 [(4, .int x4_73), (3, .int x3_72), (8, .int 0), (7, .int x7_88), (6, .int x6_86), (0, .ref _), (1, .int x1_9), (2, .int x2_13)] 1 C dX10_parts_217 (by decide) rfl (Nat.le_of_ble_eq_true rfl) rfl h (fun x5_90 h => ?_)
                    refine tz_goto 122 C dX10_parts_220 (by decide) ?_
                    exact tz_sub (ihag_70 _ _ _ _ h) [6, 7, 8, 2, 1, 0] rfl
                  · refine tz_iload 6 C dX10_parts_171 rfl ?_
                    refine tz_iconst (-1) (by decide) C dX10_parts_173 ?_
                    refine tz_icmp_eq 184 C dX10_parts_174 (by decide) h (fun c_91 h => ?_) (fun c_91 h => ?_)
                    · refine tz_iconst 1 (by decide) C dX10_parts_184 ?_
                      refine tz_goto 189 C dX10_parts_185 (by decide) ?_
                      refine tz_istore_k [(7, .int x7_88), (6, .int x6_86), (0, .ref _), (1, .int x1_9), (2, .int x2_13), (3, .int x3_72), (4, .int x4_73), (5, .int x5_74)] C dX10_parts_189 (Nat.le_of_ble_eq_true rfl) rfl ?_
                      refine tz_iload 0 C dX10_parts_191 rfl ?_
                      refine tz_if_eq_f 201 C dX10_parts_193 (by decide) (by decide) ?_
                      refine tz_iload 8 C dX10_parts_196 rfl ?_
                      refine tz_goto 202 C dX10_parts_198 (by decide) ?_
                      refine tz_istore_n_k 3 [(8, .int 1), (7, .int x7_88), (6, .int x6_86), (0, .ref _), (1, .int x1_9), (2, .int x2_13), (4, .int x4_73), (5, .int x5_74)] C dX10_parts_202 rfl (Nat.le_of_ble_eq_true rfl) rfl ?_
                      refine tz_iload 1 C dX10_parts_203 rfl ?_
                      refine tz_if_eq_f 213 C dX10_parts_205 (by decide) (by decide) ?_
                      refine tz_iload 2 C dX10_parts_208 rfl ?_
                      refine tz_goto 215 C dX10_parts_210 (by decide) ?_
                      refine tz_istore_k [(3, .int x5_74), (8, .int 1), (7, .int x7_88), (6, .int x6_86), (0, .ref _), (1, .int x1_9), (2, .int x2_13), (5, .int x5_74)] C dX10_parts_215 (Nat.le_of_ble_eq_true rfl) rfl ?_
                      refine tz_iinc 8 [(4, .int x7_88), (3, .int x5_74), (8, .int 1), (7, .int x7_88), (6, .int x6_86), (0, .ref _), (1, .int x1_9), (2, .int x2_13)] 1 C dX10_parts_217 (by decide) rfl (Nat.le_of_ble_eq_true rfl) rfl h (fun x5_92 h => ?_)
                      refine tz_goto 122 C dX10_parts_220 (by decide) ?_
                      exact tz_sub (ihag_70 _ _ _ _ h) [6, 7, 8, 2, 1, 0] rfl
                    · refine tz_iload 0 C dX10_parts_177 rfl ?_
                      refine tz_iload 6 C dX10_parts_179 rfl ?_
                      refine tz_icmp_ge 188 C dX10_parts_181 (by decide) h (fun c_93 h => ?_) (fun c_93 h => ?_)
                      · refine tz_iconst 0 (by decide) C dX10_parts_188 ?_
                        refine tz_istore_k [(7, .int x7_88), (6, .int x6_86), (0, .ref _), (1, .int x1_9), (2, .int x2_13), (3, .int x3_72), (4, .int x4_73), (5, .int x5_74)] C dX10_parts_189 (Nat.le_of_ble_eq_true rfl) rfl ?_
                        refine tz_iload 0 C dX10_parts_191 rfl ?_
                        refine tz_if_eq_t 201 C dX10_parts_193 (by decide) (by decide) ?_
                        refine tz_iload_n 3 6 C dX10_parts_201 rfl rfl ?_
                        refine tz_istore_n_k 3 [(8, .int 0), (7, .int x7_88), (6, .int x6_86), (0, .ref _), (1, .int x1_9), (2, .int x2_13), (4, .int x4_73), (5, .int x5_74)] C dX10_parts_202 rfl (Nat.le_of_ble_eq_true rfl) rfl ?_
                        refine tz_iload 1 C dX10_parts_203 rfl ?_
                        refine tz_if_eq_t 213 C dX10_parts_205 (by decide) (by decide) ?_
                        refine tz_iload 7 C dX10_parts_213 rfl ?_
                        refine tz_istore_k [(3, .int x3_72), (8, .int 0), (7, .int x7_88), (6, .int x6_86), (0, .ref _), (1, .int x1_9), (2, .int x2_13), (5, .int x5_74)] C dX10_parts_215 (Nat.le_of_ble_eq_true rfl) rfl ?_
                        refine tz_iinc 8 [(4, .int x4_73), (3, .int x3_72), (8, .int 0), (7, .int x7_88), (6, .int x6_86), (0, .ref _), (1, .int x1_9), (2, .int x2_13)] 1 C dX10_parts_217 (by decide) rfl (Nat.le_of_ble_eq_true rfl) rfl h (fun x5_94 h => ?_)
                        refine tz_goto 122 C dX10_parts_220 (by decide) ?_
                        exact tz_sub (ihag_70 _ _ _ _ h) [6, 7, 8, 2, 1, 0] rfl
                      · refine tz_iconst 1 (by decide) C dX10_parts_184 ?_
                        refine tz_goto 189 C dX10_parts_185 (by decide) ?_
                        refine tz_istore_k [(7, .int x7_88), (6, .int x6_86), (0, .ref _), (1, .int x1_9), (2, .int x2_13), (3, .int x3_72), (4, .int x4_73), (5, .int x5_74)] C dX10_parts_189 (Nat.le_of_ble_eq_true rfl) rfl ?_
                        refine tz_iload 0 C dX10_parts_191 rfl ?_
                        refine tz_if_eq_f 201 C dX10_parts_193 (by decide) (by decide) ?_
                        refine tz_iload 8 C dX10_parts_196 rfl ?_
                        refine tz_goto 202 C dX10_parts_198 (by decide) ?_
                        refine tz_istore_n_k 3 [(8, .int 1), (7, .int x7_88), (6, .int x6_86), (0, .ref _), (1, .int x1_9), (2, .int x2_13), (4, .int x4_73), (5, .int x5_74)] C dX10_parts_202 rfl (Nat.le_of_ble_eq_true rfl) rfl ?_
                        refine tz_iload 1 C dX10_parts_203 rfl ?_
                        refine tz_if_eq_f 213 C dX10_parts_205 (by decide) (by decide) ?_
                        refine tz_iload 2 C dX10_parts_208 rfl ?_
                        refine tz_goto 215 C dX10_parts_210 (by decide) ?_
                        refine tz_istore_k [(3, .int x5_74), (8, .int 1), (7, .int x7_88), (6, .int x6_86), (0, .ref _), (1, .int x1_9), (2, .int x2_13), (5, .int x5_74)] C dX10_parts_215 (Nat.le_of_ble_eq_true rfl) rfl ?_
                        refine tz_iinc 8 [(4, .int x7_88), (3, .int x5_74), (8, .int 1), (7, .int x7_88), (6, .int x6_86), (0, .ref _), (1, .int x1_9), (2, .int x2_13)] 1 C dX10_parts_217 (by decide) rfl (Nat.le_of_ble_eq_true rfl) rfl h (fun x5_95 h => ?_)
                        refine tz_goto 122 C dX10_parts_220 (by decide) ?_
                        exact tz_sub (ihag_70 _ _ _ _ h) [6, 7, 8, 2, 1, 0] rfl
    · refine tz_iload_n 1 1 C dX10_parts_35 rfl rfl ?_
      refine tz_iconst 1 (by decide) C dX10_parts_36 ?_
      refine tz_iadd C dX10_parts_37 ?_
      refine tz_istore_n 2 [(0, .ref _), (1, .int x1_5)] C dX10_parts_38 rfl (Nat.le_of_ble_eq_true rfl) rfl h (fun x2_96 h => ?_)
      refine tz_sub (L := [(0, .ref _), (1, .int x1_5), (2, .int x2_96)]) ?_ [1, 2, 0] rfl
      refine tz_loop1_w (V := fun (x2_99 : Int32) (σ_98 : tzS) => tz_V G E 39 [(0, .ref _), (1, .int x1_5), (2, .int x2_99)] [] σ_98) h (fun ag_97 ihag_97 x2_99 σ_98 h => ?_)
      refine tz_iload_n 2 2 C dX10_parts_39 rfl rfl ?_
      refine tz_aload_n 0 0 C dX10_parts_40 rfl rfl ?_
      refine tz_getI C dX10_parts_41 fl_RX10_219 (by decide) rfl rfl ?_
      refine tz_icmp_gt 78 C dX10_parts_44 (by decide) h (fun c_100 h => ?_) (fun c_100 h => ?_)
      · refine tz_iinc 1 [(0, .ref _), (2, .int x2_99)] 1 C dX10_parts_78 (by decide) rfl (Nat.le_of_ble_eq_true rfl) rfl h (fun x1_101 h => ?_)
        refine tz_goto 27 C dX10_parts_81 (by decide) ?_
        exact tz_sub (ihag_3 _ _ h) [1, 0] rfl
      · refine tz_aload_n 0 0 C dX10_parts_47 rfl rfl ?_
        refine tz_getR C dX10_parts_48 fl_RX10_52 (by decide) rfl rfl ?_
        refine tz_bipush 13 (by decide) C dX10_parts_51 ?_
        refine tz_iload_n 1 1 C dX10_parts_53 rfl rfl ?_
        refine tz_imul C dX10_parts_54 ?_
        refine tz_iload_n 2 2 C dX10_parts_55 rfl rfl ?_
        refine tz_iadd C dX10_parts_56 ?_
        refine tz_aload_n 0 0 C dX10_parts_57 rfl rfl ?_
        refine tz_aload_n 0 0 C dX10_parts_58 rfl rfl ?_
        refine tz_iload_n 1 1 C dX10_parts_59 rfl rfl ?_
        refine tz_calliv C dX10_parts_60 lk_RX10_222 (m_X10_placeOf G hG  h) (by decide) rfl rfl rfl rfl ⟨Nat.le_of_ble_eq_true rfl, Nat.le_of_ble_eq_true rfl⟩ (Nat.le_of_ble_eq_true rfl) rfl (fun r_103 σ_102 h => ?_)
        refine tz_aload_n 0 0 C dX10_parts_63 rfl rfl ?_
        refine tz_iload_n 2 2 C dX10_parts_64 rfl rfl ?_
        refine tz_calliv C dX10_parts_65 lk_RX10_222 (m_X10_placeOf G hG  h) (by decide) rfl rfl rfl rfl ⟨Nat.le_of_ble_eq_true rfl, Nat.le_of_ble_eq_true rfl⟩ (Nat.le_of_ble_eq_true rfl) rfl (fun r_105 σ_104 h => ?_)
        refine tz_calliv C dX10_parts_68 lk_RX10_213 (m_X10_costNow G hG  h) (by decide) rfl rfl rfl rfl ⟨Nat.le_of_ble_eq_true rfl, Nat.le_of_ble_eq_true rfl⟩ (Nat.le_of_ble_eq_true rfl) rfl (fun r_107 σ_106 h => ?_)
        have hin_109 := h.1
        refine tz_iast C dX10_parts_71 (by decide) rfl h (fun σ_108 h => ?_)
        refine tz_iinc 2 [(0, .ref _), (1, .int x1_5)] 1 C dX10_parts_72 (by decide) rfl (Nat.le_of_ble_eq_true rfl) rfl h (fun x2_110 h => ?_)
        refine tz_goto 39 C dX10_parts_75 (by decide) ?_
        exact tz_sub (ihag_97 _ _ h) [1, 2, 0] rfl
  · refine tz_aload_n 0 0 C dX10_parts_9 rfl rfl ?_
    refine tz_getI C dX10_parts_10 fl_RX10_109 (by decide) rfl rfl ?_
    refine tz_goto 22 C dX10_parts_13 (by decide) ?_
    refine tz_put C dX10_parts_22 fp_RX10_219 (by decide) rfl rfl rfl rfl h (fun σ_111 h => ?_)
    refine tz_iconst 0 (by decide) C dX10_parts_25 ?_
    refine tz_istore_n_k 1 [(0, .ref _)] C dX10_parts_26 rfl (Nat.le_of_ble_eq_true rfl) rfl ?_
    refine tz_sub (L := [(0, .ref _), (1, .int 0)]) ?_ [1, 0] rfl
    refine tz_loop1_w (V := fun (x1_114 : Int32) (σ_113 : tzS) => tz_V G E 27 [(0, .ref _), (1, .int x1_114)] [] σ_113) h (fun ag_112 ihag_112 x1_114 σ_113 h => ?_)
    refine tz_iload_n 1 1 C dX10_parts_27 rfl rfl ?_
    refine tz_aload_n 0 0 C dX10_parts_28 rfl rfl ?_
    refine tz_getI C dX10_parts_29 fl_RX10_219 (by decide) rfl rfl ?_
    refine tz_icmp_ge 84 C dX10_parts_32 (by decide) h (fun c_115 h => ?_) (fun c_115 h => ?_)
    · refine tz_iconst 0 (by decide) C dX10_parts_84 ?_
      refine tz_istore_n_k 1 [(0, .ref _)] C dX10_parts_85 rfl (Nat.le_of_ble_eq_true rfl) rfl ?_
      refine tz_sub (L := [(0, .ref _), (1, .int 0)]) ?_ [1, 0] rfl
      refine tz_loop1_w (V := fun (x1_118 : Int32) (σ_117 : tzS) => tz_V G E 86 [(0, .ref _), (1, .int x1_118)] [] σ_117) h (fun ag_116 ihag_116 x1_118 σ_117 h => ?_)
      refine tz_iload_n 1 1 C dX10_parts_86 rfl rfl ?_
      refine tz_bipush 9 (by decide) C dX10_parts_87 ?_
      refine tz_icmp_ge 260 C dX10_parts_89 (by decide) h (fun c_119 h => ?_) (fun c_119 h => ?_)
      · exact hret _ _ _ dX10_parts_260 h
      · refine tz_iconst 0 (by decide) C dX10_parts_92 ?_
        refine tz_istore_n_k 2 [(0, .ref _), (1, .int x1_118)] C dX10_parts_93 rfl (Nat.le_of_ble_eq_true rfl) rfl ?_
        refine tz_sub (L := [(0, .ref _), (1, .int x1_118), (2, .int 0)]) ?_ [1, 2, 0] rfl
        refine tz_loop1_w (V := fun (x2_122 : Int32) (σ_121 : tzS) => tz_V G E 94 [(0, .ref _), (1, .int x1_118), (2, .int x2_122)] [] σ_121) h (fun ag_120 ihag_120 x2_122 σ_121 h => ?_)
        refine tz_iload_n 2 2 C dX10_parts_94 rfl rfl ?_
        refine tz_aload_n 0 0 C dX10_parts_95 rfl rfl ?_
        refine tz_getI C dX10_parts_96 fl_RX10_219 (by decide) rfl rfl ?_
        refine tz_icmp_gt 254 C dX10_parts_99 (by decide) h (fun c_123 h => ?_) (fun c_123 h => ?_)
        · refine tz_iinc 1 [(0, .ref _), (2, .int x2_122)] 1 C dX10_parts_254 (by decide) rfl (Nat.le_of_ble_eq_true rfl) rfl h (fun x1_124 h => ?_)
          refine tz_goto 86 C dX10_parts_257 (by decide) ?_
          exact tz_sub (ihag_116 _ _ h) [1, 0] rfl
        · refine tz_iconst (-1) (by decide) C dX10_parts_102 ?_
          refine tz_istore_n_k 3 [(0, .ref _), (1, .int x1_118), (2, .int x2_122)] C dX10_parts_103 rfl (Nat.le_of_ble_eq_true rfl) rfl ?_
          refine tz_iload_n 1 2 C dX10_parts_104 rfl rfl ?_
          refine tz_if_ne 116 C dX10_parts_105 (by decide) h (fun c_125 h => ?_) (fun c_125 h => ?_)
          · refine tz_iconst (-1) (by decide) C dX10_parts_116 ?_
            refine tz_istore_k [(3, .int (-1)), (0, .ref _), (1, .int x1_118), (2, .int x2_122)] C dX10_parts_117 (Nat.le_of_ble_eq_true rfl) rfl ?_
            refine tz_iconst 0 (by decide) C dX10_parts_119 ?_
            refine tz_istore_k [(4, .int (-1)), (3, .int (-1)), (0, .ref _), (1, .int x1_118), (2, .int x2_122)] C dX10_parts_120 (Nat.le_of_ble_eq_true rfl) rfl ?_
            refine tz_sub (L := [(0, .ref _), (1, .int x1_118), (2, .int x2_122), (3, .int (-1)), (4, .int (-1)), (5, .int 0)]) ?_ [3, 4, 5, 2, 1, 0] rfl
            refine tz_loop3_w (V := fun (x3_128 : Int32) (x4_129 : Int32) (x5_130 : Int32) (σ_127 : tzS) => tz_V G E 122 [(0, .ref _), (1, .int x1_118), (2, .int x2_122), (3, .int x3_128), (4, .int x4_129), (5, .int x5_130)] [] σ_127) h (fun ag_126 ihag_126 x3_128 x4_129 x5_130 σ_127 h => ?_)
            refine tz_iload 5 C dX10_parts_122 rfl ?_
            refine tz_iload_n 2 2 C dX10_parts_124 rfl rfl ?_
            refine tz_icmp_ge 223 C dX10_parts_125 (by decide) h (fun c_131 h => ?_) (fun c_131 h => ?_)
            · refine tz_aload_n 0 0 C dX10_parts_223 rfl rfl ?_
              refine tz_getR C dX10_parts_224 fl_RX10_55 (by decide) rfl rfl ?_
              refine tz_bipush 13 (by decide) C dX10_parts_227 ?_
              refine tz_iload_n 1 1 C dX10_parts_229 rfl rfl ?_
              refine tz_imul C dX10_parts_230 ?_
              refine tz_iload_n 2 2 C dX10_parts_231 rfl rfl ?_
              refine tz_iadd C dX10_parts_232 ?_
              refine tz_iload 4 C dX10_parts_233 rfl ?_
              have hin_133 := h.1
              refine tz_iast C dX10_parts_235 (by decide) rfl h (fun σ_132 h => ?_)
              refine tz_aload_n 0 0 C dX10_parts_236 rfl rfl ?_
              refine tz_getR C dX10_parts_237 fl_RX10_58 (by decide) rfl rfl ?_
              refine tz_bipush 13 (by decide) C dX10_parts_240 ?_
              refine tz_iload_n 1 1 C dX10_parts_242 rfl rfl ?_
              refine tz_imul C dX10_parts_243 ?_
              refine tz_iload_n 2 2 C dX10_parts_244 rfl rfl ?_
              refine tz_iadd C dX10_parts_245 ?_
              refine tz_iload_n 3 3 C dX10_parts_246 rfl rfl ?_
              refine tz_iast_c _ C dX10_parts_247 (by decide) rfl hin_133 rfl h (fun σ_134 h => ?_)
              refine tz_iinc 2 [(0, .ref _), (1, .int x1_118), (3, .int x3_128), (4, .int x4_129), (5, .int x5_130)] 1 C dX10_parts_248 (by decide) rfl (Nat.le_of_ble_eq_true rfl) rfl h (fun x2_135 h => ?_)
              refine tz_goto 94 C dX10_parts_251 (by decide) ?_
              exact tz_sub (ihag_120 _ _ h) [1, 2, 0] rfl
            · refine tz_iload_n 1 1 C dX10_parts_128 rfl rfl ?_
              refine tz_if_le 223 C dX10_parts_129 (by decide) h (fun c_136 h => ?_) (fun c_136 h => ?_)
              · refine tz_aload_n 0 0 C dX10_parts_223 rfl rfl ?_
                refine tz_getR C dX10_parts_224 fl_RX10_55 (by decide) rfl rfl ?_
                refine tz_bipush 13 (by decide) C dX10_parts_227 ?_
                refine tz_iload_n 1 1 C dX10_parts_229 rfl rfl ?_
                refine tz_imul C dX10_parts_230 ?_
                refine tz_iload_n 2 2 C dX10_parts_231 rfl rfl ?_
                refine tz_iadd C dX10_parts_232 ?_
                refine tz_iload 4 C dX10_parts_233 rfl ?_
                have hin_138 := h.1
                refine tz_iast C dX10_parts_235 (by decide) rfl h (fun σ_137 h => ?_)
                refine tz_aload_n 0 0 C dX10_parts_236 rfl rfl ?_
                refine tz_getR C dX10_parts_237 fl_RX10_58 (by decide) rfl rfl ?_
                refine tz_bipush 13 (by decide) C dX10_parts_240 ?_
                refine tz_iload_n 1 1 C dX10_parts_242 rfl rfl ?_
                refine tz_imul C dX10_parts_243 ?_
                refine tz_iload_n 2 2 C dX10_parts_244 rfl rfl ?_
                refine tz_iadd C dX10_parts_245 ?_
                refine tz_iload_n 3 3 C dX10_parts_246 rfl rfl ?_
                refine tz_iast_c _ C dX10_parts_247 (by decide) rfl hin_138 rfl h (fun σ_139 h => ?_)
                refine tz_iinc 2 [(0, .ref _), (1, .int x1_118), (3, .int x3_128), (4, .int x4_129), (5, .int x5_130)] 1 C dX10_parts_248 (by decide) rfl (Nat.le_of_ble_eq_true rfl) rfl h (fun x2_140 h => ?_)
                refine tz_goto 94 C dX10_parts_251 (by decide) ?_
                exact tz_sub (ihag_120 _ _ h) [1, 2, 0] rfl
              · refine tz_aload_n 0 0 C dX10_parts_132 rfl rfl ?_
                refine tz_getR C dX10_parts_133 fl_RX10_55 (by decide) rfl rfl ?_
                refine tz_bipush 13 (by decide) C dX10_parts_136 ?_
                refine tz_iload_n 1 1 C dX10_parts_138 rfl rfl ?_
                refine tz_iconst 1 (by decide) C dX10_parts_139 ?_
                refine tz_isub C dX10_parts_140 ?_
                refine tz_imul C dX10_parts_141 ?_
                refine tz_iload 5 C dX10_parts_142 rfl ?_
                refine tz_iadd C dX10_parts_144 ?_
                obtain ⟨hin_141, h⟩ := h
                refine tz_iald C dX10_parts_145 (by decide) rfl hin_141 ?_
                refine tz_istore [(0, .ref _), (1, .int x1_118), (2, .int x2_122), (3, .int x3_128), (4, .int x4_129), (5, .int x5_130)] C dX10_parts_146 (Nat.le_of_ble_eq_true rfl) rfl h (fun x6_142 h => ?_)
                refine tz_iload 0 C dX10_parts_148 rfl ?_
                refine tz_aload_n 0 1 C dX10_parts_150 rfl rfl ?_
                refine tz_getR C dX10_parts_151 fl_RX10_52 (by decide) rfl rfl ?_
                refine tz_bipush 13 (by decide) C dX10_parts_154 ?_
                refine tz_iload 6 C dX10_parts_156 rfl ?_
                refine tz_imul C dX10_parts_158 ?_
                refine tz_iload_n 2 3 C dX10_parts_159 rfl rfl ?_
                refine tz_iadd C dX10_parts_160 ?_
                obtain ⟨hin_143, h⟩ := h
                refine tz_iald C dX10_parts_161 (by decide) rfl hin_143 ?_
                refine tz_iadd C dX10_parts_162 ?_
                refine tz_istore [(6, .int x6_142), (0, .ref _), (1, .int x1_118), (2, .int x2_122), (3, .int x3_128), (4, .int x4_129), (5, .int x5_130)] C dX10_parts_163 (Nat.le_of_ble_eq_true rfl) rfl h (fun x7_144 h => ?_)
                refine tz_iload 1 C dX10_parts_165 rfl ?_
                refine tz_iconst (-1) (by decide) C dX10_parts_167 ?_
                refine tz_icmp_eq 188 C dX10_parts_168 (by decide) h (fun c_145 h => ?_) (fun c_145 h => ?_)
                · refine tz_iconst 0 (by decide) C dX10_parts_188 ?_
                  refine tz_istore_k [(7, .int x7_144), (6, .int x6_142), (0, .ref _), (1, .int x1_118), (2, .int x2_122), (3, .int x3_128), (4, .int x4_129), (5, .int x5_130)] C dX10_parts_189 (Nat.le_of_ble_eq_true rfl) rfl ?_
                  refine tz_iload 0 C dX10_parts_191 rfl ?_
                  refine tz_if_eq_t 201 C dX10_parts_193 (by decide) (by decide) ?_
                  refine tz_iload_n 3 6 C dX10_parts_201 rfl rfl ?_
                  refine tz_istore_n_k 3 [(8, .int 0), (7, .int x7_144), (6, .int x6_142), (0, .ref _), (1, .int x1_118), (2, .int x2_122), (4, .int x4_129), (5, .int x5_130)] C dX10_parts_202 rfl (Nat.le_of_ble_eq_true rfl) rfl ?_
                  refine tz_iload 1 C dX10_parts_203 rfl ?_
                  refine tz_if_eq_t 213 C dX10_parts_205 (by decide) (by decide) ?_
                  refine tz_iload 7 C dX10_parts_213 rfl ?_
                  refine tz_istore_k [(3, .int x3_128), (8, .int 0), (7, .int x7_144), (6, .int x6_142), (0, .ref _), (1, .int x1_118), (2, .int x2_122), (5, .int x5_130)] C dX10_parts_215 (Nat.le_of_ble_eq_true rfl) rfl ?_
                  refine tz_iinc 8 [(4, .int x4_129), (3, .int x3_128), (8, .int 0), (7, .int x7_144), (6, .int x6_142), (0, .ref _), (1, .int x1_118), (2, .int x2_122)] 1 C dX10_parts_217 (by decide) rfl (Nat.le_of_ble_eq_true rfl) rfl h (fun x5_146 h => ?_)
                  refine tz_goto 122 C dX10_parts_220 (by decide) ?_
                  exact tz_sub (ihag_126 _ _ _ _ h) [6, 7, 8, 2, 1, 0] rfl
                · refine tz_iload 6 C dX10_parts_171 rfl ?_
                  refine tz_iconst (-1) (by decide) C dX10_parts_173 ?_
                  refine tz_icmp_eq 184 C dX10_parts_174 (by decide) h (fun c_147 h => ?_) (fun c_147 h => ?_)
                  · refine tz_iconst 1 (by decide) C dX10_parts_184 ?_
                    refine tz_goto 189 C dX10_parts_185 (by decide) ?_
                    refine tz_istore_k [(7, .int x7_144), (6, .int x6_142), (0, .ref _), (1, .int x1_118), (2, .int x2_122), (3, .int x3_128), (4, .int x4_129), (5, .int x5_130)] C dX10_parts_189 (Nat.le_of_ble_eq_true rfl) rfl ?_
                    refine tz_iload 0 C dX10_parts_191 rfl ?_
                    refine tz_if_eq_f 201 C dX10_parts_193 (by decide) (by decide) ?_
                    refine tz_iload 8 C dX10_parts_196 rfl ?_
                    refine tz_goto 202 C dX10_parts_198 (by decide) ?_
                    refine tz_istore_n_k 3 [(8, .int 1), (7, .int x7_144), (6, .int x6_142), (0, .ref _), (1, .int x1_118), (2, .int x2_122), (4, .int x4_129), (5, .int x5_130)] C dX10_parts_202 rfl (Nat.le_of_ble_eq_true rfl) rfl ?_
                    refine tz_iload 1 C dX10_parts_203 rfl ?_
                    refine tz_if_eq_f 213 C dX10_parts_205 (by decide) (by decide) ?_
                    refine tz_iload 2 C dX10_parts_208 rfl ?_
                    refine tz_goto 215 C dX10_parts_210 (by decide) ?_
                    refine tz_istore_k [(3, .int x5_130), (8, .int 1), (7, .int x7_144), (6, .int x6_142), (0, .ref _), (1, .int x1_118), (2, .int x2_122), (5, .int x5_130)] C dX10_parts_215 (Nat.le_of_ble_eq_true rfl) rfl ?_
                    refine tz_iinc 8 [(4, .int x7_144), (3, .int x5_130), (8, .int 1), (7, .int x7_144), (6, .int x6_142), (0, .ref _), (1, .int x1_118), (2, .int x2_122)] 1 C dX10_parts_217 (by decide) rfl (Nat.le_of_ble_eq_true rfl) rfl h (fun x5_148 h => ?_)
                    refine tz_goto 122 C dX10_parts_220 (by decide) ?_
                    exact tz_sub (ihag_126 _ _ _ _ h) [6, 7, 8, 2, 1, 0] rfl
                  · refine tz_iload 0 C dX10_parts_177 rfl ?_
                    refine tz_iload 6 C dX10_parts_179 rfl ?_
                    refine tz_icmp_ge 188 C dX10_parts_181 (by decide) h (fun c_149 h => ?_) (fun c_149 h => ?_)
                    · refine tz_iconst 0 (by decide) C dX10_parts_188 ?_
                      refine tz_istore_k [(7, .int x7_144), (6, .int x6_142), (0, .ref _), (1, .int x1_118), (2, .int x2_122), (3, .int x3_128), (4, .int x4_129), (5, .int x5_130)] C dX10_parts_189 (Nat.le_of_ble_eq_true rfl) rfl ?_
                      refine tz_iload 0 C dX10_parts_191 rfl ?_
                      refine tz_if_eq_t 201 C dX10_parts_193 (by decide) (by decide) ?_
                      refine tz_iload_n 3 6 C dX10_parts_201 rfl rfl ?_
                      refine tz_istore_n_k 3 [(8, .int 0), (7, .int x7_144), (6, .int x6_142), (0, .ref _), (1, .int x1_118), (2, .int x2_122), (4, .int x4_129), (5, .int x5_130)] C dX10_parts_202 rfl (Nat.le_of_ble_eq_true rfl) rfl ?_
                      refine tz_iload 1 C dX10_parts_203 rfl ?_
                      refine tz_if_eq_t 213 C dX10_parts_205 (by decide) (by decide) ?_
                      refine tz_iload 7 C dX10_parts_213 rfl ?_
                      refine tz_istore_k [(3, .int x3_128), (8, .int 0), (7, .int x7_144), (6, .int x6_142), (0, .ref _), (1, .int x1_118), (2, .int x2_122), (5, .int x5_130)] C dX10_parts_215 (Nat.le_of_ble_eq_true rfl) rfl ?_
                      refine tz_iinc 8 [(4, .int x4_129), (3, .int x3_128), (8, .int 0), (7, .int x7_144), (6, .int x6_142), (0, .ref _), (1, .int x1_118), (2, .int x2_122)] 1 C dX10_parts_217 (by decide) rfl (Nat.le_of_ble_eq_true rfl) rfl h (fun x5_150 h => ?_)
                      refine tz_goto 122 C dX10_parts_220 (by decide) ?_
                      exact tz_sub (ihag_126 _ _ _ _ h) [6, 7, 8, 2, 1, 0] rfl
                    · refine tz_iconst 1 (by decide) C dX10_parts_184 ?_
                      refine tz_goto 189 C dX10_parts_185 (by decide) ?_
                      refine tz_istore_k [(7, .int x7_144), (6, .int x6_142), (0, .ref _), (1, .int x1_118), (2, .int x2_122), (3, .int x3_128), (4, .int x4_129), (5, .int x5_130)] C dX10_parts_189 (Nat.le_of_ble_eq_true rfl) rfl ?_
                      refine tz_iload 0 C dX10_parts_191 rfl ?_
                      refine tz_if_eq_f 201 C dX10_parts_193 (by decide) (by decide) ?_
                      refine tz_iload 8 C dX10_parts_196 rfl ?_
                      refine tz_goto 202 C dX10_parts_198 (by decide) ?_
                      refine tz_istore_n_k 3 [(8, .int 1), (7, .int x7_144), (6, .int x6_142), (0, .ref _), (1, .int x1_118), (2, .int x2_122), (4, .int x4_129), (5, .int x5_130)] C dX10_parts_202 rfl (Nat.le_of_ble_eq_true rfl) rfl ?_
                      refine tz_iload 1 C dX10_parts_203 rfl ?_
                      refine tz_if_eq_f 213 C dX10_parts_205 (by decide) (by decide) ?_
                      refine tz_iload 2 C dX10_parts_208 rfl ?_
                      refine tz_goto 215 C dX10_parts_210 (by decide) ?_
                      refine tz_istore_k [(3, .int x5_130), (8, .int 1), (7, .int x7_144), (6, .int x6_142), (0, .ref _), (1, .int x1_118), (2, .int x2_122), (5, .int x5_130)] C dX10_parts_215 (Nat.le_of_ble_eq_true rfl) rfl ?_
                      refine tz_iinc 8 [(4, .int x7_144), (3, .int x5_130), (8, .int 1), (7, .int x7_144), (6, .int x6_142), (0, .ref _), (1, .int x1_118), (2, .int x2_122)] 1 C dX10_parts_217 (by decide) rfl (Nat.le_of_ble_eq_true rfl) rfl h (fun x5_151 h => ?_)
                      refine tz_goto 122 C dX10_parts_220 (by decide) ?_
                      exact tz_sub (ihag_126 _ _ _ _ h) [6, 7, 8, 2, 1, 0] rfl
          · refine tz_iload_n 2 3 C dX10_parts_108 rfl rfl ?_
            refine tz_if_ne 116 C dX10_parts_109 (by decide) h (fun c_152 h => ?_) (fun c_152 h => ?_)
            · refine tz_iconst (-1) (by decide) C dX10_parts_116 ?_
              refine tz_istore_k [(3, .int (-1)), (0, .ref _), (1, .int x1_118), (2, .int x2_122)] C dX10_parts_117 (Nat.le_of_ble_eq_true rfl) rfl ?_
              refine tz_iconst 0 (by decide) C dX10_parts_119 ?_
              refine tz_istore_k [(4, .int (-1)), (3, .int (-1)), (0, .ref _), (1, .int x1_118), (2, .int x2_122)] C dX10_parts_120 (Nat.le_of_ble_eq_true rfl) rfl ?_
              refine tz_sub (L := [(0, .ref _), (1, .int x1_118), (2, .int x2_122), (3, .int (-1)), (4, .int (-1)), (5, .int 0)]) ?_ [3, 4, 5, 2, 1, 0] rfl
              refine tz_loop3_w (V := fun (x3_155 : Int32) (x4_156 : Int32) (x5_157 : Int32) (σ_154 : tzS) => tz_V G E 122 [(0, .ref _), (1, .int x1_118), (2, .int x2_122), (3, .int x3_155), (4, .int x4_156), (5, .int x5_157)] [] σ_154) h (fun ag_153 ihag_153 x3_155 x4_156 x5_157 σ_154 h => ?_)
              refine tz_iload 5 C dX10_parts_122 rfl ?_
              refine tz_iload_n 2 2 C dX10_parts_124 rfl rfl ?_
              refine tz_icmp_ge 223 C dX10_parts_125 (by decide) h (fun c_158 h => ?_) (fun c_158 h => ?_)
              · refine tz_aload_n 0 0 C dX10_parts_223 rfl rfl ?_
                refine tz_getR C dX10_parts_224 fl_RX10_55 (by decide) rfl rfl ?_
                refine tz_bipush 13 (by decide) C dX10_parts_227 ?_
                refine tz_iload_n 1 1 C dX10_parts_229 rfl rfl ?_
                refine tz_imul C dX10_parts_230 ?_
                refine tz_iload_n 2 2 C dX10_parts_231 rfl rfl ?_
                refine tz_iadd C dX10_parts_232 ?_
                refine tz_iload 4 C dX10_parts_233 rfl ?_
                have hin_160 := h.1
                refine tz_iast C dX10_parts_235 (by decide) rfl h (fun σ_159 h => ?_)
                refine tz_aload_n 0 0 C dX10_parts_236 rfl rfl ?_
                refine tz_getR C dX10_parts_237 fl_RX10_58 (by decide) rfl rfl ?_
                refine tz_bipush 13 (by decide) C dX10_parts_240 ?_
                refine tz_iload_n 1 1 C dX10_parts_242 rfl rfl ?_
                refine tz_imul C dX10_parts_243 ?_
                refine tz_iload_n 2 2 C dX10_parts_244 rfl rfl ?_
                refine tz_iadd C dX10_parts_245 ?_
                refine tz_iload_n 3 3 C dX10_parts_246 rfl rfl ?_
                refine tz_iast_c _ C dX10_parts_247 (by decide) rfl hin_160 rfl h (fun σ_161 h => ?_)
                refine tz_iinc 2 [(0, .ref _), (1, .int x1_118), (3, .int x3_155), (4, .int x4_156), (5, .int x5_157)] 1 C dX10_parts_248 (by decide) rfl (Nat.le_of_ble_eq_true rfl) rfl h (fun x2_162 h => ?_)
                refine tz_goto 94 C dX10_parts_251 (by decide) ?_
                exact tz_sub (ihag_120 _ _ h) [1, 2, 0] rfl
              · refine tz_iload_n 1 1 C dX10_parts_128 rfl rfl ?_
                refine tz_if_le 223 C dX10_parts_129 (by decide) h (fun c_163 h => ?_) (fun c_163 h => ?_)
                · refine tz_aload_n 0 0 C dX10_parts_223 rfl rfl ?_
                  refine tz_getR C dX10_parts_224 fl_RX10_55 (by decide) rfl rfl ?_
                  refine tz_bipush 13 (by decide) C dX10_parts_227 ?_
                  refine tz_iload_n 1 1 C dX10_parts_229 rfl rfl ?_
                  refine tz_imul C dX10_parts_230 ?_
                  refine tz_iload_n 2 2 C dX10_parts_231 rfl rfl ?_
                  refine tz_iadd C dX10_parts_232 ?_
                  refine tz_iload 4 C dX10_parts_233 rfl ?_
                  have hin_165 := h.1
                  refine tz_iast C dX10_parts_235 (by decide) rfl h (fun σ_164 h => ?_)
                  refine tz_aload_n 0 0 C dX10_parts_236 rfl rfl ?_
                  refine tz_getR C dX10_parts_237 fl_RX10_58 (by decide) rfl rfl ?_
                  refine tz_bipush 13 (by decide) C dX10_parts_240 ?_
                  refine tz_iload_n 1 1 C dX10_parts_242 rfl rfl ?_
                  refine tz_imul C dX10_parts_243 ?_
                  refine tz_iload_n 2 2 C dX10_parts_244 rfl rfl ?_
                  refine tz_iadd C dX10_parts_245 ?_
                  refine tz_iload_n 3 3 C dX10_parts_246 rfl rfl ?_
                  refine tz_iast_c _ C dX10_parts_247 (by decide) rfl hin_165 rfl h (fun σ_166 h => ?_)
                  refine tz_iinc 2 [(0, .ref _), (1, .int x1_118), (3, .int x3_155), (4, .int x4_156), (5, .int x5_157)] 1 C dX10_parts_248 (by decide) rfl (Nat.le_of_ble_eq_true rfl) rfl h (fun x2_167 h => ?_)
                  refine tz_goto 94 C dX10_parts_251 (by decide) ?_
                  exact tz_sub (ihag_120 _ _ h) [1, 2, 0] rfl
                · refine tz_aload_n 0 0 C dX10_parts_132 rfl rfl ?_
                  refine tz_getR C dX10_parts_133 fl_RX10_55 (by decide) rfl rfl ?_
                  refine tz_bipush 13 (by decide) C dX10_parts_136 ?_
                  refine tz_iload_n 1 1 C dX10_parts_138 rfl rfl ?_
                  refine tz_iconst 1 (by decide) C dX10_parts_139 ?_
                  refine tz_isub C dX10_parts_140 ?_
                  refine tz_imul C dX10_parts_141 ?_
                  refine tz_iload 5 C dX10_parts_142 rfl ?_
                  refine tz_iadd C dX10_parts_144 ?_
                  obtain ⟨hin_168, h⟩ := h
                  refine tz_iald C dX10_parts_145 (by decide) rfl hin_168 ?_
                  refine tz_istore [(0, .ref _), (1, .int x1_118), (2, .int x2_122), (3, .int x3_155), (4, .int x4_156), (5, .int x5_157)] C dX10_parts_146 (Nat.le_of_ble_eq_true rfl) rfl h (fun x6_169 h => ?_)
                  refine tz_iload 0 C dX10_parts_148 rfl ?_
                  refine tz_aload_n 0 1 C dX10_parts_150 rfl rfl ?_
                  refine tz_getR C dX10_parts_151 fl_RX10_52 (by decide) rfl rfl ?_
                  refine tz_bipush 13 (by decide) C dX10_parts_154 ?_
                  refine tz_iload 6 C dX10_parts_156 rfl ?_
                  refine tz_imul C dX10_parts_158 ?_
                  refine tz_iload_n 2 3 C dX10_parts_159 rfl rfl ?_
                  refine tz_iadd C dX10_parts_160 ?_
                  obtain ⟨hin_170, h⟩ := h
                  refine tz_iald C dX10_parts_161 (by decide) rfl hin_170 ?_
                  refine tz_iadd C dX10_parts_162 ?_
                  refine tz_istore [(6, .int x6_169), (0, .ref _), (1, .int x1_118), (2, .int x2_122), (3, .int x3_155), (4, .int x4_156), (5, .int x5_157)] C dX10_parts_163 (Nat.le_of_ble_eq_true rfl) rfl h (fun x7_171 h => ?_)
                  refine tz_iload 1 C dX10_parts_165 rfl ?_
                  refine tz_iconst (-1) (by decide) C dX10_parts_167 ?_
                  refine tz_icmp_eq 188 C dX10_parts_168 (by decide) h (fun c_172 h => ?_) (fun c_172 h => ?_)
                  · refine tz_iconst 0 (by decide) C dX10_parts_188 ?_
                    refine tz_istore_k [(7, .int x7_171), (6, .int x6_169), (0, .ref _), (1, .int x1_118), (2, .int x2_122), (3, .int x3_155), (4, .int x4_156), (5, .int x5_157)] C dX10_parts_189 (Nat.le_of_ble_eq_true rfl) rfl ?_
                    refine tz_iload 0 C dX10_parts_191 rfl ?_
                    refine tz_if_eq_t 201 C dX10_parts_193 (by decide) (by decide) ?_
                    refine tz_iload_n 3 6 C dX10_parts_201 rfl rfl ?_
                    refine tz_istore_n_k 3 [(8, .int 0), (7, .int x7_171), (6, .int x6_169), (0, .ref _), (1, .int x1_118), (2, .int x2_122), (4, .int x4_156), (5, .int x5_157)] C dX10_parts_202 rfl (Nat.le_of_ble_eq_true rfl) rfl ?_
                    refine tz_iload 1 C dX10_parts_203 rfl ?_
                    refine tz_if_eq_t 213 C dX10_parts_205 (by decide) (by decide) ?_
                    refine tz_iload 7 C dX10_parts_213 rfl ?_
                    refine tz_istore_k [(3, .int x3_155), (8, .int 0), (7, .int x7_171), (6, .int x6_169), (0, .ref _), (1, .int x1_118), (2, .int x2_122), (5, .int x5_157)] C dX10_parts_215 (Nat.le_of_ble_eq_true rfl) rfl ?_
                    refine tz_iinc 8 [(4, .int x4_156), (3, .int x3_155), (8, .int 0), (7, .int x7_171), (6, .int x6_169), (0, .ref _), (1, .int x1_118), (2, .int x2_122)] 1 C dX10_parts_217 (by decide) rfl (Nat.le_of_ble_eq_true rfl) rfl h (fun x5_173 h => ?_)
                    refine tz_goto 122 C dX10_parts_220 (by decide) ?_
                    exact tz_sub (ihag_153 _ _ _ _ h) [6, 7, 8, 2, 1, 0] rfl
                  · refine tz_iload 6 C dX10_parts_171 rfl ?_
                    refine tz_iconst (-1) (by decide) C dX10_parts_173 ?_
                    refine tz_icmp_eq 184 C dX10_parts_174 (by decide) h (fun c_174 h => ?_) (fun c_174 h => ?_)
                    · refine tz_iconst 1 (by decide) C dX10_parts_184 ?_
                      refine tz_goto 189 C dX10_parts_185 (by decide) ?_
                      refine tz_istore_k [(7, .int x7_171), (6, .int x6_169), (0, .ref _), (1, .int x1_118), (2, .int x2_122), (3, .int x3_155), (4, .int x4_156), (5, .int x5_157)] C dX10_parts_189 (Nat.le_of_ble_eq_true rfl) rfl ?_
                      refine tz_iload 0 C dX10_parts_191 rfl ?_
                      refine tz_if_eq_f 201 C dX10_parts_193 (by decide) (by decide) ?_
                      refine tz_iload 8 C dX10_parts_196 rfl ?_
                      refine tz_goto 202 C dX10_parts_198 (by decide) ?_
                      refine tz_istore_n_k 3 [(8, .int 1), (7, .int x7_171), (6, .int x6_169), (0, .ref _), (1, .int x1_118), (2, .int x2_122), (4, .int x4_156), (5, .int x5_157)] C dX10_parts_202 rfl (Nat.le_of_ble_eq_true rfl) rfl ?_
                      refine tz_iload 1 C dX10_parts_203 rfl ?_
                      refine tz_if_eq_f 213 C dX10_parts_205 (by decide) (by decide) ?_
                      refine tz_iload 2 C dX10_parts_208 rfl ?_
                      refine tz_goto 215 C dX10_parts_210 (by decide) ?_
                      refine tz_istore_k [(3, .int x5_157), (8, .int 1), (7, .int x7_171), (6, .int x6_169), (0, .ref _), (1, .int x1_118), (2, .int x2_122), (5, .int x5_157)] C dX10_parts_215 (Nat.le_of_ble_eq_true rfl) rfl ?_
                      refine tz_iinc 8 [(4, .int x7_171), (3, .int x5_157), (8, .int 1), (7, .int x7_171), (6, .int x6_169), (0, .ref _), (1, .int x1_118), (2, .int x2_122)] 1 C dX10_parts_217 (by decide) rfl (Nat.le_of_ble_eq_true rfl) rfl h (fun x5_175 h => ?_)
                      refine tz_goto 122 C dX10_parts_220 (by decide) ?_
                      exact tz_sub (ihag_153 _ _ _ _ h) [6, 7, 8, 2, 1, 0] rfl
                    · refine tz_iload 0 C dX10_parts_177 rfl ?_
                      refine tz_iload 6 C dX10_parts_179 rfl ?_
                      refine tz_icmp_ge 188 C dX10_parts_181 (by decide) h (fun c_176 h => ?_) (fun c_176 h => ?_)
                      · refine tz_iconst 0 (by decide) C dX10_parts_188 ?_
                        refine tz_istore_k [(7, .int x7_171), (6, .int x6_169), (0, .ref _), (1, .int x1_118), (2, .int x2_122), (3, .int x3_155), (4, .int x4_156), (5, .int x5_157)] C dX10_parts_189 (Nat.le_of_ble_eq_true rfl) rfl ?_
                        refine tz_iload 0 C dX10_parts_191 rfl ?_
                        refine tz_if_eq_t 201 C dX10_parts_193 (by decide) (by decide) ?_
                        refine tz_iload_n 3 6 C dX10_parts_201 rfl rfl ?_
                        refine tz_istore_n_k 3 [(8, .int 0), (7, .int x7_171), (6, .int x6_169), (0, .ref _), (1, .int x1_118), (2, .int x2_122), (4, .int x4_156), (5, .int x5_157)] C dX10_parts_202 rfl (Nat.le_of_ble_eq_true rfl) rfl ?_
                        refine tz_iload 1 C dX10_parts_203 rfl ?_
                        refine tz_if_eq_t 213 C dX10_parts_205 (by decide) (by decide) ?_
                        refine tz_iload 7 C dX10_parts_213 rfl ?_
                        refine tz_istore_k [(3, .int x3_155), (8, .int 0), (7, .int x7_171), (6, .int x6_169), (0, .ref _), (1, .int x1_118), (2, .int x2_122), (5, .int x5_157)] C dX10_parts_215 (Nat.le_of_ble_eq_true rfl) rfl ?_
                        refine tz_iinc 8 [(4, .int x4_156), (3, .int x3_155), (8, .int 0), (7, .int x7_171), (6, .int x6_169), (0, .ref _), (1, .int x1_118), (2, .int x2_122)] 1 C dX10_parts_217 (by decide) rfl (Nat.le_of_ble_eq_true rfl) rfl h (fun x5_177 h => ?_)
                        refine tz_goto 122 C dX10_parts_220 (by decide) ?_
                        exact tz_sub (ihag_153 _ _ _ _ h) [6, 7, 8, 2, 1, 0] rfl
                      · refine tz_iconst 1 (by decide) C dX10_parts_184 ?_
                        refine tz_goto 189 C dX10_parts_185 (by decide) ?_
                        refine tz_istore_k [(7, .int x7_171), (6, .int x6_169), (0, .ref _), (1, .int x1_118), (2, .int x2_122), (3, .int x3_155), (4, .int x4_156), (5, .int x5_157)] C dX10_parts_189 (Nat.le_of_ble_eq_true rfl) rfl ?_
                        refine tz_iload 0 C dX10_parts_191 rfl ?_
                        refine tz_if_eq_f 201 C dX10_parts_193 (by decide) (by decide) ?_
                        refine tz_iload 8 C dX10_parts_196 rfl ?_
                        refine tz_goto 202 C dX10_parts_198 (by decide) ?_
                        refine tz_istore_n_k 3 [(8, .int 1), (7, .int x7_171), (6, .int x6_169), (0, .ref _), (1, .int x1_118), (2, .int x2_122), (4, .int x4_156), (5, .int x5_157)] C dX10_parts_202 rfl (Nat.le_of_ble_eq_true rfl) rfl ?_
                        refine tz_iload 1 C dX10_parts_203 rfl ?_
                        refine tz_if_eq_f 213 C dX10_parts_205 (by decide) (by decide) ?_
                        refine tz_iload 2 C dX10_parts_208 rfl ?_
                        refine tz_goto 215 C dX10_parts_210 (by decide) ?_
                        refine tz_istore_k [(3, .int x5_157), (8, .int 1), (7, .int x7_171), (6, .int x6_169), (0, .ref _), (1, .int x1_118), (2, .int x2_122), (5, .int x5_157)] C dX10_parts_215 (Nat.le_of_ble_eq_true rfl) rfl ?_
                        refine tz_iinc 8 [(4, .int x7_171), (3, .int x5_157), (8, .int 1), (7, .int x7_171), (6, .int x6_169), (0, .ref _), (1, .int x1_118), (2, .int x2_122)] 1 C dX10_parts_217 (by decide) rfl (Nat.le_of_ble_eq_true rfl) rfl h (fun x5_178 h => ?_)
                        refine tz_goto 122 C dX10_parts_220 (by decide) ?_
                        exact tz_sub (ihag_153 _ _ _ _ h) [6, 7, 8, 2, 1, 0] rfl
            · refine tz_iconst 0 (by decide) C dX10_parts_112 ?_
              refine tz_goto 117 C dX10_parts_113 (by decide) ?_
              refine tz_istore_k [(3, .int (-1)), (0, .ref _), (1, .int x1_118), (2, .int x2_122)] C dX10_parts_117 (Nat.le_of_ble_eq_true rfl) rfl ?_
              refine tz_iconst 0 (by decide) C dX10_parts_119 ?_
              refine tz_istore_k [(4, .int 0), (3, .int (-1)), (0, .ref _), (1, .int x1_118), (2, .int x2_122)] C dX10_parts_120 (Nat.le_of_ble_eq_true rfl) rfl ?_
              refine tz_sub (L := [(0, .ref _), (1, .int x1_118), (2, .int x2_122), (3, .int (-1)), (4, .int 0), (5, .int 0)]) ?_ [3, 4, 5, 2, 1, 0] rfl
              refine tz_loop3_w (V := fun (x3_181 : Int32) (x4_182 : Int32) (x5_183 : Int32) (σ_180 : tzS) => tz_V G E 122 [(0, .ref _), (1, .int x1_118), (2, .int x2_122), (3, .int x3_181), (4, .int x4_182), (5, .int x5_183)] [] σ_180) h (fun ag_179 ihag_179 x3_181 x4_182 x5_183 σ_180 h => ?_)
              refine tz_iload 5 C dX10_parts_122 rfl ?_
              refine tz_iload_n 2 2 C dX10_parts_124 rfl rfl ?_
              refine tz_icmp_ge 223 C dX10_parts_125 (by decide) h (fun c_184 h => ?_) (fun c_184 h => ?_)
              · refine tz_aload_n 0 0 C dX10_parts_223 rfl rfl ?_
                refine tz_getR C dX10_parts_224 fl_RX10_55 (by decide) rfl rfl ?_
                refine tz_bipush 13 (by decide) C dX10_parts_227 ?_
                refine tz_iload_n 1 1 C dX10_parts_229 rfl rfl ?_
                refine tz_imul C dX10_parts_230 ?_
                refine tz_iload_n 2 2 C dX10_parts_231 rfl rfl ?_
                refine tz_iadd C dX10_parts_232 ?_
                refine tz_iload 4 C dX10_parts_233 rfl ?_
                have hin_186 := h.1
                refine tz_iast C dX10_parts_235 (by decide) rfl h (fun σ_185 h => ?_)
                refine tz_aload_n 0 0 C dX10_parts_236 rfl rfl ?_
                refine tz_getR C dX10_parts_237 fl_RX10_58 (by decide) rfl rfl ?_
                refine tz_bipush 13 (by decide) C dX10_parts_240 ?_
                refine tz_iload_n 1 1 C dX10_parts_242 rfl rfl ?_
                refine tz_imul C dX10_parts_243 ?_
                refine tz_iload_n 2 2 C dX10_parts_244 rfl rfl ?_
                refine tz_iadd C dX10_parts_245 ?_
                refine tz_iload_n 3 3 C dX10_parts_246 rfl rfl ?_
                refine tz_iast_c _ C dX10_parts_247 (by decide) rfl hin_186 rfl h (fun σ_187 h => ?_)
                refine tz_iinc 2 [(0, .ref _), (1, .int x1_118), (3, .int x3_181), (4, .int x4_182), (5, .int x5_183)] 1 C dX10_parts_248 (by decide) rfl (Nat.le_of_ble_eq_true rfl) rfl h (fun x2_188 h => ?_)
                refine tz_goto 94 C dX10_parts_251 (by decide) ?_
                exact tz_sub (ihag_120 _ _ h) [1, 2, 0] rfl
              · refine tz_iload_n 1 1 C dX10_parts_128 rfl rfl ?_
                refine tz_if_le 223 C dX10_parts_129 (by decide) h (fun c_189 h => ?_) (fun c_189 h => ?_)
                · refine tz_aload_n 0 0 C dX10_parts_223 rfl rfl ?_
                  refine tz_getR C dX10_parts_224 fl_RX10_55 (by decide) rfl rfl ?_
                  refine tz_bipush 13 (by decide) C dX10_parts_227 ?_
                  refine tz_iload_n 1 1 C dX10_parts_229 rfl rfl ?_
                  refine tz_imul C dX10_parts_230 ?_
                  refine tz_iload_n 2 2 C dX10_parts_231 rfl rfl ?_
                  refine tz_iadd C dX10_parts_232 ?_
                  refine tz_iload 4 C dX10_parts_233 rfl ?_
                  have hin_191 := h.1
                  refine tz_iast C dX10_parts_235 (by decide) rfl h (fun σ_190 h => ?_)
                  refine tz_aload_n 0 0 C dX10_parts_236 rfl rfl ?_
                  refine tz_getR C dX10_parts_237 fl_RX10_58 (by decide) rfl rfl ?_
                  refine tz_bipush 13 (by decide) C dX10_parts_240 ?_
                  refine tz_iload_n 1 1 C dX10_parts_242 rfl rfl ?_
                  refine tz_imul C dX10_parts_243 ?_
                  refine tz_iload_n 2 2 C dX10_parts_244 rfl rfl ?_
                  refine tz_iadd C dX10_parts_245 ?_
                  refine tz_iload_n 3 3 C dX10_parts_246 rfl rfl ?_
                  refine tz_iast_c _ C dX10_parts_247 (by decide) rfl hin_191 rfl h (fun σ_192 h => ?_)
                  refine tz_iinc 2 [(0, .ref _), (1, .int x1_118), (3, .int x3_181), (4, .int x4_182), (5, .int x5_183)] 1 C dX10_parts_248 (by decide) rfl (Nat.le_of_ble_eq_true rfl) rfl h (fun x2_193 h => ?_)
                  refine tz_goto 94 C dX10_parts_251 (by decide) ?_
                  exact tz_sub (ihag_120 _ _ h) [1, 2, 0] rfl
                · refine tz_aload_n 0 0 C dX10_parts_132 rfl rfl ?_
                  refine tz_getR C dX10_parts_133 fl_RX10_55 (by decide) rfl rfl ?_
                  refine tz_bipush 13 (by decide) C dX10_parts_136 ?_
                  refine tz_iload_n 1 1 C dX10_parts_138 rfl rfl ?_
                  refine tz_iconst 1 (by decide) C dX10_parts_139 ?_
                  refine tz_isub C dX10_parts_140 ?_
                  refine tz_imul C dX10_parts_141 ?_
                  refine tz_iload 5 C dX10_parts_142 rfl ?_
                  refine tz_iadd C dX10_parts_144 ?_
                  obtain ⟨hin_194, h⟩ := h
                  refine tz_iald C dX10_parts_145 (by decide) rfl hin_194 ?_
                  refine tz_istore [(0, .ref _), (1, .int x1_118), (2, .int x2_122), (3, .int x3_181), (4, .int x4_182), (5, .int x5_183)] C dX10_parts_146 (Nat.le_of_ble_eq_true rfl) rfl h (fun x6_195 h => ?_)
                  refine tz_iload 0 C dX10_parts_148 rfl ?_
                  refine tz_aload_n 0 1 C dX10_parts_150 rfl rfl ?_
                  refine tz_getR C dX10_parts_151 fl_RX10_52 (by decide) rfl rfl ?_
                  refine tz_bipush 13 (by decide) C dX10_parts_154 ?_
                  refine tz_iload 6 C dX10_parts_156 rfl ?_
                  refine tz_imul C dX10_parts_158 ?_
                  refine tz_iload_n 2 3 C dX10_parts_159 rfl rfl ?_
                  refine tz_iadd C dX10_parts_160 ?_
                  obtain ⟨hin_196, h⟩ := h
                  refine tz_iald C dX10_parts_161 (by decide) rfl hin_196 ?_
                  refine tz_iadd C dX10_parts_162 ?_
                  refine tz_istore [(6, .int x6_195), (0, .ref _), (1, .int x1_118), (2, .int x2_122), (3, .int x3_181), (4, .int x4_182), (5, .int x5_183)] C dX10_parts_163 (Nat.le_of_ble_eq_true rfl) rfl h (fun x7_197 h => ?_)
                  refine tz_iload 1 C dX10_parts_165 rfl ?_
                  refine tz_iconst (-1) (by decide) C dX10_parts_167 ?_
                  refine tz_icmp_eq 188 C dX10_parts_168 (by decide) h (fun c_198 h => ?_) (fun c_198 h => ?_)
                  · refine tz_iconst 0 (by decide) C dX10_parts_188 ?_
                    refine tz_istore_k [(7, .int x7_197), (6, .int x6_195), (0, .ref _), (1, .int x1_118), (2, .int x2_122), (3, .int x3_181), (4, .int x4_182), (5, .int x5_183)] C dX10_parts_189 (Nat.le_of_ble_eq_true rfl) rfl ?_
                    refine tz_iload 0 C dX10_parts_191 rfl ?_
                    refine tz_if_eq_t 201 C dX10_parts_193 (by decide) (by decide) ?_
                    refine tz_iload_n 3 6 C dX10_parts_201 rfl rfl ?_
                    refine tz_istore_n_k 3 [(8, .int 0), (7, .int x7_197), (6, .int x6_195), (0, .ref _), (1, .int x1_118), (2, .int x2_122), (4, .int x4_182), (5, .int x5_183)] C dX10_parts_202 rfl (Nat.le_of_ble_eq_true rfl) rfl ?_
                    refine tz_iload 1 C dX10_parts_203 rfl ?_
                    refine tz_if_eq_t 213 C dX10_parts_205 (by decide) (by decide) ?_
                    refine tz_iload 7 C dX10_parts_213 rfl ?_
                    refine tz_istore_k [(3, .int x3_181), (8, .int 0), (7, .int x7_197), (6, .int x6_195), (0, .ref _), (1, .int x1_118), (2, .int x2_122), (5, .int x5_183)] C dX10_parts_215 (Nat.le_of_ble_eq_true rfl) rfl ?_
                    refine tz_iinc 8 [(4, .int x4_182), (3, .int x3_181), (8, .int 0), (7, .int x7_197), (6, .int x6_195), (0, .ref _), (1, .int x1_118), (2, .int x2_122)] 1 C dX10_parts_217 (by decide) rfl (Nat.le_of_ble_eq_true rfl) rfl h (fun x5_199 h => ?_)
                    refine tz_goto 122 C dX10_parts_220 (by decide) ?_
                    exact tz_sub (ihag_179 _ _ _ _ h) [6, 7, 8, 2, 1, 0] rfl
                  · refine tz_iload 6 C dX10_parts_171 rfl ?_
                    refine tz_iconst (-1) (by decide) C dX10_parts_173 ?_
                    refine tz_icmp_eq 184 C dX10_parts_174 (by decide) h (fun c_200 h => ?_) (fun c_200 h => ?_)
                    · refine tz_iconst 1 (by decide) C dX10_parts_184 ?_
                      refine tz_goto 189 C dX10_parts_185 (by decide) ?_
                      refine tz_istore_k [(7, .int x7_197), (6, .int x6_195), (0, .ref _), (1, .int x1_118), (2, .int x2_122), (3, .int x3_181), (4, .int x4_182), (5, .int x5_183)] C dX10_parts_189 (Nat.le_of_ble_eq_true rfl) rfl ?_
                      refine tz_iload 0 C dX10_parts_191 rfl ?_
                      refine tz_if_eq_f 201 C dX10_parts_193 (by decide) (by decide) ?_
                      refine tz_iload 8 C dX10_parts_196 rfl ?_
                      refine tz_goto 202 C dX10_parts_198 (by decide) ?_
                      refine tz_istore_n_k 3 [(8, .int 1), (7, .int x7_197), (6, .int x6_195), (0, .ref _), (1, .int x1_118), (2, .int x2_122), (4, .int x4_182), (5, .int x5_183)] C dX10_parts_202 rfl (Nat.le_of_ble_eq_true rfl) rfl ?_
                      refine tz_iload 1 C dX10_parts_203 rfl ?_
                      refine tz_if_eq_f 213 C dX10_parts_205 (by decide) (by decide) ?_
                      refine tz_iload 2 C dX10_parts_208 rfl ?_
                      refine tz_goto 215 C dX10_parts_210 (by decide) ?_
                      refine tz_istore_k [(3, .int x5_183), (8, .int 1), (7, .int x7_197), (6, .int x6_195), (0, .ref _), (1, .int x1_118), (2, .int x2_122), (5, .int x5_183)] C dX10_parts_215 (Nat.le_of_ble_eq_true rfl) rfl ?_
                      refine tz_iinc 8 [(4, .int x7_197), (3, .int x5_183), (8, .int 1), (7, .int x7_197), (6, .int x6_195), (0, .ref _), (1, .int x1_118), (2, .int x2_122)] 1 C dX10_parts_217 (by decide) rfl (Nat.le_of_ble_eq_true rfl) rfl h (fun x5_201 h => ?_)
                      refine tz_goto 122 C dX10_parts_220 (by decide) ?_
                      exact tz_sub (ihag_179 _ _ _ _ h) [6, 7, 8, 2, 1, 0] rfl
                    · refine tz_iload 0 C dX10_parts_177 rfl ?_
                      refine tz_iload 6 C dX10_parts_179 rfl ?_
                      refine tz_icmp_ge 188 C dX10_parts_181 (by decide) h (fun c_202 h => ?_) (fun c_202 h => ?_)
                      · refine tz_iconst 0 (by decide) C dX10_parts_188 ?_
                        refine tz_istore_k [(7, .int x7_197), (6, .int x6_195), (0, .ref _), (1, .int x1_118), (2, .int x2_122), (3, .int x3_181), (4, .int x4_182), (5, .int x5_183)] C dX10_parts_189 (Nat.le_of_ble_eq_true rfl) rfl ?_
                        refine tz_iload 0 C dX10_parts_191 rfl ?_
                        refine tz_if_eq_t 201 C dX10_parts_193 (by decide) (by decide) ?_
                        refine tz_iload_n 3 6 C dX10_parts_201 rfl rfl ?_
                        refine tz_istore_n_k 3 [(8, .int 0), (7, .int x7_197), (6, .int x6_195), (0, .ref _), (1, .int x1_118), (2, .int x2_122), (4, .int x4_182), (5, .int x5_183)] C dX10_parts_202 rfl (Nat.le_of_ble_eq_true rfl) rfl ?_
                        refine tz_iload 1 C dX10_parts_203 rfl ?_
                        refine tz_if_eq_t 213 C dX10_parts_205 (by decide) (by decide) ?_
                        refine tz_iload 7 C dX10_parts_213 rfl ?_
                        refine tz_istore_k [(3, .int x3_181), (8, .int 0), (7, .int x7_197), (6, .int x6_195), (0, .ref _), (1, .int x1_118), (2, .int x2_122), (5, .int x5_183)] C dX10_parts_215 (Nat.le_of_ble_eq_true rfl) rfl ?_
                        refine tz_iinc 8 [(4, .int x4_182), (3, .int x3_181), (8, .int 0), (7, .int x7_197), (6, .int x6_195), (0, .ref _), (1, .int x1_118), (2, .int x2_122)] 1 C dX10_parts_217 (by decide) rfl (Nat.le_of_ble_eq_true rfl) rfl h (fun x5_203 h => ?_)
                        refine tz_goto 122 C dX10_parts_220 (by decide) ?_
                        exact tz_sub (ihag_179 _ _ _ _ h) [6, 7, 8, 2, 1, 0] rfl
                      · refine tz_iconst 1 (by decide) C dX10_parts_184 ?_
                        refine tz_goto 189 C dX10_parts_185 (by decide) ?_
                        refine tz_istore_k [(7, .int x7_197), (6, .int x6_195), (0, .ref _), (1, .int x1_118), (2, .int x2_122), (3, .int x3_181), (4, .int x4_182), (5, .int x5_183)] C dX10_parts_189 (Nat.le_of_ble_eq_true rfl) rfl ?_
                        refine tz_iload 0 C dX10_parts_191 rfl ?_
                        refine tz_if_eq_f 201 C dX10_parts_193 (by decide) (by decide) ?_
                        refine tz_iload 8 C dX10_parts_196 rfl ?_
                        refine tz_goto 202 C dX10_parts_198 (by decide) ?_
                        refine tz_istore_n_k 3 [(8, .int 1), (7, .int x7_197), (6, .int x6_195), (0, .ref _), (1, .int x1_118), (2, .int x2_122), (4, .int x4_182), (5, .int x5_183)] C dX10_parts_202 rfl (Nat.le_of_ble_eq_true rfl) rfl ?_
                        refine tz_iload 1 C dX10_parts_203 rfl ?_
                        refine tz_if_eq_f 213 C dX10_parts_205 (by decide) (by decide) ?_
                        refine tz_iload 2 C dX10_parts_208 rfl ?_
                        refine tz_goto 215 C dX10_parts_210 (by decide) ?_
                        refine tz_istore_k [(3, .int x5_183), (8, .int 1), (7, .int x7_197), (6, .int x6_195), (0, .ref _), (1, .int x1_118), (2, .int x2_122), (5, .int x5_183)] C dX10_parts_215 (Nat.le_of_ble_eq_true rfl) rfl ?_
                        refine tz_iinc 8 [(4, .int x7_197), (3, .int x5_183), (8, .int 1), (7, .int x7_197), (6, .int x6_195), (0, .ref _), (1, .int x1_118), (2, .int x2_122)] 1 C dX10_parts_217 (by decide) rfl (Nat.le_of_ble_eq_true rfl) rfl h (fun x5_204 h => ?_)
                        refine tz_goto 122 C dX10_parts_220 (by decide) ?_
                        exact tz_sub (ihag_179 _ _ _ _ h) [6, 7, 8, 2, 1, 0] rfl
    · refine tz_iload_n 1 1 C dX10_parts_35 rfl rfl ?_
      refine tz_iconst 1 (by decide) C dX10_parts_36 ?_
      refine tz_iadd C dX10_parts_37 ?_
      refine tz_istore_n 2 [(0, .ref _), (1, .int x1_114)] C dX10_parts_38 rfl (Nat.le_of_ble_eq_true rfl) rfl h (fun x2_205 h => ?_)
      refine tz_sub (L := [(0, .ref _), (1, .int x1_114), (2, .int x2_205)]) ?_ [1, 2, 0] rfl
      refine tz_loop1_w (V := fun (x2_208 : Int32) (σ_207 : tzS) => tz_V G E 39 [(0, .ref _), (1, .int x1_114), (2, .int x2_208)] [] σ_207) h (fun ag_206 ihag_206 x2_208 σ_207 h => ?_)
      refine tz_iload_n 2 2 C dX10_parts_39 rfl rfl ?_
      refine tz_aload_n 0 0 C dX10_parts_40 rfl rfl ?_
      refine tz_getI C dX10_parts_41 fl_RX10_219 (by decide) rfl rfl ?_
      refine tz_icmp_gt 78 C dX10_parts_44 (by decide) h (fun c_209 h => ?_) (fun c_209 h => ?_)
      · refine tz_iinc 1 [(0, .ref _), (2, .int x2_208)] 1 C dX10_parts_78 (by decide) rfl (Nat.le_of_ble_eq_true rfl) rfl h (fun x1_210 h => ?_)
        refine tz_goto 27 C dX10_parts_81 (by decide) ?_
        exact tz_sub (ihag_112 _ _ h) [1, 0] rfl
      · refine tz_aload_n 0 0 C dX10_parts_47 rfl rfl ?_
        refine tz_getR C dX10_parts_48 fl_RX10_52 (by decide) rfl rfl ?_
        refine tz_bipush 13 (by decide) C dX10_parts_51 ?_
        refine tz_iload_n 1 1 C dX10_parts_53 rfl rfl ?_
        refine tz_imul C dX10_parts_54 ?_
        refine tz_iload_n 2 2 C dX10_parts_55 rfl rfl ?_
        refine tz_iadd C dX10_parts_56 ?_
        refine tz_aload_n 0 0 C dX10_parts_57 rfl rfl ?_
        refine tz_aload_n 0 0 C dX10_parts_58 rfl rfl ?_
        refine tz_iload_n 1 1 C dX10_parts_59 rfl rfl ?_
        refine tz_calliv C dX10_parts_60 lk_RX10_222 (m_X10_placeOf G hG  h) (by decide) rfl rfl rfl rfl ⟨Nat.le_of_ble_eq_true rfl, Nat.le_of_ble_eq_true rfl⟩ (Nat.le_of_ble_eq_true rfl) rfl (fun r_212 σ_211 h => ?_)
        refine tz_aload_n 0 0 C dX10_parts_63 rfl rfl ?_
        refine tz_iload_n 2 2 C dX10_parts_64 rfl rfl ?_
        refine tz_calliv C dX10_parts_65 lk_RX10_222 (m_X10_placeOf G hG  h) (by decide) rfl rfl rfl rfl ⟨Nat.le_of_ble_eq_true rfl, Nat.le_of_ble_eq_true rfl⟩ (Nat.le_of_ble_eq_true rfl) rfl (fun r_214 σ_213 h => ?_)
        refine tz_calliv C dX10_parts_68 lk_RX10_213 (m_X10_costNow G hG  h) (by decide) rfl rfl rfl rfl ⟨Nat.le_of_ble_eq_true rfl, Nat.le_of_ble_eq_true rfl⟩ (Nat.le_of_ble_eq_true rfl) rfl (fun r_216 σ_215 h => ?_)
        have hin_218 := h.1
        refine tz_iast C dX10_parts_71 (by decide) rfl h (fun σ_217 h => ?_)
        refine tz_iinc 2 [(0, .ref _), (1, .int x1_114)] 1 C dX10_parts_72 (by decide) rfl (Nat.le_of_ble_eq_true rfl) rfl h (fun x2_219 h => ?_)
        refine tz_goto 39 C dX10_parts_75 (by decide) ?_
        exact tz_sub (ihag_206 _ _ h) [1, 2, 0] rfl
