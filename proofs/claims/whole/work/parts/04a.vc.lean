def vc_X0_startBlock (a0 : Nat) (x1 : Int32) (σ : tzS) (Q : tzS → Prop) : Prop :=
  ∀ σ_1 : tzS, σ_1 = tz_st σ a0 2 0 →
  ∀ σ_2 : tzS, σ_2 = tz_st σ_1 a0 3 0 →
  ∀ σ_3 : tzS, σ_3 = tz_st σ_2 a0 4 0 →
  tz_loop1 (fun (x2_6 : Int32) (σ_5 : tzS) (ag_4 : Int32 → tzS → Prop) =>
    (x1 ≤ x2_6 →
      Q σ_5) ∧
    (¬ x1 ≤ x2_6 →
      vp_in x2_6 108 ∧ (
        ∀ σ_8 : tzS, σ_8 = tz_st σ_5 (a0 + 15) x2_6.toNatClampNeg 0 →
        ∀ x2_10 : Int32, x2_10 = x2_6 + 1 →
        ag_4 x2_10 σ_8))) (0 : Int32) σ_3
set_option maxRecDepth 20000 in
set_option maxHeartbeats 4000000 in
theorem m_X0_startBlock (G : tzG) (hG : tz_ok G) {a0 : Nat} {x1 : Int32} (ha0 : a0 = 43 ∨ a0 = 83) {σ : tzS} {Q : tzS → Prop} (h : vc_X0_startBlock a0 x1 σ Q) : tz_M G yX0_startBlock cX0_startBlock 3 (none) 0 0 [.ref a0, .int x1] σ (tz_Qv G Q) := by
  rcases ha0 with rfl | rfl
  · unfold vc_X0_startBlock at h
    refine tz_startv hG RX0 [(0, .ref 43), (1, .int x1)] (by decide) rfl (Nat.le_of_ble_eq_true rfl) rfl (fun E C hret => ?_)
    refine tz_aload_n 0 0 C dX0_startBlock_0 rfl rfl ?_
    refine tz_iconst 0 (by decide) C dX0_startBlock_1 ?_
    refine tz_put C dX0_startBlock_2 fp_RX0_41 (by decide) rfl rfl rfl rfl h (fun σ_1 h => ?_)
    refine tz_aload_n 0 0 C dX0_startBlock_5 rfl rfl ?_
    refine tz_iconst 0 (by decide) C dX0_startBlock_6 ?_
    refine tz_put C dX0_startBlock_7 fp_RX0_44 (by decide) rfl rfl rfl rfl h (fun σ_2 h => ?_)
    refine tz_aload_n 0 0 C dX0_startBlock_10 rfl rfl ?_
    refine tz_iconst 0 (by decide) C dX0_startBlock_11 ?_
    refine tz_put C dX0_startBlock_12 fp_RX0_47 (by decide) rfl rfl rfl rfl h (fun σ_3 h => ?_)
    refine tz_iconst 0 (by decide) C dX0_startBlock_15 ?_
    refine tz_istore_n_k 2 [(0, .ref 43), (1, .int x1)] C dX0_startBlock_16 rfl (Nat.le_of_ble_eq_true rfl) rfl ?_
    refine tz_sub (L := [(0, .ref 43), (1, .int x1), (2, .int 0)]) ?_ [1, 2, 0] rfl
    refine tz_loop1_w (V := fun (x2_6 : Int32) (σ_5 : tzS) => tz_V G E 17 [(0, .ref 43), (1, .int x1), (2, .int x2_6)] [] σ_5) h (fun ag_4 ihag_4 x2_6 σ_5 h => ?_)
    refine tz_iload_n 2 2 C dX0_startBlock_17 rfl rfl ?_
    refine tz_iload_n 1 1 C dX0_startBlock_18 rfl rfl ?_
    refine tz_icmp_ge 35 C dX0_startBlock_19 (by decide) h (fun c_7 h => ?_) (fun c_7 h => ?_)
    · exact hret _ _ _ dX0_startBlock_35 h
    · refine tz_aload_n 0 0 C dX0_startBlock_22 rfl rfl ?_
      refine tz_getR C dX0_startBlock_23 fl_RX0_16 (by decide) rfl rfl ?_
      refine tz_iload_n 2 2 C dX0_startBlock_26 rfl rfl ?_
      refine tz_iconst 0 (by decide) C dX0_startBlock_27 ?_
      have hin_9 := h.1
      refine tz_iast C dX0_startBlock_28 (by decide) rfl h (fun σ_8 h => ?_)
      refine tz_iinc 2 [(0, .ref 43), (1, .int x1)] 1 C dX0_startBlock_29 (by decide) rfl (Nat.le_of_ble_eq_true rfl) rfl h (fun x2_10 h => ?_)
      refine tz_goto 17 C dX0_startBlock_32 (by decide) ?_
      exact tz_sub (ihag_4 _ _ h) [1, 2, 0] rfl
  · unfold vc_X0_startBlock at h
    refine tz_startv hG RX0 [(0, .ref 83), (1, .int x1)] (by decide) rfl (Nat.le_of_ble_eq_true rfl) rfl (fun E C hret => ?_)
    refine tz_aload_n 0 0 C dX0_startBlock_0 rfl rfl ?_
    refine tz_iconst 0 (by decide) C dX0_startBlock_1 ?_
    refine tz_put C dX0_startBlock_2 fp_RX0_41 (by decide) rfl rfl rfl rfl h (fun σ_1 h => ?_)
    refine tz_aload_n 0 0 C dX0_startBlock_5 rfl rfl ?_
    refine tz_iconst 0 (by decide) C dX0_startBlock_6 ?_
    refine tz_put C dX0_startBlock_7 fp_RX0_44 (by decide) rfl rfl rfl rfl h (fun σ_2 h => ?_)
    refine tz_aload_n 0 0 C dX0_startBlock_10 rfl rfl ?_
    refine tz_iconst 0 (by decide) C dX0_startBlock_11 ?_
    refine tz_put C dX0_startBlock_12 fp_RX0_47 (by decide) rfl rfl rfl rfl h (fun σ_3 h => ?_)
    refine tz_iconst 0 (by decide) C dX0_startBlock_15 ?_
    refine tz_istore_n_k 2 [(0, .ref 83), (1, .int x1)] C dX0_startBlock_16 rfl (Nat.le_of_ble_eq_true rfl) rfl ?_
    refine tz_sub (L := [(0, .ref 83), (1, .int x1), (2, .int 0)]) ?_ [1, 2, 0] rfl
    refine tz_loop1_w (V := fun (x2_6 : Int32) (σ_5 : tzS) => tz_V G E 17 [(0, .ref 83), (1, .int x1), (2, .int x2_6)] [] σ_5) h (fun ag_4 ihag_4 x2_6 σ_5 h => ?_)
    refine tz_iload_n 2 2 C dX0_startBlock_17 rfl rfl ?_
    refine tz_iload_n 1 1 C dX0_startBlock_18 rfl rfl ?_
    refine tz_icmp_ge 35 C dX0_startBlock_19 (by decide) h (fun c_7 h => ?_) (fun c_7 h => ?_)
    · exact hret _ _ _ dX0_startBlock_35 h
    · refine tz_aload_n 0 0 C dX0_startBlock_22 rfl rfl ?_
      refine tz_getR C dX0_startBlock_23 fl_RX0_16 (by decide) rfl rfl ?_
      refine tz_iload_n 2 2 C dX0_startBlock_26 rfl rfl ?_
      refine tz_iconst 0 (by decide) C dX0_startBlock_27 ?_
      have hin_9 := h.1
      refine tz_iast C dX0_startBlock_28 (by decide) rfl h (fun σ_8 h => ?_)
      refine tz_iinc 2 [(0, .ref 83), (1, .int x1)] 1 C dX0_startBlock_29 (by decide) rfl (Nat.le_of_ble_eq_true rfl) rfl h (fun x2_10 h => ?_)
      refine tz_goto 17 C dX0_startBlock_32 (by decide) ?_
      exact tz_sub (ihag_4 _ _ h) [1, 2, 0] rfl

def vc_X0_addSentence (a0 : Nat) (x2 : Int32) (σ : tzS) (Q : tzS → Prop) : Prop :=
  tz_loop1 (fun (x3_3 : Int32) (σ_2 : tzS) (ag_1 : Int32 → tzS → Prop) =>
    vp_in x2 12 ∧ (
      ((σ_2.1 6 x2.toNatClampNeg) ≤ x3_3 →
        Q σ_2) ∧
      (¬ (σ_2.1 6 x2.toNatClampNeg) ≤ x3_3 →
        vp_in x3_3 9 ∧ (
          ∀ x4_8 : Int32, x4_8 = (σ_2.1 (8 + x2.toNatClampNeg) x3_3.toNatClampNeg) →
          ∀ σ_9 : tzS, σ_9 = tz_st σ_2 a0 2 ((σ_2.1 a0 2) + 1) →
          vp_in x4_8 108 ∧ (
            ∀ σ_11 : tzS, σ_11 = tz_st σ_9 (a0 + 15) x4_8.toNatClampNeg ((σ_9.1 (a0 + 15) x4_8.toNatClampNeg) + 1) →
            (¬ (σ_11.1 (a0 + 15) x4_8.toNatClampNeg) = 1 →
              (¬ (σ_11.1 (a0 + 15) x4_8.toNatClampNeg) = 2 →
                ∀ x3_14 : Int32, x3_14 = x3_3 + 1 →
                ag_1 x3_14 σ_11) ∧
              ((σ_11.1 (a0 + 15) x4_8.toNatClampNeg) = 2 →
                ∀ σ_15 : tzS, σ_15 = tz_st σ_11 a0 4 ((σ_11.1 a0 4) - 1) →
                ∀ x3_16 : Int32, x3_16 = x3_3 + 1 →
                ag_1 x3_16 σ_15)) ∧
            ((σ_11.1 (a0 + 15) x4_8.toNatClampNeg) = 1 →
              ∀ σ_17 : tzS, σ_17 = tz_st σ_11 a0 3 ((σ_11.1 a0 3) + 1) →
              ∀ σ_18 : tzS, σ_18 = tz_st σ_17 a0 4 ((σ_17.1 a0 4) + 1) →
              ∀ x3_19 : Int32, x3_19 = x3_3 + 1 →
              ag_1 x3_19 σ_18)))))) (0 : Int32) σ
set_option maxRecDepth 20000 in
set_option maxHeartbeats 4000000 in
theorem m_X0_addSentence (G : tzG) (hG : tz_ok G) {a0 : Nat} {x2 : Int32} (ha0 : a0 = 43 ∨ a0 = 83) {σ : tzS} {Q : tzS → Prop} (h : vc_X0_addSentence a0 x2 σ Q) : tz_M G yX0_addSentence cX0_addSentence 5 (none) 0 0 [.ref a0, .ref 4, .int x2] σ (tz_Qv G Q) := by
  rcases ha0 with rfl | rfl
  · unfold vc_X0_addSentence at h
    refine tz_startv hG RX0 [(0, .ref 43), (1, .ref 4), (2, .int x2)] (by decide) rfl (Nat.le_of_ble_eq_true rfl) rfl (fun E C hret => ?_)
    refine tz_iconst 0 (by decide) C dX0_addSentence_0 ?_
    refine tz_istore_n_k 3 [(0, .ref 43), (1, .ref 4), (2, .int x2)] C dX0_addSentence_1 rfl (Nat.le_of_ble_eq_true rfl) rfl ?_
    refine tz_sub (L := [(0, .ref 43), (1, .ref 4), (2, .int x2), (3, .int 0)]) ?_ [1, 2, 3, 0] rfl
    refine tz_loop1_w (V := fun (x3_3 : Int32) (σ_2 : tzS) => tz_V G E 2 [(0, .ref 43), (1, .ref 4), (2, .int x2), (3, .int x3_3)] [] σ_2) h (fun ag_1 ihag_1 x3_3 σ_2 h => ?_)
    refine tz_iload_n 3 3 C dX0_addSentence_2 rfl rfl ?_
    refine tz_aload_n 1 1 C dX0_addSentence_3 rfl rfl ?_
    refine tz_getR C dX0_addSentence_4 fl_RX0_50 (by decide) rfl rfl ?_
    refine tz_iload_n 2 2 C dX0_addSentence_7 rfl rfl ?_
    obtain ⟨hin_4, h⟩ := h
    refine tz_iald C dX0_addSentence_8 (by decide) rfl hin_4 ?_
    refine tz_icmp_ge 104 C dX0_addSentence_9 (by decide) h (fun c_5 h => ?_) (fun c_5 h => ?_)
    · exact hret _ _ _ dX0_addSentence_104 h
    · refine tz_aload_n 1 1 C dX0_addSentence_12 rfl rfl ?_
      refine tz_getR C dX0_addSentence_13 fl_RX0_53 (by decide) rfl rfl ?_
      refine tz_iload_n 2 2 C dX0_addSentence_16 rfl rfl ?_
      refine tz_aald C dX0_addSentence_17 (by decide) rfl hin_4 ?_
      refine tz_iload_n 3 3 C dX0_addSentence_18 rfl rfl ?_
      obtain ⟨hin_7, h⟩ := h
      refine tz_iald C dX0_addSentence_19 (tz_rowlt hin_4 (by decide)) (tz_rows hin_4 (by decide)) hin_7 ?_
      refine tz_istore [(0, .ref 43), (1, .ref 4), (2, .int x2), (3, .int x3_3)] C dX0_addSentence_20 (Nat.le_of_ble_eq_true rfl) rfl h (fun x4_8 h => ?_)
      refine tz_aload_n 0 1 C dX0_addSentence_22 rfl rfl ?_
      refine tz_dup C dX0_addSentence_23 rfl ?_
      refine tz_getI C dX0_addSentence_24 fl_RX0_41 (by decide) rfl rfl ?_
      refine tz_iconst 1 (by decide) C dX0_addSentence_27 ?_
      refine tz_iadd C dX0_addSentence_28 ?_
      refine tz_put C dX0_addSentence_29 fp_RX0_41 (by decide) rfl rfl rfl rfl h (fun σ_9 h => ?_)
      refine tz_aload_n 0 1 C dX0_addSentence_32 rfl rfl ?_
      refine tz_getR C dX0_addSentence_33 fl_RX0_16 (by decide) rfl rfl ?_
      refine tz_iload 0 C dX0_addSentence_36 rfl ?_
      refine tz_dup2 C dX0_addSentence_38 rfl rfl ?_
      obtain ⟨hin_10, h⟩ := h
      refine tz_iald C dX0_addSentence_39 (by decide) rfl hin_10 ?_
      refine tz_iconst 1 (by decide) C dX0_addSentence_40 ?_
      refine tz_iadd C dX0_addSentence_41 ?_
      refine tz_iast_c _ C dX0_addSentence_42 (by decide) rfl hin_10 rfl h (fun σ_11 h => ?_)
      refine tz_aload_n 0 1 C dX0_addSentence_43 rfl rfl ?_
      refine tz_getR C dX0_addSentence_44 fl_RX0_16 (by decide) rfl rfl ?_
      refine tz_iload 0 C dX0_addSentence_47 rfl ?_
      refine tz_iald C dX0_addSentence_49 (by decide) rfl hin_10 ?_
      refine tz_iconst 1 (by decide) C dX0_addSentence_50 ?_
      refine tz_icmp_ne 77 C dX0_addSentence_51 (by decide) h (fun c_12 h => ?_) (fun c_12 h => ?_)
      · refine tz_aload_n 0 1 C dX0_addSentence_77 rfl rfl ?_
        refine tz_getR C dX0_addSentence_78 fl_RX0_16 (by decide) rfl rfl ?_
        refine tz_iload 0 C dX0_addSentence_81 rfl ?_
        refine tz_iald C dX0_addSentence_83 (by decide) rfl hin_10 ?_
        refine tz_iconst 2 (by decide) C dX0_addSentence_84 ?_
        refine tz_icmp_ne 98 C dX0_addSentence_85 (by decide) h (fun c_13 h => ?_) (fun c_13 h => ?_)
        · refine tz_iinc 4 [(4, .int x4_8), (0, .ref 43), (1, .ref 4), (2, .int x2)] 1 C dX0_addSentence_98 (by decide) rfl (Nat.le_of_ble_eq_true rfl) rfl h (fun x3_14 h => ?_)
          refine tz_goto 2 C dX0_addSentence_101 (by decide) ?_
          exact tz_sub (ihag_1 _ _ h) [2, 3, 4, 0] rfl
        · refine tz_aload_n 0 1 C dX0_addSentence_88 rfl rfl ?_
          refine tz_dup C dX0_addSentence_89 rfl ?_
          refine tz_getI C dX0_addSentence_90 fl_RX0_47 (by decide) rfl rfl ?_
          refine tz_iconst 1 (by decide) C dX0_addSentence_93 ?_
          refine tz_isub C dX0_addSentence_94 ?_
          refine tz_put C dX0_addSentence_95 fp_RX0_47 (by decide) rfl rfl rfl rfl h (fun σ_15 h => ?_)
          refine tz_iinc 4 [(4, .int x4_8), (0, .ref 43), (1, .ref 4), (2, .int x2)] 1 C dX0_addSentence_98 (by decide) rfl (Nat.le_of_ble_eq_true rfl) rfl h (fun x3_16 h => ?_)
          refine tz_goto 2 C dX0_addSentence_101 (by decide) ?_
          exact tz_sub (ihag_1 _ _ h) [2, 3, 4, 0] rfl
      · refine tz_aload_n 0 1 C dX0_addSentence_54 rfl rfl ?_
        refine tz_dup C dX0_addSentence_55 rfl ?_
        refine tz_getI C dX0_addSentence_56 fl_RX0_44 (by decide) rfl rfl ?_
        refine tz_iconst 1 (by decide) C dX0_addSentence_59 ?_
        refine tz_iadd C dX0_addSentence_60 ?_
        refine tz_put C dX0_addSentence_61 fp_RX0_44 (by decide) rfl rfl rfl rfl h (fun σ_17 h => ?_)
        refine tz_aload_n 0 1 C dX0_addSentence_64 rfl rfl ?_
        refine tz_dup C dX0_addSentence_65 rfl ?_
        refine tz_getI C dX0_addSentence_66 fl_RX0_47 (by decide) rfl rfl ?_
        refine tz_iconst 1 (by decide) C dX0_addSentence_69 ?_
        refine tz_iadd C dX0_addSentence_70 ?_
        refine tz_put C dX0_addSentence_71 fp_RX0_47 (by decide) rfl rfl rfl rfl h (fun σ_18 h => ?_)
        refine tz_goto 98 C dX0_addSentence_74 (by decide) ?_
        refine tz_iinc 4 [(4, .int x4_8), (0, .ref 43), (1, .ref 4), (2, .int x2)] 1 C dX0_addSentence_98 (by decide) rfl (Nat.le_of_ble_eq_true rfl) rfl h (fun x3_19 h => ?_)
        refine tz_goto 2 C dX0_addSentence_101 (by decide) ?_
        exact tz_sub (ihag_1 _ _ h) [2, 3, 4, 0] rfl
  · unfold vc_X0_addSentence at h
    refine tz_startv hG RX0 [(0, .ref 83), (1, .ref 4), (2, .int x2)] (by decide) rfl (Nat.le_of_ble_eq_true rfl) rfl (fun E C hret => ?_)
    refine tz_iconst 0 (by decide) C dX0_addSentence_0 ?_
    refine tz_istore_n_k 3 [(0, .ref 83), (1, .ref 4), (2, .int x2)] C dX0_addSentence_1 rfl (Nat.le_of_ble_eq_true rfl) rfl ?_
    refine tz_sub (L := [(0, .ref 83), (1, .ref 4), (2, .int x2), (3, .int 0)]) ?_ [1, 2, 3, 0] rfl
    refine tz_loop1_w (V := fun (x3_3 : Int32) (σ_2 : tzS) => tz_V G E 2 [(0, .ref 83), (1, .ref 4), (2, .int x2), (3, .int x3_3)] [] σ_2) h (fun ag_1 ihag_1 x3_3 σ_2 h => ?_)
    refine tz_iload_n 3 3 C dX0_addSentence_2 rfl rfl ?_
    refine tz_aload_n 1 1 C dX0_addSentence_3 rfl rfl ?_
    refine tz_getR C dX0_addSentence_4 fl_RX0_50 (by decide) rfl rfl ?_
    refine tz_iload_n 2 2 C dX0_addSentence_7 rfl rfl ?_
    obtain ⟨hin_4, h⟩ := h
    refine tz_iald C dX0_addSentence_8 (by decide) rfl hin_4 ?_
    refine tz_icmp_ge 104 C dX0_addSentence_9 (by decide) h (fun c_5 h => ?_) (fun c_5 h => ?_)
    · exact hret _ _ _ dX0_addSentence_104 h
    · refine tz_aload_n 1 1 C dX0_addSentence_12 rfl rfl ?_
      refine tz_getR C dX0_addSentence_13 fl_RX0_53 (by decide) rfl rfl ?_
      refine tz_iload_n 2 2 C dX0_addSentence_16 rfl rfl ?_
      refine tz_aald C dX0_addSentence_17 (by decide) rfl hin_4 ?_
      refine tz_iload_n 3 3 C dX0_addSentence_18 rfl rfl ?_
      obtain ⟨hin_7, h⟩ := h
      refine tz_iald C dX0_addSentence_19 (tz_rowlt hin_4 (by decide)) (tz_rows hin_4 (by decide)) hin_7 ?_
      refine tz_istore [(0, .ref 83), (1, .ref 4), (2, .int x2), (3, .int x3_3)] C dX0_addSentence_20 (Nat.le_of_ble_eq_true rfl) rfl h (fun x4_8 h => ?_)
      refine tz_aload_n 0 1 C dX0_addSentence_22 rfl rfl ?_
      refine tz_dup C dX0_addSentence_23 rfl ?_
      refine tz_getI C dX0_addSentence_24 fl_RX0_41 (by decide) rfl rfl ?_
      refine tz_iconst 1 (by decide) C dX0_addSentence_27 ?_
      refine tz_iadd C dX0_addSentence_28 ?_
      refine tz_put C dX0_addSentence_29 fp_RX0_41 (by decide) rfl rfl rfl rfl h (fun σ_9 h => ?_)
      refine tz_aload_n 0 1 C dX0_addSentence_32 rfl rfl ?_
      refine tz_getR C dX0_addSentence_33 fl_RX0_16 (by decide) rfl rfl ?_
      refine tz_iload 0 C dX0_addSentence_36 rfl ?_
      refine tz_dup2 C dX0_addSentence_38 rfl rfl ?_
      obtain ⟨hin_10, h⟩ := h
      refine tz_iald C dX0_addSentence_39 (by decide) rfl hin_10 ?_
      refine tz_iconst 1 (by decide) C dX0_addSentence_40 ?_
      refine tz_iadd C dX0_addSentence_41 ?_
      refine tz_iast_c _ C dX0_addSentence_42 (by decide) rfl hin_10 rfl h (fun σ_11 h => ?_)
      refine tz_aload_n 0 1 C dX0_addSentence_43 rfl rfl ?_
      refine tz_getR C dX0_addSentence_44 fl_RX0_16 (by decide) rfl rfl ?_
      refine tz_iload 0 C dX0_addSentence_47 rfl ?_
      refine tz_iald C dX0_addSentence_49 (by decide) rfl hin_10 ?_
      refine tz_iconst 1 (by decide) C dX0_addSentence_50 ?_
      refine tz_icmp_ne 77 C dX0_addSentence_51 (by decide) h (fun c_12 h => ?_) (fun c_12 h => ?_)
      · refine tz_aload_n 0 1 C dX0_addSentence_77 rfl rfl ?_
        refine tz_getR C dX0_addSentence_78 fl_RX0_16 (by decide) rfl rfl ?_
        refine tz_iload 0 C dX0_addSentence_81 rfl ?_
        refine tz_iald C dX0_addSentence_83 (by decide) rfl hin_10 ?_
        refine tz_iconst 2 (by decide) C dX0_addSentence_84 ?_
        refine tz_icmp_ne 98 C dX0_addSentence_85 (by decide) h (fun c_13 h => ?_) (fun c_13 h => ?_)
        · refine tz_iinc 4 [(4, .int x4_8), (0, .ref 83), (1, .ref 4), (2, .int x2)] 1 C dX0_addSentence_98 (by decide) rfl (Nat.le_of_ble_eq_true rfl) rfl h (fun x3_14 h => ?_)
          refine tz_goto 2 C dX0_addSentence_101 (by decide) ?_
          exact tz_sub (ihag_1 _ _ h) [2, 3, 4, 0] rfl
        · refine tz_aload_n 0 1 C dX0_addSentence_88 rfl rfl ?_
          refine tz_dup C dX0_addSentence_89 rfl ?_
          refine tz_getI C dX0_addSentence_90 fl_RX0_47 (by decide) rfl rfl ?_
          refine tz_iconst 1 (by decide) C dX0_addSentence_93 ?_
          refine tz_isub C dX0_addSentence_94 ?_
          refine tz_put C dX0_addSentence_95 fp_RX0_47 (by decide) rfl rfl rfl rfl h (fun σ_15 h => ?_)
          refine tz_iinc 4 [(4, .int x4_8), (0, .ref 83), (1, .ref 4), (2, .int x2)] 1 C dX0_addSentence_98 (by decide) rfl (Nat.le_of_ble_eq_true rfl) rfl h (fun x3_16 h => ?_)
          refine tz_goto 2 C dX0_addSentence_101 (by decide) ?_
          exact tz_sub (ihag_1 _ _ h) [2, 3, 4, 0] rfl
      · refine tz_aload_n 0 1 C dX0_addSentence_54 rfl rfl ?_
        refine tz_dup C dX0_addSentence_55 rfl ?_
        refine tz_getI C dX0_addSentence_56 fl_RX0_44 (by decide) rfl rfl ?_
        refine tz_iconst 1 (by decide) C dX0_addSentence_59 ?_
        refine tz_iadd C dX0_addSentence_60 ?_
        refine tz_put C dX0_addSentence_61 fp_RX0_44 (by decide) rfl rfl rfl rfl h (fun σ_17 h => ?_)
        refine tz_aload_n 0 1 C dX0_addSentence_64 rfl rfl ?_
        refine tz_dup C dX0_addSentence_65 rfl ?_
        refine tz_getI C dX0_addSentence_66 fl_RX0_47 (by decide) rfl rfl ?_
        refine tz_iconst 1 (by decide) C dX0_addSentence_69 ?_
        refine tz_iadd C dX0_addSentence_70 ?_
        refine tz_put C dX0_addSentence_71 fp_RX0_47 (by decide) rfl rfl rfl rfl h (fun σ_18 h => ?_)
        refine tz_goto 98 C dX0_addSentence_74 (by decide) ?_
        refine tz_iinc 4 [(4, .int x4_8), (0, .ref 83), (1, .ref 4), (2, .int x2)] 1 C dX0_addSentence_98 (by decide) rfl (Nat.le_of_ble_eq_true rfl) rfl h (fun x3_19 h => ?_)
        refine tz_goto 2 C dX0_addSentence_101 (by decide) ?_
        exact tz_sub (ihag_1 _ _ h) [2, 3, 4, 0] rfl

def vc_X0_price (a0 : Nat) (x1 : Int32) (σ : tzS) (Q : Int32 → tzS → Prop) : Prop :=
  (¬ x1 = 0 →
    (¬ x1 = 1 →
      (¬ x1 = 2 →
        ∀ x2_4 : Int32, x2_4 = ((σ.1 a0 2) - (σ.1 a0 3)) →
        ((4 * (σ.1 a0 3)) ≤ x2_4 →
          Q 0 σ) ∧
        (¬ (4 * (σ.1 a0 3)) ≤ x2_4 →
          Q ((4 * (σ.1 a0 3)) - x2_4) σ)) ∧
      (x1 = 2 →
        Q ((σ.1 a0 2) + (3 * (σ.1 a0 4))) σ)) ∧
    (x1 = 1 →
      Q ((σ.1 a0 3) * (σ.1 a0 3)) σ)) ∧
  (x1 = 0 →
    Q (2 * (σ.1 a0 3)) σ)
set_option maxRecDepth 20000 in
set_option maxHeartbeats 4000000 in
theorem m_X0_price (G : tzG) (hG : tz_ok G) {a0 : Nat} {x1 : Int32} (ha0 : a0 = 43 ∨ a0 = 83) {σ : tzS} {Q : Int32 → tzS → Prop} (h : vc_X0_price a0 x1 σ Q) : tz_M G yX0_price cX0_price 3 (some .int) 0 0 [.ref a0, .int x1] σ (tz_Qi G Q) := by
  rcases ha0 with rfl | rfl
  · unfold vc_X0_price at h
    refine tz_starti hG RX0 [(0, .ref 43), (1, .int x1)] (by decide) rfl (Nat.le_of_ble_eq_true rfl) rfl (fun E C hret => ?_)
    refine tz_iload_n 1 1 C dX0_price_0 rfl rfl ?_
    refine tz_if_ne 11 C dX0_price_1 (by decide) h (fun c_1 h => ?_) (fun c_1 h => ?_)
    · refine tz_iload_n 1 1 C dX0_price_11 rfl rfl ?_
      refine tz_iconst 1 (by decide) C dX0_price_12 ?_
      refine tz_icmp_ne 26 C dX0_price_13 (by decide) h (fun c_2 h => ?_) (fun c_2 h => ?_)
      · refine tz_iload_n 1 1 C dX0_price_26 rfl rfl ?_
        refine tz_iconst 2 (by decide) C dX0_price_27 ?_
        refine tz_icmp_ne 43 C dX0_price_28 (by decide) h (fun c_3 h => ?_) (fun c_3 h => ?_)
        · refine tz_aload_n 0 0 C dX0_price_43 rfl rfl ?_
          refine tz_getI C dX0_price_44 fl_RX0_41 (by decide) rfl rfl ?_
          refine tz_aload_n 0 0 C dX0_price_47 rfl rfl ?_
          refine tz_getI C dX0_price_48 fl_RX0_44 (by decide) rfl rfl ?_
          refine tz_isub C dX0_price_51 ?_
          refine tz_istore_n 2 [(0, .ref 43), (1, .int x1)] C dX0_price_52 rfl (Nat.le_of_ble_eq_true rfl) rfl h (fun x2_4 h => ?_)
          refine tz_iload_n 2 0 C dX0_price_53 rfl rfl ?_
          refine tz_iconst 4 (by decide) C dX0_price_54 ?_
          refine tz_aload_n 0 1 C dX0_price_55 rfl rfl ?_
          refine tz_getI C dX0_price_56 fl_RX0_44 (by decide) rfl rfl ?_
          refine tz_imul C dX0_price_59 ?_
          refine tz_icmp_ge 74 C dX0_price_60 (by decide) h (fun c_5 h => ?_) (fun c_5 h => ?_)
          · refine tz_iconst 0 (by decide) C dX0_price_74 ?_
            exact hret _ _ _ _ dX0_price_75 h
          · refine tz_iconst 4 (by decide) C dX0_price_63 ?_
            refine tz_aload_n 0 1 C dX0_price_64 rfl rfl ?_
            refine tz_getI C dX0_price_65 fl_RX0_44 (by decide) rfl rfl ?_
            refine tz_imul C dX0_price_68 ?_
            refine tz_iload_n 2 0 C dX0_price_69 rfl rfl ?_
            refine tz_isub C dX0_price_70 ?_
            refine tz_goto 75 C dX0_price_71 (by decide) ?_
            exact hret _ _ _ _ dX0_price_75 h
        · refine tz_aload_n 0 0 C dX0_price_31 rfl rfl ?_
          refine tz_getI C dX0_price_32 fl_RX0_41 (by decide) rfl rfl ?_
          refine tz_iconst 3 (by decide) C dX0_price_35 ?_
          refine tz_aload_n 0 0 C dX0_price_36 rfl rfl ?_
          refine tz_getI C dX0_price_37 fl_RX0_47 (by decide) rfl rfl ?_
          refine tz_imul C dX0_price_40 ?_
          refine tz_iadd C dX0_price_41 ?_
          exact hret _ _ _ _ dX0_price_42 h
      · refine tz_aload_n 0 0 C dX0_price_16 rfl rfl ?_
        refine tz_getI C dX0_price_17 fl_RX0_44 (by decide) rfl rfl ?_
        refine tz_aload_n 0 0 C dX0_price_20 rfl rfl ?_
        refine tz_getI C dX0_price_21 fl_RX0_44 (by decide) rfl rfl ?_
        refine tz_imul C dX0_price_24 ?_
        exact hret _ _ _ _ dX0_price_25 h
    · refine tz_iconst 2 (by decide) C dX0_price_4 ?_
      refine tz_aload_n 0 0 C dX0_price_5 rfl rfl ?_
      refine tz_getI C dX0_price_6 fl_RX0_44 (by decide) rfl rfl ?_
      refine tz_imul C dX0_price_9 ?_
      exact hret _ _ _ _ dX0_price_10 h
  · unfold vc_X0_price at h
    refine tz_starti hG RX0 [(0, .ref 83), (1, .int x1)] (by decide) rfl (Nat.le_of_ble_eq_true rfl) rfl (fun E C hret => ?_)
    refine tz_iload_n 1 1 C dX0_price_0 rfl rfl ?_
    refine tz_if_ne 11 C dX0_price_1 (by decide) h (fun c_1 h => ?_) (fun c_1 h => ?_)
    · refine tz_iload_n 1 1 C dX0_price_11 rfl rfl ?_
      refine tz_iconst 1 (by decide) C dX0_price_12 ?_
      refine tz_icmp_ne 26 C dX0_price_13 (by decide) h (fun c_2 h => ?_) (fun c_2 h => ?_)
      · refine tz_iload_n 1 1 C dX0_price_26 rfl rfl ?_
        refine tz_iconst 2 (by decide) C dX0_price_27 ?_
        refine tz_icmp_ne 43 C dX0_price_28 (by decide) h (fun c_3 h => ?_) (fun c_3 h => ?_)
        · refine tz_aload_n 0 0 C dX0_price_43 rfl rfl ?_
          refine tz_getI C dX0_price_44 fl_RX0_41 (by decide) rfl rfl ?_
          refine tz_aload_n 0 0 C dX0_price_47 rfl rfl ?_
          refine tz_getI C dX0_price_48 fl_RX0_44 (by decide) rfl rfl ?_
          refine tz_isub C dX0_price_51 ?_
          refine tz_istore_n 2 [(0, .ref 83), (1, .int x1)] C dX0_price_52 rfl (Nat.le_of_ble_eq_true rfl) rfl h (fun x2_4 h => ?_)
          refine tz_iload_n 2 0 C dX0_price_53 rfl rfl ?_
          refine tz_iconst 4 (by decide) C dX0_price_54 ?_
          refine tz_aload_n 0 1 C dX0_price_55 rfl rfl ?_
          refine tz_getI C dX0_price_56 fl_RX0_44 (by decide) rfl rfl ?_
          refine tz_imul C dX0_price_59 ?_
          refine tz_icmp_ge 74 C dX0_price_60 (by decide) h (fun c_5 h => ?_) (fun c_5 h => ?_)
          · refine tz_iconst 0 (by decide) C dX0_price_74 ?_
            exact hret _ _ _ _ dX0_price_75 h
          · refine tz_iconst 4 (by decide) C dX0_price_63 ?_
            refine tz_aload_n 0 1 C dX0_price_64 rfl rfl ?_
            refine tz_getI C dX0_price_65 fl_RX0_44 (by decide) rfl rfl ?_
            refine tz_imul C dX0_price_68 ?_
            refine tz_iload_n 2 0 C dX0_price_69 rfl rfl ?_
            refine tz_isub C dX0_price_70 ?_
            refine tz_goto 75 C dX0_price_71 (by decide) ?_
            exact hret _ _ _ _ dX0_price_75 h
        · refine tz_aload_n 0 0 C dX0_price_31 rfl rfl ?_
          refine tz_getI C dX0_price_32 fl_RX0_41 (by decide) rfl rfl ?_
          refine tz_iconst 3 (by decide) C dX0_price_35 ?_
          refine tz_aload_n 0 0 C dX0_price_36 rfl rfl ?_
          refine tz_getI C dX0_price_37 fl_RX0_47 (by decide) rfl rfl ?_
          refine tz_imul C dX0_price_40 ?_
          refine tz_iadd C dX0_price_41 ?_
          exact hret _ _ _ _ dX0_price_42 h
      · refine tz_aload_n 0 0 C dX0_price_16 rfl rfl ?_
        refine tz_getI C dX0_price_17 fl_RX0_44 (by decide) rfl rfl ?_
        refine tz_aload_n 0 0 C dX0_price_20 rfl rfl ?_
        refine tz_getI C dX0_price_21 fl_RX0_44 (by decide) rfl rfl ?_
        refine tz_imul C dX0_price_24 ?_
        exact hret _ _ _ _ dX0_price_25 h
    · refine tz_iconst 2 (by decide) C dX0_price_4 ?_
      refine tz_aload_n 0 0 C dX0_price_5 rfl rfl ?_
      refine tz_getI C dX0_price_6 fl_RX0_44 (by decide) rfl rfl ?_
      refine tz_imul C dX0_price_9 ?_
      exact hret _ _ _ _ dX0_price_10 h

def vc_X0_fill (a0 : Nat) (x2 : Int32) (x3 : Int32) (x4 : Int32) (σ : tzS) (Q : tzS → Prop) : Prop :=
  tz_join1 (fun (y_3 : Int32) (σ_2 : tzS) =>
    ∀ x5_4 : Int32, x5_4 = y_3 →
    tz_loop1 (fun (x6_7 : Int32) (σ_6 : tzS) (ag_5 : Int32 → tzS → Prop) =>
      (x5_4 ≤ x6_7 →
        Q σ_6) ∧
      (¬ x5_4 ≤ x6_7 →
        vc_X0_startBlock a0 (σ_6.1 4 2) σ_6 (fun (σ_9 : tzS) =>
          tz_loop1 (fun (x7_12 : Int32) (σ_11 : tzS) (ag_10 : Int32 → tzS → Prop) =>
            (x5_4 ≤ x7_12 →
              ∀ x6_14 : Int32, x6_14 = x6_7 + 1 →
              ag_5 x6_14 σ_11) ∧
            (¬ x5_4 ≤ x7_12 →
              (x2 = (-1) →
                vc_X0_addSentence a0 x7_12 σ_11 (fun (σ_16 : tzS) =>
                  vp_in x6_7 13 ∧ (
                    vc_X0_price a0 x3 σ_16 (fun (r_19 : Int32) (σ_18 : tzS) =>
                      vp_in (x7_12 + 1) 13 ∧ (
                        ∀ σ_20 : tzS, σ_20 = tz_st σ_18 ((a0 + 2) + x6_7.toNatClampNeg) (x7_12 + 1).toNatClampNeg (r_19 + x4) →
                        ∀ x7_22 : Int32, x7_22 = x7_12 + 1 →
                        ag_10 x7_22 σ_20))))) ∧
              (¬ x2 = (-1) →
                (x2 ≤ x7_12 →
                  vc_X0_addSentence a0 (x7_12 + 1) σ_11 (fun (σ_24 : tzS) =>
                    vp_in x6_7 13 ∧ (
                      vc_X0_price a0 x3 σ_24 (fun (r_27 : Int32) (σ_26 : tzS) =>
                        vp_in (x7_12 + 1) 13 ∧ (
                          ∀ σ_28 : tzS, σ_28 = tz_st σ_26 ((a0 + 2) + x6_7.toNatClampNeg) (x7_12 + 1).toNatClampNeg (r_27 + x4) →
                          ∀ x7_30 : Int32, x7_30 = x7_12 + 1 →
                          ag_10 x7_30 σ_28))))) ∧
                (¬ x2 ≤ x7_12 →
                  vc_X0_addSentence a0 x7_12 σ_11 (fun (σ_31 : tzS) =>
                    vp_in x6_7 13 ∧ (
                      vc_X0_price a0 x3 σ_31 (fun (r_34 : Int32) (σ_33 : tzS) =>
                        vp_in (x7_12 + 1) 13 ∧ (
                          ∀ σ_35 : tzS, σ_35 = tz_st σ_33 ((a0 + 2) + x6_7.toNatClampNeg) (x7_12 + 1).toNatClampNeg (r_34 + x4) →
                          ∀ x7_37 : Int32, x7_37 = x7_12 + 1 →
                          ag_10 x7_37 σ_35)))))))) x6_7 σ_9))) (0 : Int32) σ_2) (fun (K_1 : Int32 → tzS → Prop) =>
    (¬ x2 = (-1) →
      K_1 ((σ.1 4 0) - 1) σ) ∧
    (x2 = (-1) →
      K_1 (σ.1 4 0) σ))
set_option maxRecDepth 20000 in
set_option maxHeartbeats 4000000 in
theorem m_X0_fill (G : tzG) (hG : tz_ok G) {a0 : Nat} {x2 : Int32} {x3 : Int32} {x4 : Int32} (ha0 : a0 = 43 ∨ a0 = 83) {σ : tzS} {Q : tzS → Prop} (h : vc_X0_fill a0 x2 x3 x4 σ Q) : tz_M G yX0_fill cX0_fill 8 (none) 1 24 [.ref a0, .ref 4, .int x2, .int x3, .int x4] σ (tz_Qv G Q) := by
  rcases ha0 with rfl | rfl
  · unfold vc_X0_fill at h
    refine tz_startv hG RX0 [(0, .ref 43), (1, .ref 4), (2, .int x2), (3, .int x3), (4, .int x4)] (by decide) rfl (Nat.le_of_ble_eq_true rfl) rfl (fun E C hret => ?_)
    refine tz_iload_n 2 2 C dX0_fill_0 rfl rfl ?_
    refine tz_iconst (-1) (by decide) C dX0_fill_1 ?_
    obtain ⟨K_1, hrK_1, h⟩ := h
    have hK_1 : ∀ (y_3 : Int32) (σ_2 : tzS), K_1 y_3 σ_2 → tz_V G E 18 [(0, .ref 43), (1, .ref 4), (2, .int x2), (3, .int x3), (4, .int x4)] [.int y_3] σ_2 := by
      intro y_3 σ_2 h
      replace h := hrK_1 y_3 σ_2 h
      refine tz_istore [(0, .ref 43), (1, .ref 4), (2, .int x2), (3, .int x3), (4, .int x4)] C dX0_fill_18 (Nat.le_of_ble_eq_true rfl) rfl h (fun x5_4 h => ?_)
      refine tz_iconst 0 (by decide) C dX0_fill_20 ?_
      refine tz_istore_k [(5, .int x5_4), (0, .ref 43), (1, .ref 4), (2, .int x2), (3, .int x3), (4, .int x4)] C dX0_fill_21 (Nat.le_of_ble_eq_true rfl) rfl ?_
      refine tz_sub (L := [(0, .ref 43), (1, .ref 4), (2, .int x2), (3, .int x3), (4, .int x4), (5, .int x5_4), (6, .int 0)]) ?_ [2, 3, 4, 5, 6, 1, 0] rfl
      refine tz_loop1_w (V := fun (x6_7 : Int32) (σ_6 : tzS) => tz_V G E 23 [(0, .ref 43), (1, .ref 4), (2, .int x2), (3, .int x3), (4, .int x4), (5, .int x5_4), (6, .int x6_7)] [] σ_6) h (fun ag_5 ihag_5 x6_7 σ_6 h => ?_)
      refine tz_iload 6 C dX0_fill_23 rfl ?_
      refine tz_iload 5 C dX0_fill_25 rfl ?_
      refine tz_icmp_ge 106 C dX0_fill_27 (by decide) h (fun c_8 h => ?_) (fun c_8 h => ?_)
      · exact hret _ _ _ dX0_fill_106 h
      · refine tz_aload_n 0 0 C dX0_fill_30 rfl rfl ?_
        refine tz_aload_n 1 1 C dX0_fill_31 rfl rfl ?_
        refine tz_getI C dX0_fill_32 fl_RX0_26 (by decide) rfl rfl ?_
        refine tz_callvv C dX0_fill_35 lk_RX0_29 (m_X0_startBlock G hG (by decide) h) (by decide) rfl rfl rfl rfl ⟨Nat.le_of_ble_eq_true rfl, Nat.le_of_ble_eq_true rfl⟩ (Nat.le_of_ble_eq_true rfl) rfl (fun σ_9 h => ?_)
        refine tz_iload 6 C dX0_fill_38 rfl ?_
        refine tz_istore_k [(0, .ref 43), (1, .ref 4), (2, .int x2), (3, .int x3), (4, .int x4), (5, .int x5_4), (6, .int x6_7)] C dX0_fill_40 (Nat.le_of_ble_eq_true rfl) rfl ?_
        refine tz_sub (L := [(0, .ref 43), (1, .ref 4), (2, .int x2), (3, .int x3), (4, .int x4), (5, .int x5_4), (6, .int x6_7), (7, .int x6_7)]) ?_ [1, 2, 3, 4, 5, 6, 7, 0] rfl
        refine tz_loop1_w (V := fun (x7_12 : Int32) (σ_11 : tzS) => tz_V G E 42 [(0, .ref 43), (1, .ref 4), (2, .int x2), (3, .int x3), (4, .int x4), (5, .int x5_4), (6, .int x6_7), (7, .int x7_12)] [] σ_11) h (fun ag_10 ihag_10 x7_12 σ_11 h => ?_)
        refine tz_iload 7 C dX0_fill_42 rfl ?_
        refine tz_iload 5 C dX0_fill_44 rfl ?_
        refine tz_icmp_ge 100 C dX0_fill_46 (by decide) h (fun c_13 h => ?_) (fun c_13 h => ?_)
        · refine tz_iinc 6 [(0, .ref 43), (1, .ref 4), (2, .int x2), (3, .int x3), (4, .int x4), (5, .int x5_4), (7, .int x7_12)] 1 C dX0_fill_100 (by decide) rfl (Nat.le_of_ble_eq_true rfl) rfl h (fun x6_14 h => ?_)
          refine tz_goto 23 C dX0_fill_103 (by decide) ?_
          exact tz_sub (ihag_5 _ _ h) [1, 2, 3, 4, 5, 6, 0] rfl
        · refine tz_aload_n 0 0 C dX0_fill_49 rfl rfl ?_
          refine tz_aload_n 1 1 C dX0_fill_50 rfl rfl ?_
          refine tz_iload_n 2 2 C dX0_fill_51 rfl rfl ?_
          refine tz_iconst (-1) (by decide) C dX0_fill_52 ?_
          refine tz_icmp_eq 62 C dX0_fill_53 (by decide) h (fun c_15 h => ?_) (fun c_15 h => ?_)
          · refine tz_iload 7 C dX0_fill_62 rfl ?_
            refine tz_goto 71 C dX0_fill_64 (by decide) ?_
            refine tz_callvv C dX0_fill_71 lk_RX0_33 (m_X0_addSentence G hG (by decide) h) (by decide) rfl rfl rfl rfl ⟨Nat.le_of_ble_eq_true rfl, Nat.le_of_ble_eq_true rfl⟩ (Nat.le_of_ble_eq_true rfl) rfl (fun σ_16 h => ?_)
            refine tz_aload_n 0 0 C dX0_fill_74 rfl rfl ?_
            refine tz_getR C dX0_fill_75 fl_RX0_11 (by decide) rfl rfl ?_
            refine tz_iload 6 C dX0_fill_78 rfl ?_
            obtain ⟨hin_17, h⟩ := h
            refine tz_aald C dX0_fill_80 (by decide) rfl hin_17 ?_
            refine tz_iload 7 C dX0_fill_81 rfl ?_
            refine tz_iconst 1 (by decide) C dX0_fill_83 ?_
            refine tz_iadd C dX0_fill_84 ?_
            refine tz_aload_n 0 0 C dX0_fill_85 rfl rfl ?_
            refine tz_iload_n 3 3 C dX0_fill_86 rfl rfl ?_
            refine tz_calliv C dX0_fill_87 lk_RX0_37 (m_X0_price G hG (by decide) h) (by decide) rfl rfl rfl rfl ⟨Nat.le_of_ble_eq_true rfl, Nat.le_of_ble_eq_true rfl⟩ (Nat.le_of_ble_eq_true rfl) rfl (fun r_19 σ_18 h => ?_)
            refine tz_iload 4 C dX0_fill_90 rfl ?_
            refine tz_iadd C dX0_fill_92 ?_
            have hin_21 := h.1
            refine tz_iast C dX0_fill_93 (tz_rowlt hin_17 (by decide)) (tz_rows hin_17 (by decide)) h (fun σ_20 h => ?_)
            refine tz_iinc 7 [(0, .ref 43), (1, .ref 4), (2, .int x2), (3, .int x3), (4, .int x4), (5, .int x5_4), (6, .int x6_7)] 1 C dX0_fill_94 (by decide) rfl (Nat.le_of_ble_eq_true rfl) rfl h (fun x7_22 h => ?_)
            refine tz_goto 42 C dX0_fill_97 (by decide) ?_
            exact tz_sub (ihag_10 _ _ h) [1, 2, 3, 4, 5, 6, 7, 0] rfl
          · refine tz_iload 7 C dX0_fill_56 rfl ?_
            refine tz_iload_n 2 2 C dX0_fill_58 rfl rfl ?_
            refine tz_icmp_ge 67 C dX0_fill_59 (by decide) h (fun c_23 h => ?_) (fun c_23 h => ?_)
            · refine tz_iload 7 C dX0_fill_67 rfl ?_
              refine tz_iconst 1 (by decide) C dX0_fill_69 ?_
              refine tz_iadd C dX0_fill_70 ?_
              refine tz_callvv C dX0_fill_71 lk_RX0_33 (m_X0_addSentence G hG (by decide) h) (by decide) rfl rfl rfl rfl ⟨Nat.le_of_ble_eq_true rfl, Nat.le_of_ble_eq_true rfl⟩ (Nat.le_of_ble_eq_true rfl) rfl (fun σ_24 h => ?_)
              refine tz_aload_n 0 0 C dX0_fill_74 rfl rfl ?_
              refine tz_getR C dX0_fill_75 fl_RX0_11 (by decide) rfl rfl ?_
              refine tz_iload 6 C dX0_fill_78 rfl ?_
              obtain ⟨hin_25, h⟩ := h
              refine tz_aald C dX0_fill_80 (by decide) rfl hin_25 ?_
              refine tz_iload 7 C dX0_fill_81 rfl ?_
              refine tz_iconst 1 (by decide) C dX0_fill_83 ?_
              refine tz_iadd C dX0_fill_84 ?_
              refine tz_aload_n 0 0 C dX0_fill_85 rfl rfl ?_
              refine tz_iload_n 3 3 C dX0_fill_86 rfl rfl ?_
              refine tz_calliv C dX0_fill_87 lk_RX0_37 (m_X0_price G hG (by decide) h) (by decide) rfl rfl rfl rfl ⟨Nat.le_of_ble_eq_true rfl, Nat.le_of_ble_eq_true rfl⟩ (Nat.le_of_ble_eq_true rfl) rfl (fun r_27 σ_26 h => ?_)
              refine tz_iload 4 C dX0_fill_90 rfl ?_
              refine tz_iadd C dX0_fill_92 ?_
              have hin_29 := h.1
              refine tz_iast C dX0_fill_93 (tz_rowlt hin_25 (by decide)) (tz_rows hin_25 (by decide)) h (fun σ_28 h => ?_)
              refine tz_iinc 7 [(0, .ref 43), (1, .ref 4), (2, .int x2), (3, .int x3), (4, .int x4), (5, .int x5_4), (6, .int x6_7)] 1 C dX0_fill_94 (by decide) rfl (Nat.le_of_ble_eq_true rfl) rfl h (fun x7_30 h => ?_)
              refine tz_goto 42 C dX0_fill_97 (by decide) ?_
              exact tz_sub (ihag_10 _ _ h) [1, 2, 3, 4, 5, 6, 7, 0] rfl
            · refine tz_iload 7 C dX0_fill_62 rfl ?_
              refine tz_goto 71 C dX0_fill_64 (by decide) ?_
              refine tz_callvv C dX0_fill_71 lk_RX0_33 (m_X0_addSentence G hG (by decide) h) (by decide) rfl rfl rfl rfl ⟨Nat.le_of_ble_eq_true rfl, Nat.le_of_ble_eq_true rfl⟩ (Nat.le_of_ble_eq_true rfl) rfl (fun σ_31 h => ?_)
              refine tz_aload_n 0 0 C dX0_fill_74 rfl rfl ?_
              refine tz_getR C dX0_fill_75 fl_RX0_11 (by decide) rfl rfl ?_
              refine tz_iload 6 C dX0_fill_78 rfl ?_
              obtain ⟨hin_32, h⟩ := h
              refine tz_aald C dX0_fill_80 (by decide) rfl hin_32 ?_
              refine tz_iload 7 C dX0_fill_81 rfl ?_
              refine tz_iconst 1 (by decide) C dX0_fill_83 ?_
              refine tz_iadd C dX0_fill_84 ?_
              refine tz_aload_n 0 0 C dX0_fill_85 rfl rfl ?_
              refine tz_iload_n 3 3 C dX0_fill_86 rfl rfl ?_
              refine tz_calliv C dX0_fill_87 lk_RX0_37 (m_X0_price G hG (by decide) h) (by decide) rfl rfl rfl rfl ⟨Nat.le_of_ble_eq_true rfl, Nat.le_of_ble_eq_true rfl⟩ (Nat.le_of_ble_eq_true rfl) rfl (fun r_34 σ_33 h => ?_)
              refine tz_iload 4 C dX0_fill_90 rfl ?_
              refine tz_iadd C dX0_fill_92 ?_
              have hin_36 := h.1
              refine tz_iast C dX0_fill_93 (tz_rowlt hin_32 (by decide)) (tz_rows hin_32 (by decide)) h (fun σ_35 h => ?_)
              refine tz_iinc 7 [(0, .ref 43), (1, .ref 4), (2, .int x2), (3, .int x3), (4, .int x4), (5, .int x5_4), (6, .int x6_7)] 1 C dX0_fill_94 (by decide) rfl (Nat.le_of_ble_eq_true rfl) rfl h (fun x7_37 h => ?_)
              refine tz_goto 42 C dX0_fill_97 (by decide) ?_
              exact tz_sub (ihag_10 _ _ h) [1, 2, 3, 4, 5, 6, 7, 0] rfl
    refine tz_icmp_ne 12 C dX0_fill_2 (by decide) h (fun c_38 h => ?_) (fun c_38 h => ?_)
    · refine tz_aload_n 1 1 C dX0_fill_12 rfl rfl ?_
      refine tz_getI C dX0_fill_13 fl_RX0_20 (by decide) rfl rfl ?_
      refine tz_iconst 1 (by decide) C dX0_fill_16 ?_
      refine tz_isub C dX0_fill_17 ?_
      exact tz_sub (hK_1 _ _ h) [0, 1, 2, 3, 4] rfl
    · refine tz_aload_n 1 1 C dX0_fill_5 rfl rfl ?_
      refine tz_getI C dX0_fill_6 fl_RX0_20 (by decide) rfl rfl ?_
      refine tz_goto 18 C dX0_fill_9 (by decide) ?_
      exact tz_sub (hK_1 _ _ h) [0, 1, 2, 3, 4] rfl
  · unfold vc_X0_fill at h
    refine tz_startv hG RX0 [(0, .ref 83), (1, .ref 4), (2, .int x2), (3, .int x3), (4, .int x4)] (by decide) rfl (Nat.le_of_ble_eq_true rfl) rfl (fun E C hret => ?_)
    refine tz_iload_n 2 2 C dX0_fill_0 rfl rfl ?_
    refine tz_iconst (-1) (by decide) C dX0_fill_1 ?_
    obtain ⟨K_1, hrK_1, h⟩ := h
    have hK_1 : ∀ (y_3 : Int32) (σ_2 : tzS), K_1 y_3 σ_2 → tz_V G E 18 [(0, .ref 83), (1, .ref 4), (2, .int x2), (3, .int x3), (4, .int x4)] [.int y_3] σ_2 := by
      intro y_3 σ_2 h
      replace h := hrK_1 y_3 σ_2 h
      refine tz_istore [(0, .ref 83), (1, .ref 4), (2, .int x2), (3, .int x3), (4, .int x4)] C dX0_fill_18 (Nat.le_of_ble_eq_true rfl) rfl h (fun x5_4 h => ?_)
      refine tz_iconst 0 (by decide) C dX0_fill_20 ?_
      refine tz_istore_k [(5, .int x5_4), (0, .ref 83), (1, .ref 4), (2, .int x2), (3, .int x3), (4, .int x4)] C dX0_fill_21 (Nat.le_of_ble_eq_true rfl) rfl ?_
      refine tz_sub (L := [(0, .ref 83), (1, .ref 4), (2, .int x2), (3, .int x3), (4, .int x4), (5, .int x5_4), (6, .int 0)]) ?_ [2, 3, 4, 5, 6, 1, 0] rfl
      refine tz_loop1_w (V := fun (x6_7 : Int32) (σ_6 : tzS) => tz_V G E 23 [(0, .ref 83), (1, .ref 4), (2, .int x2), (3, .int x3), (4, .int x4), (5, .int x5_4), (6, .int x6_7)] [] σ_6) h (fun ag_5 ihag_5 x6_7 σ_6 h => ?_)
      refine tz_iload 6 C dX0_fill_23 rfl ?_
      refine tz_iload 5 C dX0_fill_25 rfl ?_
      refine tz_icmp_ge 106 C dX0_fill_27 (by decide) h (fun c_8 h => ?_) (fun c_8 h => ?_)
      · exact hret _ _ _ dX0_fill_106 h
      · refine tz_aload_n 0 0 C dX0_fill_30 rfl rfl ?_
        refine tz_aload_n 1 1 C dX0_fill_31 rfl rfl ?_
        refine tz_getI C dX0_fill_32 fl_RX0_26 (by decide) rfl rfl ?_
        refine tz_callvv C dX0_fill_35 lk_RX0_29 (m_X0_startBlock G hG (by decide) h) (by decide) rfl rfl rfl rfl ⟨Nat.le_of_ble_eq_true rfl, Nat.le_of_ble_eq_true rfl⟩ (Nat.le_of_ble_eq_true rfl) rfl (fun σ_9 h => ?_)
        refine tz_iload 6 C dX0_fill_38 rfl ?_
        refine tz_istore_k [(0, .ref 83), (1, .ref 4), (2, .int x2), (3, .int x3), (4, .int x4), (5, .int x5_4), (6, .int x6_7)] C dX0_fill_40 (Nat.le_of_ble_eq_true rfl) rfl ?_
        refine tz_sub (L := [(0, .ref 83), (1, .ref 4), (2, .int x2), (3, .int x3), (4, .int x4), (5, .int x5_4), (6, .int x6_7), (7, .int x6_7)]) ?_ [1, 2, 3, 4, 5, 6, 7, 0] rfl
        refine tz_loop1_w (V := fun (x7_12 : Int32) (σ_11 : tzS) => tz_V G E 42 [(0, .ref 83), (1, .ref 4), (2, .int x2), (3, .int x3), (4, .int x4), (5, .int x5_4), (6, .int x6_7), (7, .int x7_12)] [] σ_11) h (fun ag_10 ihag_10 x7_12 σ_11 h => ?_)
        refine tz_iload 7 C dX0_fill_42 rfl ?_
        refine tz_iload 5 C dX0_fill_44 rfl ?_
        refine tz_icmp_ge 100 C dX0_fill_46 (by decide) h (fun c_13 h => ?_) (fun c_13 h => ?_)
        · refine tz_iinc 6 [(0, .ref 83), (1, .ref 4), (2, .int x2), (3, .int x3), (4, .int x4), (5, .int x5_4), (7, .int x7_12)] 1 C dX0_fill_100 (by decide) rfl (Nat.le_of_ble_eq_true rfl) rfl h (fun x6_14 h => ?_)
          refine tz_goto 23 C dX0_fill_103 (by decide) ?_
          exact tz_sub (ihag_5 _ _ h) [1, 2, 3, 4, 5, 6, 0] rfl
        · refine tz_aload_n 0 0 C dX0_fill_49 rfl rfl ?_
          refine tz_aload_n 1 1 C dX0_fill_50 rfl rfl ?_
          refine tz_iload_n 2 2 C dX0_fill_51 rfl rfl ?_
          refine tz_iconst (-1) (by decide) C dX0_fill_52 ?_
          refine tz_icmp_eq 62 C dX0_fill_53 (by decide) h (fun c_15 h => ?_) (fun c_15 h => ?_)
          · refine tz_iload 7 C dX0_fill_62 rfl ?_
            refine tz_goto 71 C dX0_fill_64 (by decide) ?_
            refine tz_callvv C dX0_fill_71 lk_RX0_33 (m_X0_addSentence G hG (by decide) h) (by decide) rfl rfl rfl rfl ⟨Nat.le_of_ble_eq_true rfl, Nat.le_of_ble_eq_true rfl⟩ (Nat.le_of_ble_eq_true rfl) rfl (fun σ_16 h => ?_)
            refine tz_aload_n 0 0 C dX0_fill_74 rfl rfl ?_
            refine tz_getR C dX0_fill_75 fl_RX0_11 (by decide) rfl rfl ?_
            refine tz_iload 6 C dX0_fill_78 rfl ?_
            obtain ⟨hin_17, h⟩ := h
            refine tz_aald C dX0_fill_80 (by decide) rfl hin_17 ?_
            refine tz_iload 7 C dX0_fill_81 rfl ?_
            refine tz_iconst 1 (by decide) C dX0_fill_83 ?_
            refine tz_iadd C dX0_fill_84 ?_
            refine tz_aload_n 0 0 C dX0_fill_85 rfl rfl ?_
            refine tz_iload_n 3 3 C dX0_fill_86 rfl rfl ?_
            refine tz_calliv C dX0_fill_87 lk_RX0_37 (m_X0_price G hG (by decide) h) (by decide) rfl rfl rfl rfl ⟨Nat.le_of_ble_eq_true rfl, Nat.le_of_ble_eq_true rfl⟩ (Nat.le_of_ble_eq_true rfl) rfl (fun r_19 σ_18 h => ?_)
            refine tz_iload 4 C dX0_fill_90 rfl ?_
            refine tz_iadd C dX0_fill_92 ?_
            have hin_21 := h.1
            refine tz_iast C dX0_fill_93 (tz_rowlt hin_17 (by decide)) (tz_rows hin_17 (by decide)) h (fun σ_20 h => ?_)
            refine tz_iinc 7 [(0, .ref 83), (1, .ref 4), (2, .int x2), (3, .int x3), (4, .int x4), (5, .int x5_4), (6, .int x6_7)] 1 C dX0_fill_94 (by decide) rfl (Nat.le_of_ble_eq_true rfl) rfl h (fun x7_22 h => ?_)
            refine tz_goto 42 C dX0_fill_97 (by decide) ?_
            exact tz_sub (ihag_10 _ _ h) [1, 2, 3, 4, 5, 6, 7, 0] rfl
          · refine tz_iload 7 C dX0_fill_56 rfl ?_
            refine tz_iload_n 2 2 C dX0_fill_58 rfl rfl ?_
            refine tz_icmp_ge 67 C dX0_fill_59 (by decide) h (fun c_23 h => ?_) (fun c_23 h => ?_)
            · refine tz_iload 7 C dX0_fill_67 rfl ?_
              refine tz_iconst 1 (by decide) C dX0_fill_69 ?_
              refine tz_iadd C dX0_fill_70 ?_
              refine tz_callvv C dX0_fill_71 lk_RX0_33 (m_X0_addSentence G hG (by decide) h) (by decide) rfl rfl rfl rfl ⟨Nat.le_of_ble_eq_true rfl, Nat.le_of_ble_eq_true rfl⟩ (Nat.le_of_ble_eq_true rfl) rfl (fun σ_24 h => ?_)
              refine tz_aload_n 0 0 C dX0_fill_74 rfl rfl ?_
              refine tz_getR C dX0_fill_75 fl_RX0_11 (by decide) rfl rfl ?_
              refine tz_iload 6 C dX0_fill_78 rfl ?_
              obtain ⟨hin_25, h⟩ := h
              refine tz_aald C dX0_fill_80 (by decide) rfl hin_25 ?_
              refine tz_iload 7 C dX0_fill_81 rfl ?_
              refine tz_iconst 1 (by decide) C dX0_fill_83 ?_
              refine tz_iadd C dX0_fill_84 ?_
              refine tz_aload_n 0 0 C dX0_fill_85 rfl rfl ?_
              refine tz_iload_n 3 3 C dX0_fill_86 rfl rfl ?_
              refine tz_calliv C dX0_fill_87 lk_RX0_37 (m_X0_price G hG (by decide) h) (by decide) rfl rfl rfl rfl ⟨Nat.le_of_ble_eq_true rfl, Nat.le_of_ble_eq_true rfl⟩ (Nat.le_of_ble_eq_true rfl) rfl (fun r_27 σ_26 h => ?_)
              refine tz_iload 4 C dX0_fill_90 rfl ?_
              refine tz_iadd C dX0_fill_92 ?_
              have hin_29 := h.1
              refine tz_iast C dX0_fill_93 (tz_rowlt hin_25 (by decide)) (tz_rows hin_25 (by decide)) h (fun σ_28 h => ?_)
              refine tz_iinc 7 [(0, .ref 83), (1, .ref 4), (2, .int x2), (3, .int x3), (4, .int x4), (5, .int x5_4), (6, .int x6_7)] 1 C dX0_fill_94 (by decide) rfl (Nat.le_of_ble_eq_true rfl) rfl h (fun x7_30 h => ?_)
              refine tz_goto 42 C dX0_fill_97 (by decide) ?_
              exact tz_sub (ihag_10 _ _ h) [1, 2, 3, 4, 5, 6, 7, 0] rfl
            · refine tz_iload 7 C dX0_fill_62 rfl ?_
              refine tz_goto 71 C dX0_fill_64 (by decide) ?_
              refine tz_callvv C dX0_fill_71 lk_RX0_33 (m_X0_addSentence G hG (by decide) h) (by decide) rfl rfl rfl rfl ⟨Nat.le_of_ble_eq_true rfl, Nat.le_of_ble_eq_true rfl⟩ (Nat.le_of_ble_eq_true rfl) rfl (fun σ_31 h => ?_)
              refine tz_aload_n 0 0 C dX0_fill_74 rfl rfl ?_
              refine tz_getR C dX0_fill_75 fl_RX0_11 (by decide) rfl rfl ?_
              refine tz_iload 6 C dX0_fill_78 rfl ?_
              obtain ⟨hin_32, h⟩ := h
              refine tz_aald C dX0_fill_80 (by decide) rfl hin_32 ?_
              refine tz_iload 7 C dX0_fill_81 rfl ?_
              refine tz_iconst 1 (by decide) C dX0_fill_83 ?_
              refine tz_iadd C dX0_fill_84 ?_
              refine tz_aload_n 0 0 C dX0_fill_85 rfl rfl ?_
              refine tz_iload_n 3 3 C dX0_fill_86 rfl rfl ?_
              refine tz_calliv C dX0_fill_87 lk_RX0_37 (m_X0_price G hG (by decide) h) (by decide) rfl rfl rfl rfl ⟨Nat.le_of_ble_eq_true rfl, Nat.le_of_ble_eq_true rfl⟩ (Nat.le_of_ble_eq_true rfl) rfl (fun r_34 σ_33 h => ?_)
              refine tz_iload 4 C dX0_fill_90 rfl ?_
              refine tz_iadd C dX0_fill_92 ?_
              have hin_36 := h.1
              refine tz_iast C dX0_fill_93 (tz_rowlt hin_32 (by decide)) (tz_rows hin_32 (by decide)) h (fun σ_35 h => ?_)
              refine tz_iinc 7 [(0, .ref 83), (1, .ref 4), (2, .int x2), (3, .int x3), (4, .int x4), (5, .int x5_4), (6, .int x6_7)] 1 C dX0_fill_94 (by decide) rfl (Nat.le_of_ble_eq_true rfl) rfl h (fun x7_37 h => ?_)
              refine tz_goto 42 C dX0_fill_97 (by decide) ?_
              exact tz_sub (ihag_10 _ _ h) [1, 2, 3, 4, 5, 6, 7, 0] rfl
    refine tz_icmp_ne 12 C dX0_fill_2 (by decide) h (fun c_38 h => ?_) (fun c_38 h => ?_)
    · refine tz_aload_n 1 1 C dX0_fill_12 rfl rfl ?_
      refine tz_getI C dX0_fill_13 fl_RX0_20 (by decide) rfl rfl ?_
      refine tz_iconst 1 (by decide) C dX0_fill_16 ?_
      refine tz_isub C dX0_fill_17 ?_
      exact tz_sub (hK_1 _ _ h) [0, 1, 2, 3, 4] rfl
    · refine tz_aload_n 1 1 C dX0_fill_5 rfl rfl ?_
      refine tz_getI C dX0_fill_6 fl_RX0_20 (by decide) rfl rfl ?_
      refine tz_goto 18 C dX0_fill_9 (by decide) ?_
      exact tz_sub (hK_1 _ _ h) [0, 1, 2, 3, 4] rfl

def vc_X1_keep (x1 : Int32) (x2 : Int32) (x3 : Int32) (x4 : Int32) (σ : tzS) (Q : tzS → Prop) : Prop :=
  (x4 < 2 →
    Q σ) ∧
  (¬ x4 < 2 →
    ((σ.1 38 0) < 100 →
      vp_in (σ.1 38 0) 100 ∧ (
        ∀ σ_3 : tzS, σ_3 = tz_st σ 39 (σ.1 38 0).toNatClampNeg x1 →
        vp_in (σ_3.1 38 0) 100 ∧ (
          ∀ σ_5 : tzS, σ_5 = tz_st σ_3 40 (σ_3.1 38 0).toNatClampNeg x2 →
          vp_in (σ_5.1 38 0) 100 ∧ (
            ∀ σ_7 : tzS, σ_7 = tz_st σ_5 41 (σ_5.1 38 0).toNatClampNeg x3 →
            vp_in (σ_7.1 38 0) 100 ∧ (
              ∀ σ_9 : tzS, σ_9 = tz_st σ_7 42 (σ_7.1 38 0).toNatClampNeg x4 →
              ∀ σ_11 : tzS, σ_11 = tz_st σ_9 38 0 ((σ_9.1 38 0) + 1) →
              Q σ_11))))) ∧
    (¬ (σ.1 38 0) < 100 →
      Q σ))
set_option maxRecDepth 20000 in
set_option maxHeartbeats 4000000 in
theorem m_X1_keep (G : tzG) (hG : tz_ok G) {x1 : Int32} {x2 : Int32} {x3 : Int32} {x4 : Int32}  {σ : tzS} {Q : tzS → Prop} (h : vc_X1_keep x1 x2 x3 x4 σ Q) : tz_M G yX1_keep cX1_keep 5 (none) 0 0 [.ref 38, .int x1, .int x2, .int x3, .int x4] σ (tz_Qv G Q) := by
  unfold vc_X1_keep at h
  refine tz_startv hG RX1 [(0, .ref 38), (1, .int x1), (2, .int x2), (3, .int x3), (4, .int x4)] (by decide) rfl (Nat.le_of_ble_eq_true rfl) rfl (fun E C hret => ?_)
  refine tz_iload 4 C dX1_keep_0 rfl ?_
  refine tz_iconst 2 (by decide) C dX1_keep_2 ?_
  refine tz_icmp_lt 15 C dX1_keep_3 (by decide) h (fun c_1 h => ?_) (fun c_1 h => ?_)
  · exact hret _ _ _ dX1_keep_15 h
  · refine tz_aload_n 0 0 C dX1_keep_6 rfl rfl ?_
    refine tz_getI C dX1_keep_7 fl_RX1_9 (by decide) rfl rfl ?_
    refine tz_bipush 100 (by decide) C dX1_keep_10 ?_
    refine tz_icmp_lt 16 C dX1_keep_12 (by decide) h (fun c_2 h => ?_) (fun c_2 h => ?_)
    · refine tz_aload_n 0 0 C dX1_keep_16 rfl rfl ?_
      refine tz_getR C dX1_keep_17 fl_RX1_15 (by decide) rfl rfl ?_
      refine tz_aload_n 0 0 C dX1_keep_20 rfl rfl ?_
      refine tz_getI C dX1_keep_21 fl_RX1_9 (by decide) rfl rfl ?_
      refine tz_iload_n 1 1 C dX1_keep_24 rfl rfl ?_
      have hin_4 := h.1
      refine tz_iast C dX1_keep_25 (by decide) rfl h (fun σ_3 h => ?_)
      refine tz_aload_n 0 0 C dX1_keep_26 rfl rfl ?_
      refine tz_getR C dX1_keep_27 fl_RX1_19 (by decide) rfl rfl ?_
      refine tz_aload_n 0 0 C dX1_keep_30 rfl rfl ?_
      refine tz_getI C dX1_keep_31 fl_RX1_9 (by decide) rfl rfl ?_
      refine tz_iload_n 2 2 C dX1_keep_34 rfl rfl ?_
      have hin_6 := h.1
      refine tz_iast C dX1_keep_35 (by decide) rfl h (fun σ_5 h => ?_)
      refine tz_aload_n 0 0 C dX1_keep_36 rfl rfl ?_
      refine tz_getR C dX1_keep_37 fl_RX1_22 (by decide) rfl rfl ?_
      refine tz_aload_n 0 0 C dX1_keep_40 rfl rfl ?_
      refine tz_getI C dX1_keep_41 fl_RX1_9 (by decide) rfl rfl ?_
      refine tz_iload_n 3 3 C dX1_keep_44 rfl rfl ?_
      have hin_8 := h.1
      refine tz_iast C dX1_keep_45 (by decide) rfl h (fun σ_7 h => ?_)
      refine tz_aload_n 0 0 C dX1_keep_46 rfl rfl ?_
      refine tz_getR C dX1_keep_47 fl_RX1_25 (by decide) rfl rfl ?_
      refine tz_aload_n 0 0 C dX1_keep_50 rfl rfl ?_
      refine tz_getI C dX1_keep_51 fl_RX1_9 (by decide) rfl rfl ?_
      refine tz_iload 4 C dX1_keep_54 rfl ?_
      have hin_10 := h.1
      refine tz_iast C dX1_keep_56 (by decide) rfl h (fun σ_9 h => ?_)
      refine tz_aload_n 0 0 C dX1_keep_57 rfl rfl ?_
      refine tz_dup C dX1_keep_58 rfl ?_
      refine tz_getI C dX1_keep_59 fl_RX1_9 (by decide) rfl rfl ?_
      refine tz_iconst 1 (by decide) C dX1_keep_62 ?_
      refine tz_iadd C dX1_keep_63 ?_
      refine tz_put C dX1_keep_64 fp_RX1_9 (by decide) rfl rfl rfl rfl h (fun σ_11 h => ?_)
      exact hret _ _ _ dX1_keep_67 h
    · exact hret _ _ _ dX1_keep_15 h

def vc_X1_linkStem (x2 : Int32) (x3 : Int32) (σ : tzS) (Q : tzS → Prop) : Prop :=
  vp_in x2 108 ∧ (
    ∀ x4_2 : Int32, x4_2 = (σ.1 35 x2.toNatClampNeg) →
    tz_loop4 (fun (x4_5 : Int32) (x5_6 : Int32) (x6_7 : Int32) (x7_8 : Int32) (σ_4 : tzS) (ag_3 : Int32 → Int32 → Int32 → Int32 → tzS → Prop) =>
      ((σ_4.1 36 x2.toNatClampNeg) < x7_8 →
        vc_X1_keep x2 x4_5 x5_6 x6_7 σ_4 (fun (σ_10 : tzS) =>
          Q σ_10)) ∧
      (¬ (σ_4.1 36 x2.toNatClampNeg) < x7_8 →
        vp_in x7_8 12 ∧ (
          ∀ x8_12 : Int32, x8_12 = (σ_4.1 (21 + x7_8.toNatClampNeg) x2.toNatClampNeg) →
          (¬ x8_12 = 0 →
            ((x7_8 - x5_6) ≤ x3 →
              ∀ x6_15 : Int32, x6_15 = (x6_7 + x8_12) →
              ∀ x7_16 : Int32, x7_16 = x7_8 + 1 →
              ag_3 x4_5 x7_8 x6_15 x7_16 σ_4) ∧
            (¬ (x7_8 - x5_6) ≤ x3 →
              vc_X1_keep x2 x4_5 x5_6 x6_7 σ_4 (fun (σ_17 : tzS) =>
                ∀ x6_18 : Int32, x6_18 = (0 + x8_12) →
                ∀ x7_19 : Int32, x7_19 = x7_8 + 1 →
                ag_3 x7_8 x7_8 x6_18 x7_19 σ_17))) ∧
          (x8_12 = 0 →
            ∀ x7_20 : Int32, x7_20 = x7_8 + 1 →
            ag_3 x4_5 x5_6 x6_7 x7_20 σ_4)))) x4_2 x4_2 (0 : Int32) x4_2 σ)
set_option maxRecDepth 20000 in
set_option maxHeartbeats 4000000 in
theorem m_X1_linkStem (G : tzG) (hG : tz_ok G) {x2 : Int32} {x3 : Int32}  {σ : tzS} {Q : tzS → Prop} (h : vc_X1_linkStem x2 x3 σ Q) : tz_M G yX1_linkStem cX1_linkStem 9 (none) 1 24 [.ref 38, .ref 4, .int x2, .int x3] σ (tz_Qv G Q) := by
  unfold vc_X1_linkStem at h
  refine tz_startv hG RX1 [(0, .ref 38), (1, .ref 4), (2, .int x2), (3, .int x3)] (by decide) rfl (Nat.le_of_ble_eq_true rfl) rfl (fun E C hret => ?_)
  refine tz_aload_n 1 1 C dX1_linkStem_0 rfl rfl ?_
  refine tz_getR C dX1_linkStem_1 fl_RX1_37 (by decide) rfl rfl ?_
  refine tz_iload_n 2 2 C dX1_linkStem_4 rfl rfl ?_
  obtain ⟨hin_1, h⟩ := h
  refine tz_iald C dX1_linkStem_5 (by decide) rfl hin_1 ?_
  refine tz_istore [(0, .ref 38), (1, .ref 4), (2, .int x2), (3, .int x3)] C dX1_linkStem_6 (Nat.le_of_ble_eq_true rfl) rfl h (fun x4_2 h => ?_)
  refine tz_iload 0 C dX1_linkStem_8 rfl ?_
  refine tz_istore_k [(4, .int x4_2), (0, .ref 38), (1, .ref 4), (2, .int x2), (3, .int x3)] C dX1_linkStem_10 (Nat.le_of_ble_eq_true rfl) rfl ?_
  refine tz_iconst 0 (by decide) C dX1_linkStem_12 ?_
  refine tz_istore_k [(5, .int x4_2), (4, .int x4_2), (0, .ref 38), (1, .ref 4), (2, .int x2), (3, .int x3)] C dX1_linkStem_13 (Nat.le_of_ble_eq_true rfl) rfl ?_
  refine tz_iload 2 C dX1_linkStem_15 rfl ?_
  refine tz_istore_k [(6, .int 0), (5, .int x4_2), (4, .int x4_2), (0, .ref 38), (1, .ref 4), (2, .int x2), (3, .int x3)] C dX1_linkStem_17 (Nat.le_of_ble_eq_true rfl) rfl ?_
  refine tz_sub (L := [(0, .ref 38), (1, .ref 4), (2, .int x2), (3, .int x3), (4, .int x4_2), (5, .int x4_2), (6, .int 0), (7, .int x4_2)]) ?_ [4, 5, 6, 7, 3, 2, 1, 0] rfl
  refine tz_loop4_w (V := fun (x4_5 : Int32) (x5_6 : Int32) (x6_7 : Int32) (x7_8 : Int32) (σ_4 : tzS) => tz_V G E 19 [(0, .ref 38), (1, .ref 4), (2, .int x2), (3, .int x3), (4, .int x4_5), (5, .int x5_6), (6, .int x6_7), (7, .int x7_8)] [] σ_4) h (fun ag_3 ihag_3 x4_5 x5_6 x6_7 x7_8 σ_4 h => ?_)
  refine tz_iload 7 C dX1_linkStem_19 rfl ?_
  refine tz_aload_n 1 1 C dX1_linkStem_21 rfl rfl ?_
  refine tz_getR C dX1_linkStem_22 fl_RX1_38 (by decide) rfl rfl ?_
  refine tz_iload_n 2 2 C dX1_linkStem_25 rfl rfl ?_
  refine tz_iald C dX1_linkStem_26 (by decide) rfl hin_1 ?_
  refine tz_icmp_gt 93 C dX1_linkStem_27 (by decide) h (fun c_9 h => ?_) (fun c_9 h => ?_)
  · refine tz_aload_n 0 0 C dX1_linkStem_93 rfl rfl ?_
    refine tz_iload_n 2 2 C dX1_linkStem_94 rfl rfl ?_
    refine tz_iload 4 C dX1_linkStem_95 rfl ?_
    refine tz_iload 5 C dX1_linkStem_97 rfl ?_
    refine tz_iload 6 C dX1_linkStem_99 rfl ?_
    refine tz_callvv C dX1_linkStem_101 lk_RX1_43 (m_X1_keep G hG  h) (by decide) rfl rfl rfl rfl ⟨Nat.le_of_ble_eq_true rfl, Nat.le_of_ble_eq_true rfl⟩ (Nat.le_of_ble_eq_true rfl) rfl (fun σ_10 h => ?_)
    exact hret _ _ _ dX1_linkStem_104 h
  · refine tz_aload_n 1 1 C dX1_linkStem_30 rfl rfl ?_
    refine tz_getR C dX1_linkStem_31 fl_RX1_39 (by decide) rfl rfl ?_
    refine tz_iload 7 C dX1_linkStem_34 rfl ?_
    obtain ⟨hin_11, h⟩ := h
    refine tz_aald C dX1_linkStem_36 (by decide) rfl hin_11 ?_
    refine tz_iload_n 2 2 C dX1_linkStem_37 rfl rfl ?_
    refine tz_iald C dX1_linkStem_38 (tz_rowlt hin_11 (by decide)) (tz_rows hin_11 (by decide)) hin_1 ?_
    refine tz_istore [(0, .ref 38), (1, .ref 4), (2, .int x2), (3, .int x3), (4, .int x4_5), (5, .int x5_6), (6, .int x6_7), (7, .int x7_8)] C dX1_linkStem_39 (Nat.le_of_ble_eq_true rfl) rfl h (fun x8_12 h => ?_)
    refine tz_iload 0 C dX1_linkStem_41 rfl ?_
    refine tz_if_ne 49 C dX1_linkStem_43 (by decide) h (fun c_13 h => ?_) (fun c_13 h => ?_)
    · refine tz_iload 8 C dX1_linkStem_49 rfl ?_
      refine tz_iload 6 C dX1_linkStem_51 rfl ?_
      refine tz_isub C dX1_linkStem_53 ?_
      refine tz_iload_n 3 4 C dX1_linkStem_54 rfl rfl ?_
      refine tz_icmp_le 76 C dX1_linkStem_55 (by decide) h (fun c_14 h => ?_) (fun c_14 h => ?_)
      · refine tz_iload 8 C dX1_linkStem_76 rfl ?_
        refine tz_istore_k [(8, .int x8_12), (0, .ref 38), (1, .ref 4), (2, .int x2), (3, .int x3), (4, .int x4_5), (6, .int x6_7), (7, .int x7_8)] C dX1_linkStem_78 (Nat.le_of_ble_eq_true rfl) rfl ?_
        refine tz_iload 7 C dX1_linkStem_80 rfl ?_
        refine tz_iload 1 C dX1_linkStem_82 rfl ?_
        refine tz_iadd C dX1_linkStem_84 ?_
        refine tz_istore [(5, .int x7_8), (8, .int x8_12), (0, .ref 38), (1, .ref 4), (2, .int x2), (3, .int x3), (4, .int x4_5), (7, .int x7_8)] C dX1_linkStem_85 (Nat.le_of_ble_eq_true rfl) rfl h (fun x6_15 h => ?_)
        refine tz_iinc 8 [(6, .int x6_15), (5, .int x7_8), (8, .int x8_12), (0, .ref 38), (1, .ref 4), (2, .int x2), (3, .int x3), (4, .int x4_5)] 1 C dX1_linkStem_87 (by decide) rfl (Nat.le_of_ble_eq_true rfl) rfl h (fun x7_16 h => ?_)
        refine tz_goto 19 C dX1_linkStem_90 (by decide) ?_
        exact tz_sub (ihag_3 _ _ _ _ _ h) [4, 5, 6, 7, 8, 2, 1, 0] rfl
      · refine tz_aload_n 0 1 C dX1_linkStem_58 rfl rfl ?_
        refine tz_iload_n 2 3 C dX1_linkStem_59 rfl rfl ?_
        refine tz_iload 5 C dX1_linkStem_60 rfl ?_
        refine tz_iload 6 C dX1_linkStem_62 rfl ?_
        refine tz_iload 7 C dX1_linkStem_64 rfl ?_
        refine tz_callvv C dX1_linkStem_66 lk_RX1_43 (m_X1_keep G hG  h) (by decide) rfl rfl rfl rfl ⟨Nat.le_of_ble_eq_true rfl, Nat.le_of_ble_eq_true rfl⟩ (Nat.le_of_ble_eq_true rfl) rfl (fun σ_17 h => ?_)
        refine tz_iload 8 C dX1_linkStem_69 rfl ?_
        refine tz_istore_k [(8, .int x8_12), (0, .ref 38), (1, .ref 4), (2, .int x2), (3, .int x3), (5, .int x5_6), (6, .int x6_7), (7, .int x7_8)] C dX1_linkStem_71 (Nat.le_of_ble_eq_true rfl) rfl ?_
        refine tz_iconst 0 (by decide) C dX1_linkStem_73 ?_
        refine tz_istore_k [(4, .int x7_8), (8, .int x8_12), (0, .ref 38), (1, .ref 4), (2, .int x2), (3, .int x3), (5, .int x5_6), (7, .int x7_8)] C dX1_linkStem_74 (Nat.le_of_ble_eq_true rfl) rfl ?_
        refine tz_iload 8 C dX1_linkStem_76 rfl ?_
        refine tz_istore_k [(6, .int 0), (4, .int x7_8), (8, .int x8_12), (0, .ref 38), (1, .ref 4), (2, .int x2), (3, .int x3), (7, .int x7_8)] C dX1_linkStem_78 (Nat.le_of_ble_eq_true rfl) rfl ?_
        refine tz_iload 1 C dX1_linkStem_80 rfl ?_
        refine tz_iload 3 C dX1_linkStem_82 rfl ?_
        refine tz_iadd C dX1_linkStem_84 ?_
        refine tz_istore [(5, .int x7_8), (4, .int x7_8), (8, .int x8_12), (0, .ref 38), (1, .ref 4), (2, .int x2), (3, .int x3), (7, .int x7_8)] C dX1_linkStem_85 (Nat.le_of_ble_eq_true rfl) rfl h (fun x6_18 h => ?_)
        refine tz_iinc 8 [(6, .int x6_18), (5, .int x7_8), (4, .int x7_8), (8, .int x8_12), (0, .ref 38), (1, .ref 4), (2, .int x2), (3, .int x3)] 1 C dX1_linkStem_87 (by decide) rfl (Nat.le_of_ble_eq_true rfl) rfl h (fun x7_19 h => ?_)
        refine tz_goto 19 C dX1_linkStem_90 (by decide) ?_
        exact tz_sub (ihag_3 _ _ _ _ _ h) [5, 6, 7, 8, 3, 2, 1, 0] rfl
    · refine tz_goto 87 C dX1_linkStem_46 (by decide) ?_
      refine tz_iinc 8 [(8, .int x8_12), (0, .ref 38), (1, .ref 4), (2, .int x2), (3, .int x3), (4, .int x4_5), (5, .int x5_6), (6, .int x6_7)] 1 C dX1_linkStem_87 (by decide) rfl (Nat.le_of_ble_eq_true rfl) rfl h (fun x7_20 h => ?_)
      refine tz_goto 19 C dX1_linkStem_90 (by decide) ?_
      exact tz_sub (ihag_3 _ _ _ _ _ h) [2, 3, 4, 5, 6, 7, 8, 0] rfl

def vc_X1_fill (x2 : Int32) (σ : tzS) (Q : tzS → Prop) : Prop :=
  ∀ σ_1 : tzS, σ_1 = tz_st σ 38 0 0 →
  tz_loop1 (fun (x3_4 : Int32) (σ_3 : tzS) (ag_2 : Int32 → tzS → Prop) =>
    ((σ_3.1 4 2) ≤ x3_4 →
      Q σ_3) ∧
    (¬ (σ_3.1 4 2) ≤ x3_4 →
      vc_X1_linkStem x3_4 x2 σ_3 (fun (σ_6 : tzS) =>
        ∀ x3_7 : Int32, x3_7 = x3_4 + 1 →
        ag_2 x3_7 σ_6))) (0 : Int32) σ_1
set_option maxRecDepth 20000 in
set_option maxHeartbeats 4000000 in
theorem m_X1_fill (G : tzG) (hG : tz_ok G) {x2 : Int32}  {σ : tzS} {Q : tzS → Prop} (h : vc_X1_fill x2 σ Q) : tz_M G yX1_fill cX1_fill 4 (none) 2 52 [.ref 38, .ref 4, .int x2] σ (tz_Qv G Q) := by
  unfold vc_X1_fill at h
  refine tz_startv hG RX1 [(0, .ref 38), (1, .ref 4), (2, .int x2)] (by decide) rfl (Nat.le_of_ble_eq_true rfl) rfl (fun E C hret => ?_)
  refine tz_aload_n 0 0 C dX1_fill_0 rfl rfl ?_
  refine tz_iconst 0 (by decide) C dX1_fill_1 ?_
  refine tz_put C dX1_fill_2 fp_RX1_9 (by decide) rfl rfl rfl rfl h (fun σ_1 h => ?_)
  refine tz_iconst 0 (by decide) C dX1_fill_5 ?_
  refine tz_istore_n_k 3 [(0, .ref 38), (1, .ref 4), (2, .int x2)] C dX1_fill_6 rfl (Nat.le_of_ble_eq_true rfl) rfl ?_
  refine tz_sub (L := [(0, .ref 38), (1, .ref 4), (2, .int x2), (3, .int 0)]) ?_ [1, 2, 3, 0] rfl
  refine tz_loop1_w (V := fun (x3_4 : Int32) (σ_3 : tzS) => tz_V G E 7 [(0, .ref 38), (1, .ref 4), (2, .int x2), (3, .int x3_4)] [] σ_3) h (fun ag_2 ihag_2 x3_4 σ_3 h => ?_)
  refine tz_iload_n 3 3 C dX1_fill_7 rfl rfl ?_
  refine tz_aload_n 1 1 C dX1_fill_8 rfl rfl ?_
  refine tz_getI C dX1_fill_9 fl_RX1_28 (by decide) rfl rfl ?_
  refine tz_icmp_ge 28 C dX1_fill_12 (by decide) h (fun c_5 h => ?_) (fun c_5 h => ?_)
  · exact hret _ _ _ dX1_fill_28 h
  · refine tz_aload_n 0 0 C dX1_fill_15 rfl rfl ?_
    refine tz_aload_n 1 1 C dX1_fill_16 rfl rfl ?_
    refine tz_iload_n 3 3 C dX1_fill_17 rfl rfl ?_
    refine tz_iload_n 2 2 C dX1_fill_18 rfl rfl ?_
    refine tz_callvv C dX1_fill_19 lk_RX1_33 (m_X1_linkStem G hG  h) (by decide) rfl rfl rfl rfl ⟨Nat.le_of_ble_eq_true rfl, Nat.le_of_ble_eq_true rfl⟩ (Nat.le_of_ble_eq_true rfl) rfl (fun σ_6 h => ?_)
    refine tz_iinc 3 [(0, .ref 38), (1, .ref 4), (2, .int x2)] 1 C dX1_fill_22 (by decide) rfl (Nat.le_of_ble_eq_true rfl) rfl h (fun x3_7 h => ?_)
    refine tz_goto 7 C dX1_fill_25 (by decide) ?_
    exact tz_sub (ihag_2 _ _ h) [1, 2, 3, 0] rfl

def vc_X1_weightOf (x1 : Int32) (σ : tzS) (Q : Int32 → tzS → Prop) : Prop :=
  vp_in x1 100 ∧ (
    Q ((σ.1 42 x1.toNatClampNeg) * (((σ.1 41 x1.toNatClampNeg) - (σ.1 40 x1.toNatClampNeg)) + 1)) σ)
set_option maxRecDepth 20000 in
set_option maxHeartbeats 4000000 in
theorem m_X1_weightOf (G : tzG) (hG : tz_ok G) {x1 : Int32}  {σ : tzS} {Q : Int32 → tzS → Prop} (h : vc_X1_weightOf x1 σ Q) : tz_M G yX1_weightOf cX1_weightOf 2 (some .int) 0 0 [.ref 38, .int x1] σ (tz_Qi G Q) := by
  unfold vc_X1_weightOf at h
  refine tz_starti hG RX1 [(0, .ref 38), (1, .int x1)] (by decide) rfl (Nat.le_of_ble_eq_true rfl) rfl (fun E C hret => ?_)
  refine tz_aload_n 0 0 C dX1_weightOf_0 rfl rfl ?_
  refine tz_getR C dX1_weightOf_1 fl_RX1_25 (by decide) rfl rfl ?_
  refine tz_iload_n 1 1 C dX1_weightOf_4 rfl rfl ?_
  obtain ⟨hin_1, h⟩ := h
  refine tz_iald C dX1_weightOf_5 (by decide) rfl hin_1 ?_
  refine tz_aload_n 0 0 C dX1_weightOf_6 rfl rfl ?_
  refine tz_getR C dX1_weightOf_7 fl_RX1_22 (by decide) rfl rfl ?_
  refine tz_iload_n 1 1 C dX1_weightOf_10 rfl rfl ?_
  refine tz_iald C dX1_weightOf_11 (by decide) rfl hin_1 ?_
  refine tz_aload_n 0 0 C dX1_weightOf_12 rfl rfl ?_
  refine tz_getR C dX1_weightOf_13 fl_RX1_19 (by decide) rfl rfl ?_
  refine tz_iload_n 1 1 C dX1_weightOf_16 rfl rfl ?_
  refine tz_iald C dX1_weightOf_17 (by decide) rfl hin_1 ?_
  refine tz_isub C dX1_weightOf_18 ?_
  refine tz_iconst 1 (by decide) C dX1_weightOf_19 ?_
  refine tz_iadd C dX1_weightOf_20 ?_
  refine tz_imul C dX1_weightOf_21 ?_
  exact hret _ _ _ _ dX1_weightOf_22 h

def vc_X1_goesOver (x1 : Int32) (x2 : Int32) (σ : tzS) (Q : Int32 → tzS → Prop) : Prop :=
  vp_in x1 100 ∧ (
    (x2 ≤ (σ.1 40 x1.toNatClampNeg) →
      Q 0 σ) ∧
    (¬ x2 ≤ (σ.1 40 x1.toNatClampNeg) →
      ((σ.1 41 x1.toNatClampNeg) < x2 →
        Q 0 σ) ∧
      (¬ (σ.1 41 x1.toNatClampNeg) < x2 →
        Q 1 σ)))
set_option maxRecDepth 20000 in
set_option maxHeartbeats 4000000 in
theorem m_X1_goesOver (G : tzG) (hG : tz_ok G) {x1 : Int32} {x2 : Int32}  {σ : tzS} {Q : Int32 → tzS → Prop} (h : vc_X1_goesOver x1 x2 σ Q) : tz_M G yX1_goesOver cX1_goesOver 3 (some .boolean) 0 0 [.ref 38, .int x1, .int x2] σ (tz_Qi G Q) := by
  unfold vc_X1_goesOver at h
  refine tz_startz hG RX1 [(0, .ref 38), (1, .int x1), (2, .int x2)] (by decide) rfl (Nat.le_of_ble_eq_true rfl) rfl (fun E C hret => ?_)
  refine tz_aload_n 0 0 C dX1_goesOver_0 rfl rfl ?_
  refine tz_getR C dX1_goesOver_1 fl_RX1_19 (by decide) rfl rfl ?_
  refine tz_iload_n 1 1 C dX1_goesOver_4 rfl rfl ?_
  obtain ⟨hin_1, h⟩ := h
  refine tz_iald C dX1_goesOver_5 (by decide) rfl hin_1 ?_
  refine tz_iload_n 2 2 C dX1_goesOver_6 rfl rfl ?_
  refine tz_icmp_ge 24 C dX1_goesOver_7 (by decide) h (fun c_2 h => ?_) (fun c_2 h => ?_)
  · refine tz_iconst 0 (by decide) C dX1_goesOver_24 ?_
    exact hret _ _ _ _ dX1_goesOver_25 rfl h
  · refine tz_aload_n 0 0 C dX1_goesOver_10 rfl rfl ?_
    refine tz_getR C dX1_goesOver_11 fl_RX1_22 (by decide) rfl rfl ?_
    refine tz_iload_n 1 1 C dX1_goesOver_14 rfl rfl ?_
    refine tz_iald C dX1_goesOver_15 (by decide) rfl hin_1 ?_
    refine tz_iload_n 2 2 C dX1_goesOver_16 rfl rfl ?_
    refine tz_icmp_lt 24 C dX1_goesOver_17 (by decide) h (fun c_3 h => ?_) (fun c_3 h => ?_)
    · refine tz_iconst 0 (by decide) C dX1_goesOver_24 ?_
      exact hret _ _ _ _ dX1_goesOver_25 rfl h
    · refine tz_iconst 1 (by decide) C dX1_goesOver_20 ?_
      refine tz_goto 25 C dX1_goesOver_21 (by decide) ?_
      exact hret _ _ _ _ dX1_goesOver_25 rfl h

def vc_X1_numberOver (x1 : Int32) (σ : tzS) (Q : Int32 → tzS → Prop) : Prop :=
  tz_loop2 (fun (x2_3 : Int32) (x3_4 : Int32) (σ_2 : tzS) (ag_1 : Int32 → Int32 → tzS → Prop) =>
    ((σ_2.1 38 0) ≤ x3_4 →
      Q x2_3 σ_2) ∧
    (¬ (σ_2.1 38 0) ≤ x3_4 →
      vc_X1_goesOver x3_4 x1 σ_2 (fun (r_7 : Int32) (σ_6 : tzS) =>
        (r_7 = 0 →
          ∀ x3_9 : Int32, x3_9 = x3_4 + 1 →
          ag_1 x2_3 x3_9 σ_6) ∧
        (¬ r_7 = 0 →
          ∀ x2_10 : Int32, x2_10 = x2_3 + 1 →
          ∀ x3_11 : Int32, x3_11 = x3_4 + 1 →
          ag_1 x2_10 x3_11 σ_6)))) (0 : Int32) (0 : Int32) σ
set_option maxRecDepth 20000 in
set_option maxHeartbeats 4000000 in
theorem m_X1_numberOver (G : tzG) (hG : tz_ok G) {x1 : Int32}  {σ : tzS} {Q : Int32 → tzS → Prop} (h : vc_X1_numberOver x1 σ Q) : tz_M G yX1_numberOver cX1_numberOver 4 (some .int) 1 22 [.ref 38, .int x1] σ (tz_Qi G Q) := by
  unfold vc_X1_numberOver at h
  refine tz_starti hG RX1 [(0, .ref 38), (1, .int x1)] (by decide) rfl (Nat.le_of_ble_eq_true rfl) rfl (fun E C hret => ?_)
  refine tz_iconst 0 (by decide) C dX1_numberOver_0 ?_
  refine tz_istore_n_k 2 [(0, .ref 38), (1, .int x1)] C dX1_numberOver_1 rfl (Nat.le_of_ble_eq_true rfl) rfl ?_
  refine tz_iconst 0 (by decide) C dX1_numberOver_2 ?_
  refine tz_istore_n_k 3 [(2, .int 0), (0, .ref 38), (1, .int x1)] C dX1_numberOver_3 rfl (Nat.le_of_ble_eq_true rfl) rfl ?_
  refine tz_sub (L := [(0, .ref 38), (1, .int x1), (2, .int 0), (3, .int 0)]) ?_ [2, 3, 1, 0] rfl
  refine tz_loop2_w (V := fun (x2_3 : Int32) (x3_4 : Int32) (σ_2 : tzS) => tz_V G E 4 [(0, .ref 38), (1, .int x1), (2, .int x2_3), (3, .int x3_4)] [] σ_2) h (fun ag_1 ihag_1 x2_3 x3_4 σ_2 h => ?_)
  refine tz_iload_n 3 3 C dX1_numberOver_4 rfl rfl ?_
  refine tz_aload_n 0 0 C dX1_numberOver_5 rfl rfl ?_
  refine tz_getI C dX1_numberOver_6 fl_RX1_9 (by decide) rfl rfl ?_
  refine tz_icmp_ge 30 C dX1_numberOver_9 (by decide) h (fun c_5 h => ?_) (fun c_5 h => ?_)
  · refine tz_iload_n 2 2 C dX1_numberOver_30 rfl rfl ?_
    exact hret _ _ _ _ dX1_numberOver_31 h
  · refine tz_aload_n 0 0 C dX1_numberOver_12 rfl rfl ?_
    refine tz_iload_n 3 3 C dX1_numberOver_13 rfl rfl ?_
    refine tz_iload_n 1 1 C dX1_numberOver_14 rfl rfl ?_
    refine tz_calliv C dX1_numberOver_15 lk_RX1_47 (m_X1_goesOver G hG  h) (by decide) rfl rfl rfl rfl ⟨Nat.le_of_ble_eq_true rfl, Nat.le_of_ble_eq_true rfl⟩ (Nat.le_of_ble_eq_true rfl) rfl (fun r_7 σ_6 h => ?_)
    refine tz_if_eq 24 C dX1_numberOver_18 (by decide) h (fun c_8 h => ?_) (fun c_8 h => ?_)
    · refine tz_iinc 3 [(0, .ref 38), (1, .int x1), (2, .int x2_3)] 1 C dX1_numberOver_24 (by decide) rfl (Nat.le_of_ble_eq_true rfl) rfl h (fun x3_9 h => ?_)
      refine tz_goto 4 C dX1_numberOver_27 (by decide) ?_
      exact tz_sub (ihag_1 _ _ _ h) [1, 2, 3, 0] rfl
    · refine tz_iinc 2 [(0, .ref 38), (1, .int x1), (3, .int x3_4)] 1 C dX1_numberOver_21 (by decide) rfl (Nat.le_of_ble_eq_true rfl) rfl h (fun x2_10 h => ?_)
      refine tz_iinc 3 [(2, .int x2_10), (0, .ref 38), (1, .int x1)] 1 C dX1_numberOver_24 (by decide) rfl (Nat.le_of_ble_eq_true rfl) rfl h (fun x3_11 h => ?_)
      refine tz_goto 4 C dX1_numberOver_27 (by decide) ?_
      exact tz_sub (ihag_1 _ _ _ h) [2, 3, 1, 0] rfl

def vc_X1_weightOver (x1 : Int32) (σ : tzS) (Q : Int32 → tzS → Prop) : Prop :=
  tz_loop2 (fun (x2_3 : Int32) (x3_4 : Int32) (σ_2 : tzS) (ag_1 : Int32 → Int32 → tzS → Prop) =>
    ((σ_2.1 38 0) ≤ x3_4 →
      Q x2_3 σ_2) ∧
    (¬ (σ_2.1 38 0) ≤ x3_4 →
      vc_X1_goesOver x3_4 x1 σ_2 (fun (r_7 : Int32) (σ_6 : tzS) =>
        (r_7 = 0 →
          ∀ x3_9 : Int32, x3_9 = x3_4 + 1 →
          ag_1 x2_3 x3_9 σ_6) ∧
        (¬ r_7 = 0 →
          vc_X1_weightOf x3_4 σ_6 (fun (r_11 : Int32) (σ_10 : tzS) =>
            ∀ x2_12 : Int32, x2_12 = (x2_3 + r_11) →
            ∀ x3_13 : Int32, x3_13 = x3_4 + 1 →
            ag_1 x2_12 x3_13 σ_10))))) (0 : Int32) (0 : Int32) σ
set_option maxRecDepth 20000 in
set_option maxHeartbeats 4000000 in
theorem m_X1_weightOver (G : tzG) (hG : tz_ok G) {x1 : Int32}  {σ : tzS} {Q : Int32 → tzS → Prop} (h : vc_X1_weightOver x1 σ Q) : tz_M G yX1_weightOver cX1_weightOver 4 (some .int) 1 22 [.ref 38, .int x1] σ (tz_Qi G Q) := by
  unfold vc_X1_weightOver at h
  refine tz_starti hG RX1 [(0, .ref 38), (1, .int x1)] (by decide) rfl (Nat.le_of_ble_eq_true rfl) rfl (fun E C hret => ?_)
  refine tz_iconst 0 (by decide) C dX1_weightOver_0 ?_
  refine tz_istore_n_k 2 [(0, .ref 38), (1, .int x1)] C dX1_weightOver_1 rfl (Nat.le_of_ble_eq_true rfl) rfl ?_
  refine tz_iconst 0 (by decide) C dX1_weightOver_2 ?_
  refine tz_istore_n_k 3 [(2, .int 0), (0, .ref 38), (1, .int x1)] C dX1_weightOver_3 rfl (Nat.le_of_ble_eq_true rfl) rfl ?_
  refine tz_sub (L := [(0, .ref 38), (1, .int x1), (2, .int 0), (3, .int 0)]) ?_ [2, 3, 1, 0] rfl
  refine tz_loop2_w (V := fun (x2_3 : Int32) (x3_4 : Int32) (σ_2 : tzS) => tz_V G E 4 [(0, .ref 38), (1, .int x1), (2, .int x2_3), (3, .int x3_4)] [] σ_2) h (fun ag_1 ihag_1 x2_3 x3_4 σ_2 h => ?_)
  refine tz_iload_n 3 3 C dX1_weightOver_4 rfl rfl ?_
  refine tz_aload_n 0 0 C dX1_weightOver_5 rfl rfl ?_
  refine tz_getI C dX1_weightOver_6 fl_RX1_9 (by decide) rfl rfl ?_
  refine tz_icmp_ge 35 C dX1_weightOver_9 (by decide) h (fun c_5 h => ?_) (fun c_5 h => ?_)
  · refine tz_iload_n 2 2 C dX1_weightOver_35 rfl rfl ?_
    exact hret _ _ _ _ dX1_weightOver_36 h
  · refine tz_aload_n 0 0 C dX1_weightOver_12 rfl rfl ?_
    refine tz_iload_n 3 3 C dX1_weightOver_13 rfl rfl ?_
    refine tz_iload_n 1 1 C dX1_weightOver_14 rfl rfl ?_
    refine tz_calliv C dX1_weightOver_15 lk_RX1_47 (m_X1_goesOver G hG  h) (by decide) rfl rfl rfl rfl ⟨Nat.le_of_ble_eq_true rfl, Nat.le_of_ble_eq_true rfl⟩ (Nat.le_of_ble_eq_true rfl) rfl (fun r_7 σ_6 h => ?_)
    refine tz_if_eq 29 C dX1_weightOver_18 (by decide) h (fun c_8 h => ?_) (fun c_8 h => ?_)
    · refine tz_iinc 3 [(0, .ref 38), (1, .int x1), (2, .int x2_3)] 1 C dX1_weightOver_29 (by decide) rfl (Nat.le_of_ble_eq_true rfl) rfl h (fun x3_9 h => ?_)
      refine tz_goto 4 C dX1_weightOver_32 (by decide) ?_
      exact tz_sub (ihag_1 _ _ _ h) [1, 2, 3, 0] rfl
    · refine tz_iload_n 2 2 C dX1_weightOver_21 rfl rfl ?_
      refine tz_aload_n 0 0 C dX1_weightOver_22 rfl rfl ?_
      refine tz_iload_n 3 3 C dX1_weightOver_23 rfl rfl ?_
      refine tz_calliv C dX1_weightOver_24 lk_RX1_51 (m_X1_weightOf G hG  h) (by decide) rfl rfl rfl rfl ⟨Nat.le_of_ble_eq_true rfl, Nat.le_of_ble_eq_true rfl⟩ (Nat.le_of_ble_eq_true rfl) rfl (fun r_11 σ_10 h => ?_)
      refine tz_iadd C dX1_weightOver_27 ?_
      refine tz_istore_n 2 [(0, .ref 38), (1, .int x1), (3, .int x3_4)] C dX1_weightOver_28 rfl (Nat.le_of_ble_eq_true rfl) rfl h (fun x2_12 h => ?_)
      refine tz_iinc 3 [(2, .int x2_12), (0, .ref 38), (1, .int x1)] 1 C dX1_weightOver_29 (by decide) rfl (Nat.le_of_ble_eq_true rfl) rfl h (fun x3_13 h => ?_)
      refine tz_goto 4 C dX1_weightOver_32 (by decide) ?_
      exact tz_sub (ihag_1 _ _ _ h) [2, 3, 1, 0] rfl

def vc_X5_chooseLastBlock (a0 : Nat) (a1 : Nat) (x2 : Int32) (x3 : Int32) (σ : tzS) (Q : tzS → Prop) : Prop :=
  vp_in (x2 - 1) 9 ∧ (
    vp_in (x2 - 1) 13 ∧ (
      vp_in x3 13 ∧ (
        ∀ x4_5 : Int32, x4_5 = ((σ.1 ((a0 + 2) + (x2 - 1).toNatClampNeg) (x2 - 1).toNatClampNeg) + (σ.1 ((a1 + 1) + (x2 - 1).toNatClampNeg) x3.toNatClampNeg)) →
        ∀ x5_6 : Int32, x5_6 = (x2 - 1) →
        tz_loop3 (fun (x4_9 : Int32) (x5_10 : Int32) (x6_11 : Int32) (σ_8 : tzS) (ag_7 : Int32 → Int32 → Int32 → tzS → Prop) =>
          (x3 ≤ x6_11 →
            vp_in x2 9 ∧ (
              ∀ σ_14 : tzS, σ_14 = tz_st σ_8 ((a0 + 2) + x2.toNatClampNeg) x3.toNatClampNeg x4_9 →
              ∀ σ_16 : tzS, σ_16 = tz_st σ_14 ((a0 + 12) + x2.toNatClampNeg) x3.toNatClampNeg x5_10 →
              Q σ_16)) ∧
          (¬ x3 ≤ x6_11 →
            vp_in x6_11 13 ∧ (
              ∀ x7_20 : Int32, x7_20 = ((σ_8.1 ((a0 + 2) + (x2 - 1).toNatClampNeg) x6_11.toNatClampNeg) + (σ_8.1 ((a1 + 1) + x6_11.toNatClampNeg) x3.toNatClampNeg)) →
              (x4_9 ≤ x7_20 →
                ∀ x6_22 : Int32, x6_22 = x6_11 + 1 →
                ag_7 x4_9 x5_10 x6_22 σ_8) ∧
              (¬ x4_9 ≤ x7_20 →
                ∀ x6_23 : Int32, x6_23 = x6_11 + 1 →
                ag_7 x7_20 x6_11 x6_23 σ_8)))) x4_5 x5_6 x2 σ)))
set_option maxRecDepth 20000 in
set_option maxHeartbeats 4000000 in
theorem m_X5_chooseLastBlock (G : tzG) (hG : tz_ok G) {a0 : Nat} {a1 : Nat} {x2 : Int32} {x3 : Int32} (ha0 : a0 = 59 ∨ a0 = 99) (ha1 : a1 = 44 ∨ a1 = 84) {σ : tzS} {Q : tzS → Prop} (h : vc_X5_chooseLastBlock a0 a1 x2 x3 σ Q) : tz_M G yX5_chooseLastBlock cX5_chooseLastBlock 8 (none) 0 0 [.ref a0, .ref a1, .int x2, .int x3] σ (tz_Qv G Q) := by
  rcases ha0 with rfl | rfl <;> rcases ha1 with rfl | rfl
  · unfold vc_X5_chooseLastBlock at h
    refine tz_startv hG RX5 [(0, .ref 59), (1, .ref 44), (2, .int x2), (3, .int x3)] (by decide) rfl (Nat.le_of_ble_eq_true rfl) rfl (fun E C hret => ?_)
    refine tz_aload_n 0 0 C dX5_chooseLastBlock_0 rfl rfl ?_
    refine tz_getR C dX5_chooseLastBlock_1 fl_RX5_11 (by decide) rfl rfl ?_
    refine tz_iload_n 2 2 C dX5_chooseLastBlock_4 rfl rfl ?_
    refine tz_iconst 1 (by decide) C dX5_chooseLastBlock_5 ?_
    refine tz_isub C dX5_chooseLastBlock_6 ?_
    obtain ⟨hin_1, h⟩ := h
    refine tz_aald C dX5_chooseLastBlock_7 (by decide) rfl hin_1 ?_
    refine tz_iload_n 2 2 C dX5_chooseLastBlock_8 rfl rfl ?_
    refine tz_iconst 1 (by decide) C dX5_chooseLastBlock_9 ?_
    refine tz_isub C dX5_chooseLastBlock_10 ?_
    obtain ⟨hin_2, h⟩ := h
    refine tz_iald C dX5_chooseLastBlock_11 (tz_rowlt hin_1 (by decide)) (tz_rows hin_1 (by decide)) hin_2 ?_
    refine tz_aload_n 1 1 C dX5_chooseLastBlock_12 rfl rfl ?_
    refine tz_iload_n 2 2 C dX5_chooseLastBlock_13 rfl rfl ?_
    refine tz_iconst 1 (by decide) C dX5_chooseLastBlock_14 ?_
    refine tz_isub C dX5_chooseLastBlock_15 ?_
    refine tz_aald C dX5_chooseLastBlock_16 (by decide) rfl hin_2 ?_
    refine tz_iload_n 3 3 C dX5_chooseLastBlock_17 rfl rfl ?_
    obtain ⟨hin_4, h⟩ := h
    refine tz_iald C dX5_chooseLastBlock_18 (tz_rowlt hin_2 (by decide)) (tz_rows hin_2 (by decide)) hin_4 ?_
    refine tz_iadd C dX5_chooseLastBlock_19 ?_
    refine tz_istore [(0, .ref 59), (1, .ref 44), (2, .int x2), (3, .int x3)] C dX5_chooseLastBlock_20 (Nat.le_of_ble_eq_true rfl) rfl h (fun x4_5 h => ?_)
    refine tz_iload_n 2 3 C dX5_chooseLastBlock_22 rfl rfl ?_
    refine tz_iconst 1 (by decide) C dX5_chooseLastBlock_23 ?_
    refine tz_isub C dX5_chooseLastBlock_24 ?_
    refine tz_istore [(4, .int x4_5), (0, .ref 59), (1, .ref 44), (2, .int x2), (3, .int x3)] C dX5_chooseLastBlock_25 (Nat.le_of_ble_eq_true rfl) rfl h (fun x5_6 h => ?_)
    refine tz_iload_n 2 4 C dX5_chooseLastBlock_27 rfl rfl ?_
    refine tz_istore_k [(5, .int x5_6), (4, .int x4_5), (0, .ref 59), (1, .ref 44), (2, .int x2), (3, .int x3)] C dX5_chooseLastBlock_28 (Nat.le_of_ble_eq_true rfl) rfl ?_
    refine tz_sub (L := [(0, .ref 59), (1, .ref 44), (2, .int x2), (3, .int x3), (4, .int x4_5), (5, .int x5_6), (6, .int x2)]) ?_ [3, 4, 5, 6, 2, 1, 0] rfl
    refine tz_loop3_w (V := fun (x4_9 : Int32) (x5_10 : Int32) (x6_11 : Int32) (σ_8 : tzS) => tz_V G E 30 [(0, .ref 59), (1, .ref 44), (2, .int x2), (3, .int x3), (4, .int x4_9), (5, .int x5_10), (6, .int x6_11)] [] σ_8) h (fun ag_7 ihag_7 x4_9 x5_10 x6_11 σ_8 h => ?_)
    refine tz_iload 6 C dX5_chooseLastBlock_30 rfl ?_
    refine tz_iload_n 3 3 C dX5_chooseLastBlock_32 rfl rfl ?_
    refine tz_icmp_ge 77 C dX5_chooseLastBlock_33 (by decide) h (fun c_12 h => ?_) (fun c_12 h => ?_)
    · refine tz_aload_n 0 0 C dX5_chooseLastBlock_77 rfl rfl ?_
      refine tz_getR C dX5_chooseLastBlock_78 fl_RX5_11 (by decide) rfl rfl ?_
      refine tz_iload_n 2 2 C dX5_chooseLastBlock_81 rfl rfl ?_
      obtain ⟨hin_13, h⟩ := h
      refine tz_aald C dX5_chooseLastBlock_82 (by decide) rfl hin_13 ?_
      refine tz_iload_n 3 3 C dX5_chooseLastBlock_83 rfl rfl ?_
      refine tz_iload 4 C dX5_chooseLastBlock_84 rfl ?_
      refine tz_iast_c _ C dX5_chooseLastBlock_86 (tz_rowlt hin_13 (by decide)) (tz_rows hin_13 (by decide)) hin_4 rfl h (fun σ_14 h => ?_)
      refine tz_aload_n 0 0 C dX5_chooseLastBlock_87 rfl rfl ?_
      refine tz_getR C dX5_chooseLastBlock_88 fl_RX5_16 (by decide) rfl rfl ?_
      refine tz_iload_n 2 2 C dX5_chooseLastBlock_91 rfl rfl ?_
      refine tz_aald C dX5_chooseLastBlock_92 (by decide) rfl hin_13 ?_
      refine tz_iload_n 3 3 C dX5_chooseLastBlock_93 rfl rfl ?_
      refine tz_iload 5 C dX5_chooseLastBlock_94 rfl ?_
      refine tz_iast_c _ C dX5_chooseLastBlock_96 (tz_rowlt hin_13 (by decide)) (tz_rows hin_13 (by decide)) hin_4 rfl h (fun σ_16 h => ?_)
      exact hret _ _ _ dX5_chooseLastBlock_97 h
    · refine tz_aload_n 0 0 C dX5_chooseLastBlock_36 rfl rfl ?_
      refine tz_getR C dX5_chooseLastBlock_37 fl_RX5_11 (by decide) rfl rfl ?_
      refine tz_iload_n 2 2 C dX5_chooseLastBlock_40 rfl rfl ?_
      refine tz_iconst 1 (by decide) C dX5_chooseLastBlock_41 ?_
      refine tz_isub C dX5_chooseLastBlock_42 ?_
      refine tz_aald C dX5_chooseLastBlock_43 (by decide) rfl hin_1 ?_
      refine tz_iload 6 C dX5_chooseLastBlock_44 rfl ?_
      obtain ⟨hin_18, h⟩ := h
      refine tz_iald C dX5_chooseLastBlock_46 (tz_rowlt hin_1 (by decide)) (tz_rows hin_1 (by decide)) hin_18 ?_
      refine tz_aload_n 1 1 C dX5_chooseLastBlock_47 rfl rfl ?_
      refine tz_iload 6 C dX5_chooseLastBlock_48 rfl ?_
      refine tz_aald C dX5_chooseLastBlock_50 (by decide) rfl hin_18 ?_
      refine tz_iload_n 3 3 C dX5_chooseLastBlock_51 rfl rfl ?_
      refine tz_iald C dX5_chooseLastBlock_52 (tz_rowlt hin_18 (by decide)) (tz_rows hin_18 (by decide)) hin_4 ?_
      refine tz_iadd C dX5_chooseLastBlock_53 ?_
      refine tz_istore [(0, .ref 59), (1, .ref 44), (2, .int x2), (3, .int x3), (4, .int x4_9), (5, .int x5_10), (6, .int x6_11)] C dX5_chooseLastBlock_54 (Nat.le_of_ble_eq_true rfl) rfl h (fun x7_20 h => ?_)
      refine tz_iload 0 C dX5_chooseLastBlock_56 rfl ?_
      refine tz_iload 5 C dX5_chooseLastBlock_58 rfl ?_
      refine tz_icmp_ge 71 C dX5_chooseLastBlock_60 (by decide) h (fun c_21 h => ?_) (fun c_21 h => ?_)
      · refine tz_iinc 7 [(7, .int x7_20), (0, .ref 59), (1, .ref 44), (2, .int x2), (3, .int x3), (4, .int x4_9), (5, .int x5_10)] 1 C dX5_chooseLastBlock_71 (by decide) rfl (Nat.le_of_ble_eq_true rfl) rfl h (fun x6_22 h => ?_)
        refine tz_goto 30 C dX5_chooseLastBlock_74 (by decide) ?_
        exact tz_sub (ihag_7 _ _ _ _ h) [2, 3, 4, 5, 6, 7, 0] rfl
      · refine tz_iload 0 C dX5_chooseLastBlock_63 rfl ?_
        refine tz_istore_k [(7, .int x7_20), (0, .ref 59), (1, .ref 44), (2, .int x2), (3, .int x3), (5, .int x5_10), (6, .int x6_11)] C dX5_chooseLastBlock_65 (Nat.le_of_ble_eq_true rfl) rfl ?_
        refine tz_iload 7 C dX5_chooseLastBlock_67 rfl ?_
        refine tz_istore_k [(4, .int x7_20), (7, .int x7_20), (0, .ref 59), (1, .ref 44), (2, .int x2), (3, .int x3), (6, .int x6_11)] C dX5_chooseLastBlock_69 (Nat.le_of_ble_eq_true rfl) rfl ?_
        refine tz_iinc 7 [(5, .int x6_11), (4, .int x7_20), (7, .int x7_20), (0, .ref 59), (1, .ref 44), (2, .int x2), (3, .int x3)] 1 C dX5_chooseLastBlock_71 (by decide) rfl (Nat.le_of_ble_eq_true rfl) rfl h (fun x6_23 h => ?_)
        refine tz_goto 30 C dX5_chooseLastBlock_74 (by decide) ?_
        exact tz_sub (ihag_7 _ _ _ _ h) [4, 5, 6, 7, 2, 1, 0] rfl
  · unfold vc_X5_chooseLastBlock at h
    refine tz_startv hG RX5 [(0, .ref 59), (1, .ref 84), (2, .int x2), (3, .int x3)] (by decide) rfl (Nat.le_of_ble_eq_true rfl) rfl (fun E C hret => ?_)
    refine tz_aload_n 0 0 C dX5_chooseLastBlock_0 rfl rfl ?_
    refine tz_getR C dX5_chooseLastBlock_1 fl_RX5_11 (by decide) rfl rfl ?_
    refine tz_iload_n 2 2 C dX5_chooseLastBlock_4 rfl rfl ?_
    refine tz_iconst 1 (by decide) C dX5_chooseLastBlock_5 ?_
    refine tz_isub C dX5_chooseLastBlock_6 ?_
    obtain ⟨hin_1, h⟩ := h
    refine tz_aald C dX5_chooseLastBlock_7 (by decide) rfl hin_1 ?_
    refine tz_iload_n 2 2 C dX5_chooseLastBlock_8 rfl rfl ?_
    refine tz_iconst 1 (by decide) C dX5_chooseLastBlock_9 ?_
    refine tz_isub C dX5_chooseLastBlock_10 ?_
    obtain ⟨hin_2, h⟩ := h
    refine tz_iald C dX5_chooseLastBlock_11 (tz_rowlt hin_1 (by decide)) (tz_rows hin_1 (by decide)) hin_2 ?_
    refine tz_aload_n 1 1 C dX5_chooseLastBlock_12 rfl rfl ?_
    refine tz_iload_n 2 2 C dX5_chooseLastBlock_13 rfl rfl ?_
    refine tz_iconst 1 (by decide) C dX5_chooseLastBlock_14 ?_
    refine tz_isub C dX5_chooseLastBlock_15 ?_
    refine tz_aald C dX5_chooseLastBlock_16 (by decide) rfl hin_2 ?_
    refine tz_iload_n 3 3 C dX5_chooseLastBlock_17 rfl rfl ?_
    obtain ⟨hin_4, h⟩ := h
    refine tz_iald C dX5_chooseLastBlock_18 (tz_rowlt hin_2 (by decide)) (tz_rows hin_2 (by decide)) hin_4 ?_
    refine tz_iadd C dX5_chooseLastBlock_19 ?_
    refine tz_istore [(0, .ref 59), (1, .ref 84), (2, .int x2), (3, .int x3)] C dX5_chooseLastBlock_20 (Nat.le_of_ble_eq_true rfl) rfl h (fun x4_5 h => ?_)
    refine tz_iload_n 2 3 C dX5_chooseLastBlock_22 rfl rfl ?_
    refine tz_iconst 1 (by decide) C dX5_chooseLastBlock_23 ?_
    refine tz_isub C dX5_chooseLastBlock_24 ?_
    refine tz_istore [(4, .int x4_5), (0, .ref 59), (1, .ref 84), (2, .int x2), (3, .int x3)] C dX5_chooseLastBlock_25 (Nat.le_of_ble_eq_true rfl) rfl h (fun x5_6 h => ?_)
    refine tz_iload_n 2 4 C dX5_chooseLastBlock_27 rfl rfl ?_
    refine tz_istore_k [(5, .int x5_6), (4, .int x4_5), (0, .ref 59), (1, .ref 84), (2, .int x2), (3, .int x3)] C dX5_chooseLastBlock_28 (Nat.le_of_ble_eq_true rfl) rfl ?_
    refine tz_sub (L := [(0, .ref 59), (1, .ref 84), (2, .int x2), (3, .int x3), (4, .int x4_5), (5, .int x5_6), (6, .int x2)]) ?_ [3, 4, 5, 6, 2, 1, 0] rfl
    refine tz_loop3_w (V := fun (x4_9 : Int32) (x5_10 : Int32) (x6_11 : Int32) (σ_8 : tzS) => tz_V G E 30 [(0, .ref 59), (1, .ref 84), (2, .int x2), (3, .int x3), (4, .int x4_9), (5, .int x5_10), (6, .int x6_11)] [] σ_8) h (fun ag_7 ihag_7 x4_9 x5_10 x6_11 σ_8 h => ?_)
    refine tz_iload 6 C dX5_chooseLastBlock_30 rfl ?_
    refine tz_iload_n 3 3 C dX5_chooseLastBlock_32 rfl rfl ?_
    refine tz_icmp_ge 77 C dX5_chooseLastBlock_33 (by decide) h (fun c_12 h => ?_) (fun c_12 h => ?_)
    · refine tz_aload_n 0 0 C dX5_chooseLastBlock_77 rfl rfl ?_
      refine tz_getR C dX5_chooseLastBlock_78 fl_RX5_11 (by decide) rfl rfl ?_
      refine tz_iload_n 2 2 C dX5_chooseLastBlock_81 rfl rfl ?_
      obtain ⟨hin_13, h⟩ := h
      refine tz_aald C dX5_chooseLastBlock_82 (by decide) rfl hin_13 ?_
      refine tz_iload_n 3 3 C dX5_chooseLastBlock_83 rfl rfl ?_
      refine tz_iload 4 C dX5_chooseLastBlock_84 rfl ?_
      refine tz_iast_c _ C dX5_chooseLastBlock_86 (tz_rowlt hin_13 (by decide)) (tz_rows hin_13 (by decide)) hin_4 rfl h (fun σ_14 h => ?_)
      refine tz_aload_n 0 0 C dX5_chooseLastBlock_87 rfl rfl ?_
      refine tz_getR C dX5_chooseLastBlock_88 fl_RX5_16 (by decide) rfl rfl ?_
      refine tz_iload_n 2 2 C dX5_chooseLastBlock_91 rfl rfl ?_
      refine tz_aald C dX5_chooseLastBlock_92 (by decide) rfl hin_13 ?_
      refine tz_iload_n 3 3 C dX5_chooseLastBlock_93 rfl rfl ?_
      refine tz_iload 5 C dX5_chooseLastBlock_94 rfl ?_
      refine tz_iast_c _ C dX5_chooseLastBlock_96 (tz_rowlt hin_13 (by decide)) (tz_rows hin_13 (by decide)) hin_4 rfl h (fun σ_16 h => ?_)
      exact hret _ _ _ dX5_chooseLastBlock_97 h
    · refine tz_aload_n 0 0 C dX5_chooseLastBlock_36 rfl rfl ?_
      refine tz_getR C dX5_chooseLastBlock_37 fl_RX5_11 (by decide) rfl rfl ?_
      refine tz_iload_n 2 2 C dX5_chooseLastBlock_40 rfl rfl ?_
      refine tz_iconst 1 (by decide) C dX5_chooseLastBlock_41 ?_
      refine tz_isub C dX5_chooseLastBlock_42 ?_
      refine tz_aald C dX5_chooseLastBlock_43 (by decide) rfl hin_1 ?_
      refine tz_iload 6 C dX5_chooseLastBlock_44 rfl ?_
      obtain ⟨hin_18, h⟩ := h
      refine tz_iald C dX5_chooseLastBlock_46 (tz_rowlt hin_1 (by decide)) (tz_rows hin_1 (by decide)) hin_18 ?_
      refine tz_aload_n 1 1 C dX5_chooseLastBlock_47 rfl rfl ?_
      refine tz_iload 6 C dX5_chooseLastBlock_48 rfl ?_
      refine tz_aald C dX5_chooseLastBlock_50 (by decide) rfl hin_18 ?_
      refine tz_iload_n 3 3 C dX5_chooseLastBlock_51 rfl rfl ?_
      refine tz_iald C dX5_chooseLastBlock_52 (tz_rowlt hin_18 (by decide)) (tz_rows hin_18 (by decide)) hin_4 ?_
      refine tz_iadd C dX5_chooseLastBlock_53 ?_
      refine tz_istore [(0, .ref 59), (1, .ref 84), (2, .int x2), (3, .int x3), (4, .int x4_9), (5, .int x5_10), (6, .int x6_11)] C dX5_chooseLastBlock_54 (Nat.le_of_ble_eq_true rfl) rfl h (fun x7_20 h => ?_)
      refine tz_iload 0 C dX5_chooseLastBlock_56 rfl ?_
      refine tz_iload 5 C dX5_chooseLastBlock_58 rfl ?_
      refine tz_icmp_ge 71 C dX5_chooseLastBlock_60 (by decide) h (fun c_21 h => ?_) (fun c_21 h => ?_)
      · refine tz_iinc 7 [(7, .int x7_20), (0, .ref 59), (1, .ref 84), (2, .int x2), (3, .int x3), (4, .int x4_9), (5, .int x5_10)] 1 C dX5_chooseLastBlock_71 (by decide) rfl (Nat.le_of_ble_eq_true rfl) rfl h (fun x6_22 h => ?_)
        refine tz_goto 30 C dX5_chooseLastBlock_74 (by decide) ?_
        exact tz_sub (ihag_7 _ _ _ _ h) [2, 3, 4, 5, 6, 7, 0] rfl
      · refine tz_iload 0 C dX5_chooseLastBlock_63 rfl ?_
        refine tz_istore_k [(7, .int x7_20), (0, .ref 59), (1, .ref 84), (2, .int x2), (3, .int x3), (5, .int x5_10), (6, .int x6_11)] C dX5_chooseLastBlock_65 (Nat.le_of_ble_eq_true rfl) rfl ?_
        refine tz_iload 7 C dX5_chooseLastBlock_67 rfl ?_
        refine tz_istore_k [(4, .int x7_20), (7, .int x7_20), (0, .ref 59), (1, .ref 84), (2, .int x2), (3, .int x3), (6, .int x6_11)] C dX5_chooseLastBlock_69 (Nat.le_of_ble_eq_true rfl) rfl ?_
        refine tz_iinc 7 [(5, .int x6_11), (4, .int x7_20), (7, .int x7_20), (0, .ref 59), (1, .ref 84), (2, .int x2), (3, .int x3)] 1 C dX5_chooseLastBlock_71 (by decide) rfl (Nat.le_of_ble_eq_true rfl) rfl h (fun x6_23 h => ?_)
        refine tz_goto 30 C dX5_chooseLastBlock_74 (by decide) ?_
        exact tz_sub (ihag_7 _ _ _ _ h) [4, 5, 6, 7, 2, 1, 0] rfl
  · unfold vc_X5_chooseLastBlock at h
    refine tz_startv hG RX5 [(0, .ref 99), (1, .ref 44), (2, .int x2), (3, .int x3)] (by decide) rfl (Nat.le_of_ble_eq_true rfl) rfl (fun E C hret => ?_)
    refine tz_aload_n 0 0 C dX5_chooseLastBlock_0 rfl rfl ?_
    refine tz_getR C dX5_chooseLastBlock_1 fl_RX5_11 (by decide) rfl rfl ?_
    refine tz_iload_n 2 2 C dX5_chooseLastBlock_4 rfl rfl ?_
    refine tz_iconst 1 (by decide) C dX5_chooseLastBlock_5 ?_
    refine tz_isub C dX5_chooseLastBlock_6 ?_
    obtain ⟨hin_1, h⟩ := h
    refine tz_aald C dX5_chooseLastBlock_7 (by decide) rfl hin_1 ?_
    refine tz_iload_n 2 2 C dX5_chooseLastBlock_8 rfl rfl ?_
    refine tz_iconst 1 (by decide) C dX5_chooseLastBlock_9 ?_
    refine tz_isub C dX5_chooseLastBlock_10 ?_
    obtain ⟨hin_2, h⟩ := h
    refine tz_iald C dX5_chooseLastBlock_11 (tz_rowlt hin_1 (by decide)) (tz_rows hin_1 (by decide)) hin_2 ?_
    refine tz_aload_n 1 1 C dX5_chooseLastBlock_12 rfl rfl ?_
    refine tz_iload_n 2 2 C dX5_chooseLastBlock_13 rfl rfl ?_
    refine tz_iconst 1 (by decide) C dX5_chooseLastBlock_14 ?_
    refine tz_isub C dX5_chooseLastBlock_15 ?_
    refine tz_aald C dX5_chooseLastBlock_16 (by decide) rfl hin_2 ?_
    refine tz_iload_n 3 3 C dX5_chooseLastBlock_17 rfl rfl ?_
    obtain ⟨hin_4, h⟩ := h
    refine tz_iald C dX5_chooseLastBlock_18 (tz_rowlt hin_2 (by decide)) (tz_rows hin_2 (by decide)) hin_4 ?_
    refine tz_iadd C dX5_chooseLastBlock_19 ?_
    refine tz_istore [(0, .ref 99), (1, .ref 44), (2, .int x2), (3, .int x3)] C dX5_chooseLastBlock_20 (Nat.le_of_ble_eq_true rfl) rfl h (fun x4_5 h => ?_)
    refine tz_iload_n 2 3 C dX5_chooseLastBlock_22 rfl rfl ?_
    refine tz_iconst 1 (by decide) C dX5_chooseLastBlock_23 ?_
    refine tz_isub C dX5_chooseLastBlock_24 ?_
    refine tz_istore [(4, .int x4_5), (0, .ref 99), (1, .ref 44), (2, .int x2), (3, .int x3)] C dX5_chooseLastBlock_25 (Nat.le_of_ble_eq_true rfl) rfl h (fun x5_6 h => ?_)
    refine tz_iload_n 2 4 C dX5_chooseLastBlock_27 rfl rfl ?_
    refine tz_istore_k [(5, .int x5_6), (4, .int x4_5), (0, .ref 99), (1, .ref 44), (2, .int x2), (3, .int x3)] C dX5_chooseLastBlock_28 (Nat.le_of_ble_eq_true rfl) rfl ?_
    refine tz_sub (L := [(0, .ref 99), (1, .ref 44), (2, .int x2), (3, .int x3), (4, .int x4_5), (5, .int x5_6), (6, .int x2)]) ?_ [3, 4, 5, 6, 2, 1, 0] rfl
    refine tz_loop3_w (V := fun (x4_9 : Int32) (x5_10 : Int32) (x6_11 : Int32) (σ_8 : tzS) => tz_V G E 30 [(0, .ref 99), (1, .ref 44), (2, .int x2), (3, .int x3), (4, .int x4_9), (5, .int x5_10), (6, .int x6_11)] [] σ_8) h (fun ag_7 ihag_7 x4_9 x5_10 x6_11 σ_8 h => ?_)
    refine tz_iload 6 C dX5_chooseLastBlock_30 rfl ?_
    refine tz_iload_n 3 3 C dX5_chooseLastBlock_32 rfl rfl ?_
    refine tz_icmp_ge 77 C dX5_chooseLastBlock_33 (by decide) h (fun c_12 h => ?_) (fun c_12 h => ?_)
    · refine tz_aload_n 0 0 C dX5_chooseLastBlock_77 rfl rfl ?_
      refine tz_getR C dX5_chooseLastBlock_78 fl_RX5_11 (by decide) rfl rfl ?_
      refine tz_iload_n 2 2 C dX5_chooseLastBlock_81 rfl rfl ?_
      obtain ⟨hin_13, h⟩ := h
      refine tz_aald C dX5_chooseLastBlock_82 (by decide) rfl hin_13 ?_
      refine tz_iload_n 3 3 C dX5_chooseLastBlock_83 rfl rfl ?_
      refine tz_iload 4 C dX5_chooseLastBlock_84 rfl ?_
      refine tz_iast_c _ C dX5_chooseLastBlock_86 (tz_rowlt hin_13 (by decide)) (tz_rows hin_13 (by decide)) hin_4 rfl h (fun σ_14 h => ?_)
      refine tz_aload_n 0 0 C dX5_chooseLastBlock_87 rfl rfl ?_
      refine tz_getR C dX5_chooseLastBlock_88 fl_RX5_16 (by decide) rfl rfl ?_
      refine tz_iload_n 2 2 C dX5_chooseLastBlock_91 rfl rfl ?_
      refine tz_aald C dX5_chooseLastBlock_92 (by decide) rfl hin_13 ?_
      refine tz_iload_n 3 3 C dX5_chooseLastBlock_93 rfl rfl ?_
      refine tz_iload 5 C dX5_chooseLastBlock_94 rfl ?_
      refine tz_iast_c _ C dX5_chooseLastBlock_96 (tz_rowlt hin_13 (by decide)) (tz_rows hin_13 (by decide)) hin_4 rfl h (fun σ_16 h => ?_)
      exact hret _ _ _ dX5_chooseLastBlock_97 h
    · refine tz_aload_n 0 0 C dX5_chooseLastBlock_36 rfl rfl ?_
      refine tz_getR C dX5_chooseLastBlock_37 fl_RX5_11 (by decide) rfl rfl ?_
      refine tz_iload_n 2 2 C dX5_chooseLastBlock_40 rfl rfl ?_
      refine tz_iconst 1 (by decide) C dX5_chooseLastBlock_41 ?_
      refine tz_isub C dX5_chooseLastBlock_42 ?_
      refine tz_aald C dX5_chooseLastBlock_43 (by decide) rfl hin_1 ?_
      refine tz_iload 6 C dX5_chooseLastBlock_44 rfl ?_
      obtain ⟨hin_18, h⟩ := h
      refine tz_iald C dX5_chooseLastBlock_46 (tz_rowlt hin_1 (by decide)) (tz_rows hin_1 (by decide)) hin_18 ?_
      refine tz_aload_n 1 1 C dX5_chooseLastBlock_47 rfl rfl ?_
      refine tz_iload 6 C dX5_chooseLastBlock_48 rfl ?_
      refine tz_aald C dX5_chooseLastBlock_50 (by decide) rfl hin_18 ?_
      refine tz_iload_n 3 3 C dX5_chooseLastBlock_51 rfl rfl ?_
      refine tz_iald C dX5_chooseLastBlock_52 (tz_rowlt hin_18 (by decide)) (tz_rows hin_18 (by decide)) hin_4 ?_
      refine tz_iadd C dX5_chooseLastBlock_53 ?_
      refine tz_istore [(0, .ref 99), (1, .ref 44), (2, .int x2), (3, .int x3), (4, .int x4_9), (5, .int x5_10), (6, .int x6_11)] C dX5_chooseLastBlock_54 (Nat.le_of_ble_eq_true rfl) rfl h (fun x7_20 h => ?_)
      refine tz_iload 0 C dX5_chooseLastBlock_56 rfl ?_
      refine tz_iload 5 C dX5_chooseLastBlock_58 rfl ?_
      refine tz_icmp_ge 71 C dX5_chooseLastBlock_60 (by decide) h (fun c_21 h => ?_) (fun c_21 h => ?_)
      · refine tz_iinc 7 [(7, .int x7_20), (0, .ref 99), (1, .ref 44), (2, .int x2), (3, .int x3), (4, .int x4_9), (5, .int x5_10)] 1 C dX5_chooseLastBlock_71 (by decide) rfl (Nat.le_of_ble_eq_true rfl) rfl h (fun x6_22 h => ?_)
        refine tz_goto 30 C dX5_chooseLastBlock_74 (by decide) ?_
        exact tz_sub (ihag_7 _ _ _ _ h) [2, 3, 4, 5, 6, 7, 0] rfl
      · refine tz_iload 0 C dX5_chooseLastBlock_63 rfl ?_
        refine tz_istore_k [(7, .int x7_20), (0, .ref 99), (1, .ref 44), (2, .int x2), (3, .int x3), (5, .int x5_10), (6, .int x6_11)] C dX5_chooseLastBlock_65 (Nat.le_of_ble_eq_true rfl) rfl ?_
        refine tz_iload 7 C dX5_chooseLastBlock_67 rfl ?_
        refine tz_istore_k [(4, .int x7_20), (7, .int x7_20), (0, .ref 99), (1, .ref 44), (2, .int x2), (3, .int x3), (6, .int x6_11)] C dX5_chooseLastBlock_69 (Nat.le_of_ble_eq_true rfl) rfl ?_
        refine tz_iinc 7 [(5, .int x6_11), (4, .int x7_20), (7, .int x7_20), (0, .ref 99), (1, .ref 44), (2, .int x2), (3, .int x3)] 1 C dX5_chooseLastBlock_71 (by decide) rfl (Nat.le_of_ble_eq_true rfl) rfl h (fun x6_23 h => ?_)
        refine tz_goto 30 C dX5_chooseLastBlock_74 (by decide) ?_
        exact tz_sub (ihag_7 _ _ _ _ h) [4, 5, 6, 7, 2, 1, 0] rfl
  · unfold vc_X5_chooseLastBlock at h
    refine tz_startv hG RX5 [(0, .ref 99), (1, .ref 84), (2, .int x2), (3, .int x3)] (by decide) rfl (Nat.le_of_ble_eq_true rfl) rfl (fun E C hret => ?_)
    refine tz_aload_n 0 0 C dX5_chooseLastBlock_0 rfl rfl ?_
    refine tz_getR C dX5_chooseLastBlock_1 fl_RX5_11 (by decide) rfl rfl ?_
    refine tz_iload_n 2 2 C dX5_chooseLastBlock_4 rfl rfl ?_
    refine tz_iconst 1 (by decide) C dX5_chooseLastBlock_5 ?_
    refine tz_isub C dX5_chooseLastBlock_6 ?_
    obtain ⟨hin_1, h⟩ := h
    refine tz_aald C dX5_chooseLastBlock_7 (by decide) rfl hin_1 ?_
    refine tz_iload_n 2 2 C dX5_chooseLastBlock_8 rfl rfl ?_
    refine tz_iconst 1 (by decide) C dX5_chooseLastBlock_9 ?_
    refine tz_isub C dX5_chooseLastBlock_10 ?_
    obtain ⟨hin_2, h⟩ := h
    refine tz_iald C dX5_chooseLastBlock_11 (tz_rowlt hin_1 (by decide)) (tz_rows hin_1 (by decide)) hin_2 ?_
    refine tz_aload_n 1 1 C dX5_chooseLastBlock_12 rfl rfl ?_
    refine tz_iload_n 2 2 C dX5_chooseLastBlock_13 rfl rfl ?_
    refine tz_iconst 1 (by decide) C dX5_chooseLastBlock_14 ?_
    refine tz_isub C dX5_chooseLastBlock_15 ?_
    refine tz_aald C dX5_chooseLastBlock_16 (by decide) rfl hin_2 ?_
    refine tz_iload_n 3 3 C dX5_chooseLastBlock_17 rfl rfl ?_
    obtain ⟨hin_4, h⟩ := h
    refine tz_iald C dX5_chooseLastBlock_18 (tz_rowlt hin_2 (by decide)) (tz_rows hin_2 (by decide)) hin_4 ?_
    refine tz_iadd C dX5_chooseLastBlock_19 ?_
    refine tz_istore [(0, .ref 99), (1, .ref 84), (2, .int x2), (3, .int x3)] C dX5_chooseLastBlock_20 (Nat.le_of_ble_eq_true rfl) rfl h (fun x4_5 h => ?_)
    refine tz_iload_n 2 3 C dX5_chooseLastBlock_22 rfl rfl ?_
    refine tz_iconst 1 (by decide) C dX5_chooseLastBlock_23 ?_
    refine tz_isub C dX5_chooseLastBlock_24 ?_
    refine tz_istore [(4, .int x4_5), (0, .ref 99), (1, .ref 84), (2, .int x2), (3, .int x3)] C dX5_chooseLastBlock_25 (Nat.le_of_ble_eq_true rfl) rfl h (fun x5_6 h => ?_)
    refine tz_iload_n 2 4 C dX5_chooseLastBlock_27 rfl rfl ?_
    refine tz_istore_k [(5, .int x5_6), (4, .int x4_5), (0, .ref 99), (1, .ref 84), (2, .int x2), (3, .int x3)] C dX5_chooseLastBlock_28 (Nat.le_of_ble_eq_true rfl) rfl ?_
    refine tz_sub (L := [(0, .ref 99), (1, .ref 84), (2, .int x2), (3, .int x3), (4, .int x4_5), (5, .int x5_6), (6, .int x2)]) ?_ [3, 4, 5, 6, 2, 1, 0] rfl
    refine tz_loop3_w (V := fun (x4_9 : Int32) (x5_10 : Int32) (x6_11 : Int32) (σ_8 : tzS) => tz_V G E 30 [(0, .ref 99), (1, .ref 84), (2, .int x2), (3, .int x3), (4, .int x4_9), (5, .int x5_10), (6, .int x6_11)] [] σ_8) h (fun ag_7 ihag_7 x4_9 x5_10 x6_11 σ_8 h => ?_)
    refine tz_iload 6 C dX5_chooseLastBlock_30 rfl ?_
    refine tz_iload_n 3 3 C dX5_chooseLastBlock_32 rfl rfl ?_
    refine tz_icmp_ge 77 C dX5_chooseLastBlock_33 (by decide) h (fun c_12 h => ?_) (fun c_12 h => ?_)
    · refine tz_aload_n 0 0 C dX5_chooseLastBlock_77 rfl rfl ?_
      refine tz_getR C dX5_chooseLastBlock_78 fl_RX5_11 (by decide) rfl rfl ?_
      refine tz_iload_n 2 2 C dX5_chooseLastBlock_81 rfl rfl ?_
      obtain ⟨hin_13, h⟩ := h
      refine tz_aald C dX5_chooseLastBlock_82 (by decide) rfl hin_13 ?_
      refine tz_iload_n 3 3 C dX5_chooseLastBlock_83 rfl rfl ?_
      refine tz_iload 4 C dX5_chooseLastBlock_84 rfl ?_
      refine tz_iast_c _ C dX5_chooseLastBlock_86 (tz_rowlt hin_13 (by decide)) (tz_rows hin_13 (by decide)) hin_4 rfl h (fun σ_14 h => ?_)
      refine tz_aload_n 0 0 C dX5_chooseLastBlock_87 rfl rfl ?_
      refine tz_getR C dX5_chooseLastBlock_88 fl_RX5_16 (by decide) rfl rfl ?_
      refine tz_iload_n 2 2 C dX5_chooseLastBlock_91 rfl rfl ?_
      refine tz_aald C dX5_chooseLastBlock_92 (by decide) rfl hin_13 ?_
      refine tz_iload_n 3 3 C dX5_chooseLastBlock_93 rfl rfl ?_
      refine tz_iload 5 C dX5_chooseLastBlock_94 rfl ?_
      refine tz_iast_c _ C dX5_chooseLastBlock_96 (tz_rowlt hin_13 (by decide)) (tz_rows hin_13 (by decide)) hin_4 rfl h (fun σ_16 h => ?_)
      exact hret _ _ _ dX5_chooseLastBlock_97 h
    · refine tz_aload_n 0 0 C dX5_chooseLastBlock_36 rfl rfl ?_
      refine tz_getR C dX5_chooseLastBlock_37 fl_RX5_11 (by decide) rfl rfl ?_
      refine tz_iload_n 2 2 C dX5_chooseLastBlock_40 rfl rfl ?_
      refine tz_iconst 1 (by decide) C dX5_chooseLastBlock_41 ?_
      refine tz_isub C dX5_chooseLastBlock_42 ?_
      refine tz_aald C dX5_chooseLastBlock_43 (by decide) rfl hin_1 ?_
      refine tz_iload 6 C dX5_chooseLastBlock_44 rfl ?_
      obtain ⟨hin_18, h⟩ := h
      refine tz_iald C dX5_chooseLastBlock_46 (tz_rowlt hin_1 (by decide)) (tz_rows hin_1 (by decide)) hin_18 ?_
      refine tz_aload_n 1 1 C dX5_chooseLastBlock_47 rfl rfl ?_
      refine tz_iload 6 C dX5_chooseLastBlock_48 rfl ?_
      refine tz_aald C dX5_chooseLastBlock_50 (by decide) rfl hin_18 ?_
      refine tz_iload_n 3 3 C dX5_chooseLastBlock_51 rfl rfl ?_
      refine tz_iald C dX5_chooseLastBlock_52 (tz_rowlt hin_18 (by decide)) (tz_rows hin_18 (by decide)) hin_4 ?_
      refine tz_iadd C dX5_chooseLastBlock_53 ?_
      refine tz_istore [(0, .ref 99), (1, .ref 84), (2, .int x2), (3, .int x3), (4, .int x4_9), (5, .int x5_10), (6, .int x6_11)] C dX5_chooseLastBlock_54 (Nat.le_of_ble_eq_true rfl) rfl h (fun x7_20 h => ?_)
      refine tz_iload 0 C dX5_chooseLastBlock_56 rfl ?_
      refine tz_iload 5 C dX5_chooseLastBlock_58 rfl ?_
      refine tz_icmp_ge 71 C dX5_chooseLastBlock_60 (by decide) h (fun c_21 h => ?_) (fun c_21 h => ?_)
      · refine tz_iinc 7 [(7, .int x7_20), (0, .ref 99), (1, .ref 84), (2, .int x2), (3, .int x3), (4, .int x4_9), (5, .int x5_10)] 1 C dX5_chooseLastBlock_71 (by decide) rfl (Nat.le_of_ble_eq_true rfl) rfl h (fun x6_22 h => ?_)
        refine tz_goto 30 C dX5_chooseLastBlock_74 (by decide) ?_
        exact tz_sub (ihag_7 _ _ _ _ h) [2, 3, 4, 5, 6, 7, 0] rfl
      · refine tz_iload 0 C dX5_chooseLastBlock_63 rfl ?_
        refine tz_istore_k [(7, .int x7_20), (0, .ref 99), (1, .ref 84), (2, .int x2), (3, .int x3), (5, .int x5_10), (6, .int x6_11)] C dX5_chooseLastBlock_65 (Nat.le_of_ble_eq_true rfl) rfl ?_
        refine tz_iload 7 C dX5_chooseLastBlock_67 rfl ?_
        refine tz_istore_k [(4, .int x7_20), (7, .int x7_20), (0, .ref 99), (1, .ref 84), (2, .int x2), (3, .int x3), (6, .int x6_11)] C dX5_chooseLastBlock_69 (Nat.le_of_ble_eq_true rfl) rfl ?_
        refine tz_iinc 7 [(5, .int x6_11), (4, .int x7_20), (7, .int x7_20), (0, .ref 99), (1, .ref 84), (2, .int x2), (3, .int x3)] 1 C dX5_chooseLastBlock_71 (by decide) rfl (Nat.le_of_ble_eq_true rfl) rfl h (fun x6_23 h => ?_)
        refine tz_goto 30 C dX5_chooseLastBlock_74 (by decide) ?_
        exact tz_sub (ihag_7 _ _ _ _ h) [4, 5, 6, 7, 2, 1, 0] rfl

def vc_X5_fill (a0 : Nat) (a1 : Nat) (x2 : Int32) (σ : tzS) (Q : tzS → Prop) : Prop :=
  tz_loop1 (fun (x3_3 : Int32) (σ_2 : tzS) (ag_1 : Int32 → tzS → Prop) =>
    (x2 < x3_3 →
      tz_loop1 (fun (x3_7 : Int32) (σ_6 : tzS) (ag_5 : Int32 → tzS → Prop) =>
        ((8 : Int32) < x3_7 →
          Q σ_6) ∧
        (¬ (8 : Int32) < x3_7 →
          tz_loop1 (fun (x4_11 : Int32) (σ_10 : tzS) (ag_9 : Int32 → tzS → Prop) =>
            (x2 < x4_11 →
              ∀ x3_13 : Int32, x3_13 = x3_7 + 1 →
              ag_5 x3_13 σ_10) ∧
            (¬ x2 < x4_11 →
              vc_X5_chooseLastBlock a0 a1 x3_7 x4_11 σ_10 (fun (σ_14 : tzS) =>
                ∀ x4_15 : Int32, x4_15 = x4_11 + 1 →
                ag_9 x4_15 σ_14))) x3_7 σ_6)) (2 : Int32) σ_2) ∧
    (¬ x2 < x3_3 →
      vp_in x3_3 13 ∧ (
        ∀ σ_17 : tzS, σ_17 = tz_st σ_2 (a0 + 3) x3_3.toNatClampNeg (σ_2.1 (a1 + 1) x3_3.toNatClampNeg) →
        ∀ σ_18 : tzS, σ_18 = tz_st σ_17 (a0 + 13) x3_3.toNatClampNeg 0 →
        ∀ x3_19 : Int32, x3_19 = x3_3 + 1 →
        ag_1 x3_19 σ_18))) (1 : Int32) σ
set_option maxRecDepth 20000 in
set_option maxHeartbeats 4000000 in
theorem m_X5_fill (G : tzG) (hG : tz_ok G) {a0 : Nat} {a1 : Nat} {x2 : Int32} (ha0 : a0 = 59 ∨ a0 = 99) (ha1 : a1 = 44 ∨ a1 = 84) {σ : tzS} {Q : tzS → Prop} (h : vc_X5_fill a0 a1 x2 σ Q) : tz_M G yX5_fill cX5_fill 5 (none) 1 27 [.ref a0, .ref a1, .int x2] σ (tz_Qv G Q) := by
  rcases ha0 with rfl | rfl <;> rcases ha1 with rfl | rfl
  · unfold vc_X5_fill at h
    refine tz_startv hG RX5 [(0, .ref 59), (1, .ref 44), (2, .int x2)] (by decide) rfl (Nat.le_of_ble_eq_true rfl) rfl (fun E C hret => ?_)
    refine tz_iconst 1 (by decide) C dX5_fill_0 ?_
    refine tz_istore_n_k 3 [(0, .ref 59), (1, .ref 44), (2, .int x2)] C dX5_fill_1 rfl (Nat.le_of_ble_eq_true rfl) rfl ?_
    refine tz_sub (L := [(0, .ref 59), (1, .ref 44), (2, .int x2), (3, .int 1)]) ?_ [1, 2, 3, 0] rfl
    refine tz_loop1_w (V := fun (x3_3 : Int32) (σ_2 : tzS) => tz_V G E 2 [(0, .ref 59), (1, .ref 44), (2, .int x2), (3, .int x3_3)] [] σ_2) h (fun ag_1 ihag_1 x3_3 σ_2 h => ?_)
    refine tz_iload_n 3 3 C dX5_fill_2 rfl rfl ?_
    refine tz_iload_n 2 2 C dX5_fill_3 rfl rfl ?_
    refine tz_icmp_gt 35 C dX5_fill_4 (by decide) h (fun c_4 h => ?_) (fun c_4 h => ?_)
    · refine tz_iconst 2 (by decide) C dX5_fill_35 ?_
      refine tz_istore_n_k 3 [(0, .ref 59), (1, .ref 44), (2, .int x2)] C dX5_fill_36 rfl (Nat.le_of_ble_eq_true rfl) rfl ?_
      refine tz_sub (L := [(0, .ref 59), (1, .ref 44), (2, .int x2), (3, .int 2)]) ?_ [1, 2, 3, 0] rfl
      refine tz_loop1_w (V := fun (x3_7 : Int32) (σ_6 : tzS) => tz_V G E 37 [(0, .ref 59), (1, .ref 44), (2, .int x2), (3, .int x3_7)] [] σ_6) h (fun ag_5 ihag_5 x3_7 σ_6 h => ?_)
      refine tz_iload_n 3 3 C dX5_fill_37 rfl rfl ?_
      refine tz_bipush 8 (by decide) C dX5_fill_38 ?_
      refine tz_icmp_gt 72 C dX5_fill_40 (by decide) h (fun c_8 h => ?_) (fun c_8 h => ?_)
      · exact hret _ _ _ dX5_fill_72 h
      · refine tz_iload_n 3 3 C dX5_fill_43 rfl rfl ?_
        refine tz_istore_k [(0, .ref 59), (1, .ref 44), (2, .int x2), (3, .int x3_7)] C dX5_fill_44 (Nat.le_of_ble_eq_true rfl) rfl ?_
        refine tz_sub (L := [(0, .ref 59), (1, .ref 44), (2, .int x2), (3, .int x3_7), (4, .int x3_7)]) ?_ [1, 2, 3, 4, 0] rfl
        refine tz_loop1_w (V := fun (x4_11 : Int32) (σ_10 : tzS) => tz_V G E 46 [(0, .ref 59), (1, .ref 44), (2, .int x2), (3, .int x3_7), (4, .int x4_11)] [] σ_10) h (fun ag_9 ihag_9 x4_11 σ_10 h => ?_)
        refine tz_iload 4 C dX5_fill_46 rfl ?_
        refine tz_iload_n 2 2 C dX5_fill_48 rfl rfl ?_
        refine tz_icmp_gt 66 C dX5_fill_49 (by decide) h (fun c_12 h => ?_) (fun c_12 h => ?_)
        · refine tz_iinc 3 [(0, .ref 59), (1, .ref 44), (2, .int x2), (4, .int x4_11)] 1 C dX5_fill_66 (by decide) rfl (Nat.le_of_ble_eq_true rfl) rfl h (fun x3_13 h => ?_)
          refine tz_goto 37 C dX5_fill_69 (by decide) ?_
          exact tz_sub (ihag_5 _ _ h) [1, 2, 3, 0] rfl
        · refine tz_aload_n 0 0 C dX5_fill_52 rfl rfl ?_
          refine tz_aload_n 1 1 C dX5_fill_53 rfl rfl ?_
          refine tz_iload_n 3 3 C dX5_fill_54 rfl rfl ?_
          refine tz_iload 4 C dX5_fill_55 rfl ?_
          refine tz_callvv C dX5_fill_57 lk_RX5_19 (m_X5_chooseLastBlock G hG (by decide) (by decide) h) (by decide) rfl rfl rfl rfl ⟨Nat.le_of_ble_eq_true rfl, Nat.le_of_ble_eq_true rfl⟩ (Nat.le_of_ble_eq_true rfl) rfl (fun σ_14 h => ?_)
          refine tz_iinc 4 [(0, .ref 59), (1, .ref 44), (2, .int x2), (3, .int x3_7)] 1 C dX5_fill_60 (by decide) rfl (Nat.le_of_ble_eq_true rfl) rfl h (fun x4_15 h => ?_)
          refine tz_goto 46 C dX5_fill_63 (by decide) ?_
          exact tz_sub (ihag_9 _ _ h) [1, 2, 3, 4, 0] rfl
    · refine tz_aload_n 0 0 C dX5_fill_7 rfl rfl ?_
      refine tz_getR C dX5_fill_8 fl_RX5_11 (by decide) rfl rfl ?_
      refine tz_iconst 1 (by decide) C dX5_fill_11 ?_
      refine tz_aald_c 1 C dX5_fill_12 (by decide) rfl (tz_inl rfl) rfl ?_
      refine tz_iload_n 3 3 C dX5_fill_13 rfl rfl ?_
      refine tz_aload_n 1 1 C dX5_fill_14 rfl rfl ?_
      refine tz_iconst 0 (by decide) C dX5_fill_15 ?_
      refine tz_aald_c 0 C dX5_fill_16 (by decide) rfl (tz_inl rfl) rfl ?_
      refine tz_iload_n 3 3 C dX5_fill_17 rfl rfl ?_
      obtain ⟨hin_16, h⟩ := h
      refine tz_iald C dX5_fill_18 (by decide) rfl hin_16 ?_
      refine tz_iast_c _ C dX5_fill_19 (by decide) rfl hin_16 rfl h (fun σ_17 h => ?_)
      refine tz_aload_n 0 0 C dX5_fill_20 rfl rfl ?_
      refine tz_getR C dX5_fill_21 fl_RX5_16 (by decide) rfl rfl ?_
      refine tz_iconst 1 (by decide) C dX5_fill_24 ?_
      refine tz_aald_c 1 C dX5_fill_25 (by decide) rfl (tz_inl rfl) rfl ?_
      refine tz_iload_n 3 3 C dX5_fill_26 rfl rfl ?_
      refine tz_iconst 0 (by decide) C dX5_fill_27 ?_
      refine tz_iast_c _ C dX5_fill_28 (by decide) rfl hin_16 rfl h (fun σ_18 h => ?_)
      refine tz_iinc 3 [(0, .ref 59), (1, .ref 44), (2, .int x2)] 1 C dX5_fill_29 (by decide) rfl (Nat.le_of_ble_eq_true rfl) rfl h (fun x3_19 h => ?_)
      refine tz_goto 2 C dX5_fill_32 (by decide) ?_
      exact tz_sub (ihag_1 _ _ h) [1, 2, 3, 0] rfl
  · unfold vc_X5_fill at h
    refine tz_startv hG RX5 [(0, .ref 59), (1, .ref 84), (2, .int x2)] (by decide) rfl (Nat.le_of_ble_eq_true rfl) rfl (fun E C hret => ?_)
    refine tz_iconst 1 (by decide) C dX5_fill_0 ?_
    refine tz_istore_n_k 3 [(0, .ref 59), (1, .ref 84), (2, .int x2)] C dX5_fill_1 rfl (Nat.le_of_ble_eq_true rfl) rfl ?_
    refine tz_sub (L := [(0, .ref 59), (1, .ref 84), (2, .int x2), (3, .int 1)]) ?_ [1, 2, 3, 0] rfl
    refine tz_loop1_w (V := fun (x3_3 : Int32) (σ_2 : tzS) => tz_V G E 2 [(0, .ref 59), (1, .ref 84), (2, .int x2), (3, .int x3_3)] [] σ_2) h (fun ag_1 ihag_1 x3_3 σ_2 h => ?_)
    refine tz_iload_n 3 3 C dX5_fill_2 rfl rfl ?_
    refine tz_iload_n 2 2 C dX5_fill_3 rfl rfl ?_
    refine tz_icmp_gt 35 C dX5_fill_4 (by decide) h (fun c_4 h => ?_) (fun c_4 h => ?_)
    · refine tz_iconst 2 (by decide) C dX5_fill_35 ?_
      refine tz_istore_n_k 3 [(0, .ref 59), (1, .ref 84), (2, .int x2)] C dX5_fill_36 rfl (Nat.le_of_ble_eq_true rfl) rfl ?_
      refine tz_sub (L := [(0, .ref 59), (1, .ref 84), (2, .int x2), (3, .int 2)]) ?_ [1, 2, 3, 0] rfl
      refine tz_loop1_w (V := fun (x3_7 : Int32) (σ_6 : tzS) => tz_V G E 37 [(0, .ref 59), (1, .ref 84), (2, .int x2), (3, .int x3_7)] [] σ_6) h (fun ag_5 ihag_5 x3_7 σ_6 h => ?_)
      refine tz_iload_n 3 3 C dX5_fill_37 rfl rfl ?_
      refine tz_bipush 8 (by decide) C dX5_fill_38 ?_
      refine tz_icmp_gt 72 C dX5_fill_40 (by decide) h (fun c_8 h => ?_) (fun c_8 h => ?_)
      · exact hret _ _ _ dX5_fill_72 h
      · refine tz_iload_n 3 3 C dX5_fill_43 rfl rfl ?_
        refine tz_istore_k [(0, .ref 59), (1, .ref 84), (2, .int x2), (3, .int x3_7)] C dX5_fill_44 (Nat.le_of_ble_eq_true rfl) rfl ?_
        refine tz_sub (L := [(0, .ref 59), (1, .ref 84), (2, .int x2), (3, .int x3_7), (4, .int x3_7)]) ?_ [1, 2, 3, 4, 0] rfl
        refine tz_loop1_w (V := fun (x4_11 : Int32) (σ_10 : tzS) => tz_V G E 46 [(0, .ref 59), (1, .ref 84), (2, .int x2), (3, .int x3_7), (4, .int x4_11)] [] σ_10) h (fun ag_9 ihag_9 x4_11 σ_10 h => ?_)
        refine tz_iload 4 C dX5_fill_46 rfl ?_
        refine tz_iload_n 2 2 C dX5_fill_48 rfl rfl ?_
        refine tz_icmp_gt 66 C dX5_fill_49 (by decide) h (fun c_12 h => ?_) (fun c_12 h => ?_)
        · refine tz_iinc 3 [(0, .ref 59), (1, .ref 84), (2, .int x2), (4, .int x4_11)] 1 C dX5_fill_66 (by decide) rfl (Nat.le_of_ble_eq_true rfl) rfl h (fun x3_13 h => ?_)
          refine tz_goto 37 C dX5_fill_69 (by decide) ?_
          exact tz_sub (ihag_5 _ _ h) [1, 2, 3, 0] rfl
        · refine tz_aload_n 0 0 C dX5_fill_52 rfl rfl ?_
          refine tz_aload_n 1 1 C dX5_fill_53 rfl rfl ?_
          refine tz_iload_n 3 3 C dX5_fill_54 rfl rfl ?_
          refine tz_iload 4 C dX5_fill_55 rfl ?_
          refine tz_callvv C dX5_fill_57 lk_RX5_19 (m_X5_chooseLastBlock G hG (by decide) (by decide) h) (by decide) rfl rfl rfl rfl ⟨Nat.le_of_ble_eq_true rfl, Nat.le_of_ble_eq_true rfl⟩ (Nat.le_of_ble_eq_true rfl) rfl (fun σ_14 h => ?_)
          refine tz_iinc 4 [(0, .ref 59), (1, .ref 84), (2, .int x2), (3, .int x3_7)] 1 C dX5_fill_60 (by decide) rfl (Nat.le_of_ble_eq_true rfl) rfl h (fun x4_15 h => ?_)
          refine tz_goto 46 C dX5_fill_63 (by decide) ?_
          exact tz_sub (ihag_9 _ _ h) [1, 2, 3, 4, 0] rfl
    · refine tz_aload_n 0 0 C dX5_fill_7 rfl rfl ?_
      refine tz_getR C dX5_fill_8 fl_RX5_11 (by decide) rfl rfl ?_
      refine tz_iconst 1 (by decide) C dX5_fill_11 ?_
      refine tz_aald_c 1 C dX5_fill_12 (by decide) rfl (tz_inl rfl) rfl ?_
      refine tz_iload_n 3 3 C dX5_fill_13 rfl rfl ?_
      refine tz_aload_n 1 1 C dX5_fill_14 rfl rfl ?_
      refine tz_iconst 0 (by decide) C dX5_fill_15 ?_
      refine tz_aald_c 0 C dX5_fill_16 (by decide) rfl (tz_inl rfl) rfl ?_
      refine tz_iload_n 3 3 C dX5_fill_17 rfl rfl ?_
      obtain ⟨hin_16, h⟩ := h
      refine tz_iald C dX5_fill_18 (by decide) rfl hin_16 ?_
      refine tz_iast_c _ C dX5_fill_19 (by decide) rfl hin_16 rfl h (fun σ_17 h => ?_)
      refine tz_aload_n 0 0 C dX5_fill_20 rfl rfl ?_
      refine tz_getR C dX5_fill_21 fl_RX5_16 (by decide) rfl rfl ?_
      refine tz_iconst 1 (by decide) C dX5_fill_24 ?_
      refine tz_aald_c 1 C dX5_fill_25 (by decide) rfl (tz_inl rfl) rfl ?_
      refine tz_iload_n 3 3 C dX5_fill_26 rfl rfl ?_
      refine tz_iconst 0 (by decide) C dX5_fill_27 ?_
      refine tz_iast_c _ C dX5_fill_28 (by decide) rfl hin_16 rfl h (fun σ_18 h => ?_)
      refine tz_iinc 3 [(0, .ref 59), (1, .ref 84), (2, .int x2)] 1 C dX5_fill_29 (by decide) rfl (Nat.le_of_ble_eq_true rfl) rfl h (fun x3_19 h => ?_)
      refine tz_goto 2 C dX5_fill_32 (by decide) ?_
      exact tz_sub (ihag_1 _ _ h) [1, 2, 3, 0] rfl
  · unfold vc_X5_fill at h
    refine tz_startv hG RX5 [(0, .ref 99), (1, .ref 44), (2, .int x2)] (by decide) rfl (Nat.le_of_ble_eq_true rfl) rfl (fun E C hret => ?_)
    refine tz_iconst 1 (by decide) C dX5_fill_0 ?_
    refine tz_istore_n_k 3 [(0, .ref 99), (1, .ref 44), (2, .int x2)] C dX5_fill_1 rfl (Nat.le_of_ble_eq_true rfl) rfl ?_
    refine tz_sub (L := [(0, .ref 99), (1, .ref 44), (2, .int x2), (3, .int 1)]) ?_ [1, 2, 3, 0] rfl
    refine tz_loop1_w (V := fun (x3_3 : Int32) (σ_2 : tzS) => tz_V G E 2 [(0, .ref 99), (1, .ref 44), (2, .int x2), (3, .int x3_3)] [] σ_2) h (fun ag_1 ihag_1 x3_3 σ_2 h => ?_)
    refine tz_iload_n 3 3 C dX5_fill_2 rfl rfl ?_
    refine tz_iload_n 2 2 C dX5_fill_3 rfl rfl ?_
    refine tz_icmp_gt 35 C dX5_fill_4 (by decide) h (fun c_4 h => ?_) (fun c_4 h => ?_)
    · refine tz_iconst 2 (by decide) C dX5_fill_35 ?_
      refine tz_istore_n_k 3 [(0, .ref 99), (1, .ref 44), (2, .int x2)] C dX5_fill_36 rfl (Nat.le_of_ble_eq_true rfl) rfl ?_
      refine tz_sub (L := [(0, .ref 99), (1, .ref 44), (2, .int x2), (3, .int 2)]) ?_ [1, 2, 3, 0] rfl
      refine tz_loop1_w (V := fun (x3_7 : Int32) (σ_6 : tzS) => tz_V G E 37 [(0, .ref 99), (1, .ref 44), (2, .int x2), (3, .int x3_7)] [] σ_6) h (fun ag_5 ihag_5 x3_7 σ_6 h => ?_)
      refine tz_iload_n 3 3 C dX5_fill_37 rfl rfl ?_
      refine tz_bipush 8 (by decide) C dX5_fill_38 ?_
      refine tz_icmp_gt 72 C dX5_fill_40 (by decide) h (fun c_8 h => ?_) (fun c_8 h => ?_)
      · exact hret _ _ _ dX5_fill_72 h
      · refine tz_iload_n 3 3 C dX5_fill_43 rfl rfl ?_
        refine tz_istore_k [(0, .ref 99), (1, .ref 44), (2, .int x2), (3, .int x3_7)] C dX5_fill_44 (Nat.le_of_ble_eq_true rfl) rfl ?_
        refine tz_sub (L := [(0, .ref 99), (1, .ref 44), (2, .int x2), (3, .int x3_7), (4, .int x3_7)]) ?_ [1, 2, 3, 4, 0] rfl
        refine tz_loop1_w (V := fun (x4_11 : Int32) (σ_10 : tzS) => tz_V G E 46 [(0, .ref 99), (1, .ref 44), (2, .int x2), (3, .int x3_7), (4, .int x4_11)] [] σ_10) h (fun ag_9 ihag_9 x4_11 σ_10 h => ?_)
        refine tz_iload 4 C dX5_fill_46 rfl ?_
        refine tz_iload_n 2 2 C dX5_fill_48 rfl rfl ?_
        refine tz_icmp_gt 66 C dX5_fill_49 (by decide) h (fun c_12 h => ?_) (fun c_12 h => ?_)
        · refine tz_iinc 3 [(0, .ref 99), (1, .ref 44), (2, .int x2), (4, .int x4_11)] 1 C dX5_fill_66 (by decide) rfl (Nat.le_of_ble_eq_true rfl) rfl h (fun x3_13 h => ?_)
          refine tz_goto 37 C dX5_fill_69 (by decide) ?_
          exact tz_sub (ihag_5 _ _ h) [1, 2, 3, 0] rfl
        · refine tz_aload_n 0 0 C dX5_fill_52 rfl rfl ?_
          refine tz_aload_n 1 1 C dX5_fill_53 rfl rfl ?_
          refine tz_iload_n 3 3 C dX5_fill_54 rfl rfl ?_
          refine tz_iload 4 C dX5_fill_55 rfl ?_
          refine tz_callvv C dX5_fill_57 lk_RX5_19 (m_X5_chooseLastBlock G hG (by decide) (by decide) h) (by decide) rfl rfl rfl rfl ⟨Nat.le_of_ble_eq_true rfl, Nat.le_of_ble_eq_true rfl⟩ (Nat.le_of_ble_eq_true rfl) rfl (fun σ_14 h => ?_)
          refine tz_iinc 4 [(0, .ref 99), (1, .ref 44), (2, .int x2), (3, .int x3_7)] 1 C dX5_fill_60 (by decide) rfl (Nat.le_of_ble_eq_true rfl) rfl h (fun x4_15 h => ?_)
          refine tz_goto 46 C dX5_fill_63 (by decide) ?_
          exact tz_sub (ihag_9 _ _ h) [1, 2, 3, 4, 0] rfl
    · refine tz_aload_n 0 0 C dX5_fill_7 rfl rfl ?_
      refine tz_getR C dX5_fill_8 fl_RX5_11 (by decide) rfl rfl ?_
      refine tz_iconst 1 (by decide) C dX5_fill_11 ?_
      refine tz_aald_c 1 C dX5_fill_12 (by decide) rfl (tz_inl rfl) rfl ?_
      refine tz_iload_n 3 3 C dX5_fill_13 rfl rfl ?_
      refine tz_aload_n 1 1 C dX5_fill_14 rfl rfl ?_
      refine tz_iconst 0 (by decide) C dX5_fill_15 ?_
      refine tz_aald_c 0 C dX5_fill_16 (by decide) rfl (tz_inl rfl) rfl ?_
      refine tz_iload_n 3 3 C dX5_fill_17 rfl rfl ?_
      obtain ⟨hin_16, h⟩ := h
      refine tz_iald C dX5_fill_18 (by decide) rfl hin_16 ?_
      refine tz_iast_c _ C dX5_fill_19 (by decide) rfl hin_16 rfl h (fun σ_17 h => ?_)
      refine tz_aload_n 0 0 C dX5_fill_20 rfl rfl ?_
      refine tz_getR C dX5_fill_21 fl_RX5_16 (by decide) rfl rfl ?_
      refine tz_iconst 1 (by decide) C dX5_fill_24 ?_
      refine tz_aald_c 1 C dX5_fill_25 (by decide) rfl (tz_inl rfl) rfl ?_
      refine tz_iload_n 3 3 C dX5_fill_26 rfl rfl ?_
      refine tz_iconst 0 (by decide) C dX5_fill_27 ?_
      refine tz_iast_c _ C dX5_fill_28 (by decide) rfl hin_16 rfl h (fun σ_18 h => ?_)
      refine tz_iinc 3 [(0, .ref 99), (1, .ref 44), (2, .int x2)] 1 C dX5_fill_29 (by decide) rfl (Nat.le_of_ble_eq_true rfl) rfl h (fun x3_19 h => ?_)
      refine tz_goto 2 C dX5_fill_32 (by decide) ?_
      exact tz_sub (ihag_1 _ _ h) [1, 2, 3, 0] rfl
  · unfold vc_X5_fill at h
    refine tz_startv hG RX5 [(0, .ref 99), (1, .ref 84), (2, .int x2)] (by decide) rfl (Nat.le_of_ble_eq_true rfl) rfl (fun E C hret => ?_)
    refine tz_iconst 1 (by decide) C dX5_fill_0 ?_
    refine tz_istore_n_k 3 [(0, .ref 99), (1, .ref 84), (2, .int x2)] C dX5_fill_1 rfl (Nat.le_of_ble_eq_true rfl) rfl ?_
    refine tz_sub (L := [(0, .ref 99), (1, .ref 84), (2, .int x2), (3, .int 1)]) ?_ [1, 2, 3, 0] rfl
    refine tz_loop1_w (V := fun (x3_3 : Int32) (σ_2 : tzS) => tz_V G E 2 [(0, .ref 99), (1, .ref 84), (2, .int x2), (3, .int x3_3)] [] σ_2) h (fun ag_1 ihag_1 x3_3 σ_2 h => ?_)
    refine tz_iload_n 3 3 C dX5_fill_2 rfl rfl ?_
    refine tz_iload_n 2 2 C dX5_fill_3 rfl rfl ?_
    refine tz_icmp_gt 35 C dX5_fill_4 (by decide) h (fun c_4 h => ?_) (fun c_4 h => ?_)
    · refine tz_iconst 2 (by decide) C dX5_fill_35 ?_
      refine tz_istore_n_k 3 [(0, .ref 99), (1, .ref 84), (2, .int x2)] C dX5_fill_36 rfl (Nat.le_of_ble_eq_true rfl) rfl ?_
      refine tz_sub (L := [(0, .ref 99), (1, .ref 84), (2, .int x2), (3, .int 2)]) ?_ [1, 2, 3, 0] rfl
      refine tz_loop1_w (V := fun (x3_7 : Int32) (σ_6 : tzS) => tz_V G E 37 [(0, .ref 99), (1, .ref 84), (2, .int x2), (3, .int x3_7)] [] σ_6) h (fun ag_5 ihag_5 x3_7 σ_6 h => ?_)
      refine tz_iload_n 3 3 C dX5_fill_37 rfl rfl ?_
      refine tz_bipush 8 (by decide) C dX5_fill_38 ?_
      refine tz_icmp_gt 72 C dX5_fill_40 (by decide) h (fun c_8 h => ?_) (fun c_8 h => ?_)
      · exact hret _ _ _ dX5_fill_72 h
      · refine tz_iload_n 3 3 C dX5_fill_43 rfl rfl ?_
        refine tz_istore_k [(0, .ref 99), (1, .ref 84), (2, .int x2), (3, .int x3_7)] C dX5_fill_44 (Nat.le_of_ble_eq_true rfl) rfl ?_
        refine tz_sub (L := [(0, .ref 99), (1, .ref 84), (2, .int x2), (3, .int x3_7), (4, .int x3_7)]) ?_ [1, 2, 3, 4, 0] rfl
        refine tz_loop1_w (V := fun (x4_11 : Int32) (σ_10 : tzS) => tz_V G E 46 [(0, .ref 99), (1, .ref 84), (2, .int x2), (3, .int x3_7), (4, .int x4_11)] [] σ_10) h (fun ag_9 ihag_9 x4_11 σ_10 h => ?_)
        refine tz_iload 4 C dX5_fill_46 rfl ?_
        refine tz_iload_n 2 2 C dX5_fill_48 rfl rfl ?_
        refine tz_icmp_gt 66 C dX5_fill_49 (by decide) h (fun c_12 h => ?_) (fun c_12 h => ?_)
        · refine tz_iinc 3 [(0, .ref 99), (1, .ref 84), (2, .int x2), (4, .int x4_11)] 1 C dX5_fill_66 (by decide) rfl (Nat.le_of_ble_eq_true rfl) rfl h (fun x3_13 h => ?_)
          refine tz_goto 37 C dX5_fill_69 (by decide) ?_
          exact tz_sub (ihag_5 _ _ h) [1, 2, 3, 0] rfl
        · refine tz_aload_n 0 0 C dX5_fill_52 rfl rfl ?_
          refine tz_aload_n 1 1 C dX5_fill_53 rfl rfl ?_
          refine tz_iload_n 3 3 C dX5_fill_54 rfl rfl ?_
          refine tz_iload 4 C dX5_fill_55 rfl ?_
          refine tz_callvv C dX5_fill_57 lk_RX5_19 (m_X5_chooseLastBlock G hG (by decide) (by decide) h) (by decide) rfl rfl rfl rfl ⟨Nat.le_of_ble_eq_true rfl, Nat.le_of_ble_eq_true rfl⟩ (Nat.le_of_ble_eq_true rfl) rfl (fun σ_14 h => ?_)
          refine tz_iinc 4 [(0, .ref 99), (1, .ref 84), (2, .int x2), (3, .int x3_7)] 1 C dX5_fill_60 (by decide) rfl (Nat.le_of_ble_eq_true rfl) rfl h (fun x4_15 h => ?_)
          refine tz_goto 46 C dX5_fill_63 (by decide) ?_
          exact tz_sub (ihag_9 _ _ h) [1, 2, 3, 4, 0] rfl
    · refine tz_aload_n 0 0 C dX5_fill_7 rfl rfl ?_
      refine tz_getR C dX5_fill_8 fl_RX5_11 (by decide) rfl rfl ?_
      refine tz_iconst 1 (by decide) C dX5_fill_11 ?_
      refine tz_aald_c 1 C dX5_fill_12 (by decide) rfl (tz_inl rfl) rfl ?_
      refine tz_iload_n 3 3 C dX5_fill_13 rfl rfl ?_
      refine tz_aload_n 1 1 C dX5_fill_14 rfl rfl ?_
      refine tz_iconst 0 (by decide) C dX5_fill_15 ?_
      refine tz_aald_c 0 C dX5_fill_16 (by decide) rfl (tz_inl rfl) rfl ?_
      refine tz_iload_n 3 3 C dX5_fill_17 rfl rfl ?_
      obtain ⟨hin_16, h⟩ := h
      refine tz_iald C dX5_fill_18 (by decide) rfl hin_16 ?_
      refine tz_iast_c _ C dX5_fill_19 (by decide) rfl hin_16 rfl h (fun σ_17 h => ?_)
      refine tz_aload_n 0 0 C dX5_fill_20 rfl rfl ?_
      refine tz_getR C dX5_fill_21 fl_RX5_16 (by decide) rfl rfl ?_
      refine tz_iconst 1 (by decide) C dX5_fill_24 ?_
      refine tz_aald_c 1 C dX5_fill_25 (by decide) rfl (tz_inl rfl) rfl ?_
      refine tz_iload_n 3 3 C dX5_fill_26 rfl rfl ?_
      refine tz_iconst 0 (by decide) C dX5_fill_27 ?_
      refine tz_iast_c _ C dX5_fill_28 (by decide) rfl hin_16 rfl h (fun σ_18 h => ?_)
      refine tz_iinc 3 [(0, .ref 99), (1, .ref 84), (2, .int x2)] 1 C dX5_fill_29 (by decide) rfl (Nat.le_of_ble_eq_true rfl) rfl h (fun x3_19 h => ?_)
      refine tz_goto 2 C dX5_fill_32 (by decide) ?_
      exact tz_sub (ihag_1 _ _ h) [1, 2, 3, 0] rfl

def vc_X5_totalOf (a0 : Nat) (x1 : Int32) (x2 : Int32) (σ : tzS) (Q : Int32 → tzS → Prop) : Prop :=
  vp_in x1 9 ∧ (
    vp_in x2 13 ∧ (
      Q (σ.1 ((a0 + 2) + x1.toNatClampNeg) x2.toNatClampNeg) σ))
set_option maxRecDepth 20000 in
set_option maxHeartbeats 4000000 in
theorem m_X5_totalOf (G : tzG) (hG : tz_ok G) {a0 : Nat} {x1 : Int32} {x2 : Int32} (ha0 : a0 = 59 ∨ a0 = 99) {σ : tzS} {Q : Int32 → tzS → Prop} (h : vc_X5_totalOf a0 x1 x2 σ Q) : tz_M G yX5_totalOf cX5_totalOf 3 (some .int) 0 0 [.ref a0, .int x1, .int x2] σ (tz_Qi G Q) := by
  rcases ha0 with rfl | rfl
  · unfold vc_X5_totalOf at h
    refine tz_starti hG RX5 [(0, .ref 59), (1, .int x1), (2, .int x2)] (by decide) rfl (Nat.le_of_ble_eq_true rfl) rfl (fun E C hret => ?_)
    refine tz_aload_n 0 0 C dX5_totalOf_0 rfl rfl ?_
    refine tz_getR C dX5_totalOf_1 fl_RX5_11 (by decide) rfl rfl ?_
    refine tz_iload_n 1 1 C dX5_totalOf_4 rfl rfl ?_
    obtain ⟨hin_1, h⟩ := h
    refine tz_aald C dX5_totalOf_5 (by decide) rfl hin_1 ?_
    refine tz_iload_n 2 2 C dX5_totalOf_6 rfl rfl ?_
    obtain ⟨hin_2, h⟩ := h
    refine tz_iald C dX5_totalOf_7 (tz_rowlt hin_1 (by decide)) (tz_rows hin_1 (by decide)) hin_2 ?_
    exact hret _ _ _ _ dX5_totalOf_8 h
  · unfold vc_X5_totalOf at h
    refine tz_starti hG RX5 [(0, .ref 99), (1, .int x1), (2, .int x2)] (by decide) rfl (Nat.le_of_ble_eq_true rfl) rfl (fun E C hret => ?_)
    refine tz_aload_n 0 0 C dX5_totalOf_0 rfl rfl ?_
    refine tz_getR C dX5_totalOf_1 fl_RX5_11 (by decide) rfl rfl ?_
    refine tz_iload_n 1 1 C dX5_totalOf_4 rfl rfl ?_
    obtain ⟨hin_1, h⟩ := h
    refine tz_aald C dX5_totalOf_5 (by decide) rfl hin_1 ?_
    refine tz_iload_n 2 2 C dX5_totalOf_6 rfl rfl ?_
    obtain ⟨hin_2, h⟩ := h
    refine tz_iald C dX5_totalOf_7 (tz_rowlt hin_1 (by decide)) (tz_rows hin_1 (by decide)) hin_2 ?_
    exact hret _ _ _ _ dX5_totalOf_8 h

def vc_X2_weigh (x1 : Int32) (x2 : Int32) (x3 : Int32) (σ : tzS) (Q : tzS → Prop) : Prop :=
  vp_in x1 9 ∧ (
    ((σ.1 81 x1.toNatClampNeg) = (-1) →
      ∀ σ_3 : tzS, σ_3 = tz_st σ 81 x1.toNatClampNeg x2 →
      ∀ σ_4 : tzS, σ_4 = tz_st σ_3 82 x1.toNatClampNeg x3 →
      Q σ_4) ∧
    (¬ (σ.1 81 x1.toNatClampNeg) = (-1) →
      (x3 < (σ.1 82 x1.toNatClampNeg) →
        ∀ σ_6 : tzS, σ_6 = tz_st σ 81 x1.toNatClampNeg x2 →
        ∀ σ_7 : tzS, σ_7 = tz_st σ_6 82 x1.toNatClampNeg x3 →
        Q σ_7) ∧
      (¬ x3 < (σ.1 82 x1.toNatClampNeg) →
        Q σ)))
set_option maxRecDepth 20000 in
set_option maxHeartbeats 4000000 in
theorem m_X2_weigh (G : tzG) (hG : tz_ok G) {x1 : Int32} {x2 : Int32} {x3 : Int32}  {σ : tzS} {Q : tzS → Prop} (h : vc_X2_weigh x1 x2 x3 σ Q) : tz_M G yX2_weigh cX2_weigh 4 (none) 0 0 [.ref 80, .int x1, .int x2, .int x3] σ (tz_Qv G Q) := by
  unfold vc_X2_weigh at h
  refine tz_startv hG RX2 [(0, .ref 80), (1, .int x1), (2, .int x2), (3, .int x3)] (by decide) rfl (Nat.le_of_ble_eq_true rfl) rfl (fun E C hret => ?_)
  refine tz_aload_n 0 0 C dX2_weigh_0 rfl rfl ?_
  refine tz_getR C dX2_weigh_1 fl_RX2_9 (by decide) rfl rfl ?_
  refine tz_iload_n 1 1 C dX2_weigh_4 rfl rfl ?_
  obtain ⟨hin_1, h⟩ := h
  refine tz_iald C dX2_weigh_5 (by decide) rfl hin_1 ?_
  refine tz_iconst (-1) (by decide) C dX2_weigh_6 ?_
  refine tz_icmp_eq 21 C dX2_weigh_7 (by decide) h (fun c_2 h => ?_) (fun c_2 h => ?_)
  · refine tz_aload_n 0 0 C dX2_weigh_21 rfl rfl ?_
    refine tz_getR C dX2_weigh_22 fl_RX2_9 (by decide) rfl rfl ?_
    refine tz_iload_n 1 1 C dX2_weigh_25 rfl rfl ?_
    refine tz_iload_n 2 2 C dX2_weigh_26 rfl rfl ?_
    refine tz_iast_c _ C dX2_weigh_27 (by decide) rfl hin_1 rfl h (fun σ_3 h => ?_)
    refine tz_aload_n 0 0 C dX2_weigh_28 rfl rfl ?_
    refine tz_getR C dX2_weigh_29 fl_RX2_15 (by decide) rfl rfl ?_
    refine tz_iload_n 1 1 C dX2_weigh_32 rfl rfl ?_
    refine tz_iload_n 3 3 C dX2_weigh_33 rfl rfl ?_
    refine tz_iast_c _ C dX2_weigh_34 (by decide) rfl hin_1 rfl h (fun σ_4 h => ?_)
    exact hret _ _ _ dX2_weigh_35 h
  · refine tz_iload_n 3 3 C dX2_weigh_10 rfl rfl ?_
    refine tz_aload_n 0 0 C dX2_weigh_11 rfl rfl ?_
    refine tz_getR C dX2_weigh_12 fl_RX2_15 (by decide) rfl rfl ?_
    refine tz_iload_n 1 1 C dX2_weigh_15 rfl rfl ?_
    refine tz_iald C dX2_weigh_16 (by decide) rfl hin_1 ?_
    refine tz_icmp_lt 21 C dX2_weigh_17 (by decide) h (fun c_5 h => ?_) (fun c_5 h => ?_)
    · refine tz_aload_n 0 0 C dX2_weigh_21 rfl rfl ?_
      refine tz_getR C dX2_weigh_22 fl_RX2_9 (by decide) rfl rfl ?_
      refine tz_iload_n 1 1 C dX2_weigh_25 rfl rfl ?_
      refine tz_iload_n 2 2 C dX2_weigh_26 rfl rfl ?_
      refine tz_iast_c _ C dX2_weigh_27 (by decide) rfl hin_1 rfl h (fun σ_6 h => ?_)
      refine tz_aload_n 0 0 C dX2_weigh_28 rfl rfl ?_
      refine tz_getR C dX2_weigh_29 fl_RX2_15 (by decide) rfl rfl ?_
      refine tz_iload_n 1 1 C dX2_weigh_32 rfl rfl ?_
      refine tz_iload_n 3 3 C dX2_weigh_33 rfl rfl ?_
      refine tz_iast_c _ C dX2_weigh_34 (by decide) rfl hin_1 rfl h (fun σ_7 h => ?_)
      exact hret _ _ _ dX2_weigh_35 h
    · exact hret _ _ _ dX2_weigh_20 h

def vc_X2_fill (x2 : Int32) (x3 : Int32) (σ : tzS) (Q : tzS → Prop) : Prop :=
  tz_loop1 (fun (x4_3 : Int32) (σ_2 : tzS) (ag_1 : Int32 → tzS → Prop) =>
    ((8 : Int32) < x4_3 →
      ∀ x4_5 : Int32, x4_5 = ((σ_2.1 4 0) - 1) →
      tz_loop1 (fun (x5_8 : Int32) (σ_7 : tzS) (ag_6 : Int32 → tzS → Prop) =>
        ((σ_7.1 4 0) ≤ x5_8 →
          Q σ_7) ∧
        (¬ (σ_7.1 4 0) ≤ x5_8 →
          vc_X0_fill 83 x5_8 x2 x3 σ_7 (fun (σ_10 : tzS) =>
            vc_X5_fill 99 84 x4_5 σ_10 (fun (σ_11 : tzS) =>
              tz_loop1 (fun (x6_14 : Int32) (σ_13 : tzS) (ag_12 : Int32 → tzS → Prop) =>
                ((8 : Int32) < x6_14 →
                  ∀ x5_16 : Int32, x5_16 = x5_8 + 1 →
                  ag_6 x5_16 σ_13) ∧
                (¬ (8 : Int32) < x6_14 →
                  (x4_5 < x6_14 →
                    ∀ x5_18 : Int32, x5_18 = x5_8 + 1 →
                    ag_6 x5_18 σ_13) ∧
                  (¬ x4_5 < x6_14 →
                    vc_X5_totalOf 99 x6_14 x4_5 σ_13 (fun (r_20 : Int32) (σ_19 : tzS) =>
                      vc_X2_weigh x6_14 x5_8 r_20 σ_19 (fun (σ_21 : tzS) =>
                        ∀ x6_22 : Int32, x6_22 = x6_14 + 1 →
                        ag_12 x6_22 σ_21))))) (1 : Int32) σ_11)))) (0 : Int32) σ_2) ∧
    (¬ (8 : Int32) < x4_3 →
      vp_in x4_3 9 ∧ (
        ∀ σ_23 : tzS, σ_23 = tz_st σ_2 81 x4_3.toNatClampNeg (-1) →
        ∀ σ_25 : tzS, σ_25 = tz_st σ_23 82 x4_3.toNatClampNeg (-1) →
        ∀ x4_26 : Int32, x4_26 = x4_3 + 1 →
        ag_1 x4_26 σ_25))) (0 : Int32) σ
set_option maxRecDepth 20000 in
set_option maxHeartbeats 4000000 in
theorem m_X2_fill (G : tzG) (hG : tz_ok G) {x2 : Int32} {x3 : Int32}  {σ : tzS} {Q : tzS → Prop} (h : vc_X2_fill x2 x3 σ Q) : tz_M G yX2_fill cX2_fill 7 (none) 2 51 [.ref 80, .ref 4, .int x2, .int x3] σ (tz_Qv G Q) := by
  unfold vc_X2_fill at h
  refine tz_startv hG RX2 [(0, .ref 80), (1, .ref 4), (2, .int x2), (3, .int x3)] (by decide) rfl (Nat.le_of_ble_eq_true rfl) rfl (fun E C hret => ?_)
  refine tz_iconst 0 (by decide) C dX2_fill_0 ?_
  refine tz_istore_k [(0, .ref 80), (1, .ref 4), (2, .int x2), (3, .int x3)] C dX2_fill_1 (Nat.le_of_ble_eq_true rfl) rfl ?_
  refine tz_sub (L := [(0, .ref 80), (1, .ref 4), (2, .int x2), (3, .int x3), (4, .int 0)]) ?_ [1, 2, 3, 4, 0] rfl
  refine tz_loop1_w (V := fun (x4_3 : Int32) (σ_2 : tzS) => tz_V G E 3 [(0, .ref 80), (1, .ref 4), (2, .int x2), (3, .int x3), (4, .int x4_3)] [] σ_2) h (fun ag_1 ihag_1 x4_3 σ_2 h => ?_)
  refine tz_iload 4 C dX2_fill_3 rfl ?_
  refine tz_bipush 8 (by decide) C dX2_fill_5 ?_
  refine tz_icmp_gt 32 C dX2_fill_7 (by decide) h (fun c_4 h => ?_) (fun c_4 h => ?_)
  · refine tz_aload_n 1 1 C dX2_fill_32 rfl rfl ?_
    refine tz_getI C dX2_fill_33 fl_RX2_32 (by decide) rfl rfl ?_
    refine tz_iconst 1 (by decide) C dX2_fill_36 ?_
    refine tz_isub C dX2_fill_37 ?_
    refine tz_istore [(0, .ref 80), (1, .ref 4), (2, .int x2), (3, .int x3)] C dX2_fill_38 (Nat.le_of_ble_eq_true rfl) rfl h (fun x4_5 h => ?_)
    refine tz_iconst 0 (by decide) C dX2_fill_40 ?_
    refine tz_istore_k [(4, .int x4_5), (0, .ref 80), (1, .ref 4), (2, .int x2), (3, .int x3)] C dX2_fill_41 (Nat.le_of_ble_eq_true rfl) rfl ?_
    refine tz_sub (L := [(0, .ref 80), (1, .ref 4), (2, .int x2), (3, .int x3), (4, .int x4_5), (5, .int 0)]) ?_ [2, 3, 4, 5, 1, 0] rfl
    refine tz_loop1_w (V := fun (x5_8 : Int32) (σ_7 : tzS) => tz_V G E 43 [(0, .ref 80), (1, .ref 4), (2, .int x2), (3, .int x3), (4, .int x4_5), (5, .int x5_8)] [] σ_7) h (fun ag_6 ihag_6 x5_8 σ_7 h => ?_)
    refine tz_iload 5 C dX2_fill_43 rfl ?_
    refine tz_aload_n 1 1 C dX2_fill_45 rfl rfl ?_
    refine tz_getI C dX2_fill_46 fl_RX2_32 (by decide) rfl rfl ?_
    refine tz_icmp_ge 128 C dX2_fill_49 (by decide) h (fun c_9 h => ?_) (fun c_9 h => ?_)
    · exact hret _ _ _ dX2_fill_128 h
    · refine tz_aload_n 0 0 C dX2_fill_52 rfl rfl ?_
      refine tz_getR C dX2_fill_53 fl_RX2_21 (by decide) rfl rfl ?_
      refine tz_aload_n 1 1 C dX2_fill_56 rfl rfl ?_
      refine tz_iload 5 C dX2_fill_57 rfl ?_
      refine tz_iload_n 2 2 C dX2_fill_59 rfl rfl ?_
      refine tz_iload_n 3 3 C dX2_fill_60 rfl rfl ?_
      refine tz_callvv C dX2_fill_61 lk_RX2_38 (m_X0_fill G hG (by decide) h) (by decide) rfl rfl rfl rfl ⟨Nat.le_of_ble_eq_true rfl, Nat.le_of_ble_eq_true rfl⟩ (Nat.le_of_ble_eq_true rfl) rfl (fun σ_10 h => ?_)
      refine tz_aload_n 0 0 C dX2_fill_64 rfl rfl ?_
      refine tz_getR C dX2_fill_65 fl_RX2_28 (by decide) rfl rfl ?_
      refine tz_aload_n 0 0 C dX2_fill_68 rfl rfl ?_
      refine tz_getR C dX2_fill_69 fl_RX2_21 (by decide) rfl rfl ?_
      refine tz_getR C dX2_fill_72 fl_RX2_42 (by decide) rfl rfl ?_
      refine tz_iload 4 C dX2_fill_75 rfl ?_
      refine tz_callvv C dX2_fill_77 lk_RX2_46 (m_X5_fill G hG (by decide) (by decide) h) (by decide) rfl rfl rfl rfl ⟨Nat.le_of_ble_eq_true rfl, Nat.le_of_ble_eq_true rfl⟩ (Nat.le_of_ble_eq_true rfl) rfl (fun σ_11 h => ?_)
      refine tz_iconst 1 (by decide) C dX2_fill_80 ?_
      refine tz_istore_k [(0, .ref 80), (1, .ref 4), (2, .int x2), (3, .int x3), (4, .int x4_5), (5, .int x5_8)] C dX2_fill_81 (Nat.le_of_ble_eq_true rfl) rfl ?_
      refine tz_sub (L := [(0, .ref 80), (1, .ref 4), (2, .int x2), (3, .int x3), (4, .int x4_5), (5, .int x5_8), (6, .int 1)]) ?_ [1, 2, 3, 4, 5, 6, 0] rfl
      refine tz_loop1_w (V := fun (x6_14 : Int32) (σ_13 : tzS) => tz_V G E 83 [(0, .ref 80), (1, .ref 4), (2, .int x2), (3, .int x3), (4, .int x4_5), (5, .int x5_8), (6, .int x6_14)] [] σ_13) h (fun ag_12 ihag_12 x6_14 σ_13 h => ?_)
      refine tz_iload 6 C dX2_fill_83 rfl ?_
      refine tz_bipush 8 (by decide) C dX2_fill_85 ?_
      refine tz_icmp_gt 122 C dX2_fill_87 (by decide) h (fun c_15 h => ?_) (fun c_15 h => ?_)
      · refine tz_iinc 5 [(0, .ref 80), (1, .ref 4), (2, .int x2), (3, .int x3), (4, .int x4_5), (6, .int x6_14)] 1 C dX2_fill_122 (by decide) rfl (Nat.le_of_ble_eq_true rfl) rfl h (fun x5_16 h => ?_)
        refine tz_goto 43 C dX2_fill_125 (by decide) ?_
        exact tz_sub (ihag_6 _ _ h) [1, 2, 3, 4, 5, 0] rfl
      · refine tz_iload 6 C dX2_fill_90 rfl ?_
        refine tz_iload 4 C dX2_fill_92 rfl ?_
        refine tz_icmp_gt 122 C dX2_fill_94 (by decide) h (fun c_17 h => ?_) (fun c_17 h => ?_)
        · refine tz_iinc 5 [(0, .ref 80), (1, .ref 4), (2, .int x2), (3, .int x3), (4, .int x4_5), (6, .int x6_14)] 1 C dX2_fill_122 (by decide) rfl (Nat.le_of_ble_eq_true rfl) rfl h (fun x5_18 h => ?_)
          refine tz_goto 43 C dX2_fill_125 (by decide) ?_
          exact tz_sub (ihag_6 _ _ h) [1, 2, 3, 4, 5, 0] rfl
        · refine tz_aload_n 0 0 C dX2_fill_97 rfl rfl ?_
          refine tz_iload 6 C dX2_fill_98 rfl ?_
          refine tz_iload 5 C dX2_fill_100 rfl ?_
          refine tz_aload_n 0 0 C dX2_fill_102 rfl rfl ?_
          refine tz_getR C dX2_fill_103 fl_RX2_28 (by decide) rfl rfl ?_
          refine tz_iload 6 C dX2_fill_106 rfl ?_
          refine tz_iload 4 C dX2_fill_108 rfl ?_
          refine tz_calliv C dX2_fill_110 lk_RX2_49 (m_X5_totalOf G hG (by decide) h) (by decide) rfl rfl rfl rfl ⟨Nat.le_of_ble_eq_true rfl, Nat.le_of_ble_eq_true rfl⟩ (Nat.le_of_ble_eq_true rfl) rfl (fun r_20 σ_19 h => ?_)
          refine tz_callvv C dX2_fill_113 lk_RX2_53 (m_X2_weigh G hG  h) (by decide) rfl rfl rfl rfl ⟨Nat.le_of_ble_eq_true rfl, Nat.le_of_ble_eq_true rfl⟩ (Nat.le_of_ble_eq_true rfl) rfl (fun σ_21 h => ?_)
          refine tz_iinc 6 [(0, .ref 80), (1, .ref 4), (2, .int x2), (3, .int x3), (4, .int x4_5), (5, .int x5_8)] 1 C dX2_fill_116 (by decide) rfl (Nat.le_of_ble_eq_true rfl) rfl h (fun x6_22 h => ?_)
          refine tz_goto 83 C dX2_fill_119 (by decide) ?_
          exact tz_sub (ihag_12 _ _ h) [1, 2, 3, 4, 5, 6, 0] rfl
  · refine tz_aload_n 0 0 C dX2_fill_10 rfl rfl ?_
    refine tz_getR C dX2_fill_11 fl_RX2_9 (by decide) rfl rfl ?_
    refine tz_iload 4 C dX2_fill_14 rfl ?_
    refine tz_iconst (-1) (by decide) C dX2_fill_16 ?_
    have hin_24 := h.1
    refine tz_iast C dX2_fill_17 (by decide) rfl h (fun σ_23 h => ?_)
    refine tz_aload_n 0 0 C dX2_fill_18 rfl rfl ?_
    refine tz_getR C dX2_fill_19 fl_RX2_15 (by decide) rfl rfl ?_
    refine tz_iload 4 C dX2_fill_22 rfl ?_
    refine tz_iconst (-1) (by decide) C dX2_fill_24 ?_
    refine tz_iast_c _ C dX2_fill_25 (by decide) rfl hin_24 rfl h (fun σ_25 h => ?_)
    refine tz_iinc 4 [(0, .ref 80), (1, .ref 4), (2, .int x2), (3, .int x3)] 1 C dX2_fill_26 (by decide) rfl (Nat.le_of_ble_eq_true rfl) rfl h (fun x4_26 h => ?_)
    refine tz_goto 3 C dX2_fill_29 (by decide) ?_
    exact tz_sub (ihag_1 _ _ h) [1, 2, 3, 4, 0] rfl

def vc_X3_keep (x1 : Int32) (x2 : Int32) (x3 : Int32) (σ : tzS) (Q : tzS → Prop) : Prop :=
  ∀ σ_1 : tzS, σ_1 = tz_st σ 3 0 x1 →
  ∀ σ_2 : tzS, σ_2 = tz_st σ_1 3 1 x2 →
  ∀ σ_3 : tzS, σ_3 = tz_st σ_2 3 2 x3 →
  Q σ_3
set_option maxRecDepth 20000 in
set_option maxHeartbeats 4000000 in
theorem m_X3_keep (G : tzG) (hG : tz_ok G) {x1 : Int32} {x2 : Int32} {x3 : Int32}  {σ : tzS} {Q : tzS → Prop} (h : vc_X3_keep x1 x2 x3 σ Q) : tz_M G yX3_keep cX3_keep 4 (none) 0 0 [.ref 3, .int x1, .int x2, .int x3] σ (tz_Qv G Q) := by
  unfold vc_X3_keep at h
  refine tz_startv hG RX3 [(0, .ref 3), (1, .int x1), (2, .int x2), (3, .int x3)] (by decide) rfl (Nat.le_of_ble_eq_true rfl) rfl (fun E C hret => ?_)
  refine tz_aload_n 0 0 C dX3_keep_0 rfl rfl ?_
  refine tz_iload_n 1 1 C dX3_keep_1 rfl rfl ?_
  refine tz_put C dX3_keep_2 fp_RX3_9 (by decide) rfl rfl rfl rfl h (fun σ_1 h => ?_)
  refine tz_aload_n 0 0 C dX3_keep_5 rfl rfl ?_
  refine tz_iload_n 2 2 C dX3_keep_6 rfl rfl ?_
  refine tz_put C dX3_keep_7 fp_RX3_15 (by decide) rfl rfl rfl rfl h (fun σ_2 h => ?_)
  refine tz_aload_n 0 0 C dX3_keep_10 rfl rfl ?_
  refine tz_iload_n 3 3 C dX3_keep_11 rfl rfl ?_
  refine tz_put C dX3_keep_12 fp_RX3_18 (by decide) rfl rfl rfl rfl h (fun σ_3 h => ?_)
  exact hret _ _ _ dX3_keep_15 h

def vc_X9_isLetter (x0 : Int32) (σ : tzS) (Q : Int32 → tzS → Prop) : Prop :=
  (x0 < 97 →
    Q 0 σ) ∧
  (¬ x0 < 97 →
    ((122 : Int32) < x0 →
      Q 0 σ) ∧
    (¬ (122 : Int32) < x0 →
      Q 1 σ))
set_option maxRecDepth 20000 in
set_option maxHeartbeats 4000000 in
theorem m_X9_isLetter (G : tzG) (hG : tz_ok G) {x0 : Int32}  {σ : tzS} {Q : Int32 → tzS → Prop} (h : vc_X9_isLetter x0 σ Q) : tz_M G yX9_isLetter cX9_isLetter 1 (some .boolean) 0 0 [.int x0] σ (tz_Qi G Q) := by
  unfold vc_X9_isLetter at h
  refine tz_startz hG RX9 [(0, .int x0)] (by decide) rfl (Nat.le_of_ble_eq_true rfl) rfl (fun E C hret => ?_)
  refine tz_iload_n 0 0 C dX9_isLetter_0 rfl rfl ?_
  refine tz_bipush 97 (by decide) C dX9_isLetter_1 ?_
  refine tz_icmp_lt 16 C dX9_isLetter_3 (by decide) h (fun c_1 h => ?_) (fun c_1 h => ?_)
  · refine tz_iconst 0 (by decide) C dX9_isLetter_16 ?_
    exact hret _ _ _ _ dX9_isLetter_17 rfl h
  · refine tz_iload_n 0 0 C dX9_isLetter_6 rfl rfl ?_
    refine tz_bipush 122 (by decide) C dX9_isLetter_7 ?_
    refine tz_icmp_gt 16 C dX9_isLetter_9 (by decide) h (fun c_2 h => ?_) (fun c_2 h => ?_)
    · refine tz_iconst 0 (by decide) C dX9_isLetter_16 ?_
      exact hret _ _ _ _ dX9_isLetter_17 rfl h
    · refine tz_iconst 1 (by decide) C dX9_isLetter_12 ?_
      refine tz_goto 17 C dX9_isLetter_13 (by decide) ?_
      exact hret _ _ _ _ dX9_isLetter_17 rfl h

def vc_X3_mayBegin  (σ : tzS) (Q : Int32 → tzS → Prop) : Prop :=
  ((12 : Int32) ≤ (σ.1 3 5) →
    Q 0 σ) ∧
  (¬ (12 : Int32) ≤ (σ.1 3 5) →
    ((9 : Int32) ≤ (σ.1 3 4) →
      Q 0 σ) ∧
    (¬ (9 : Int32) ≤ (σ.1 3 4) →
      Q 1 σ))
set_option maxRecDepth 20000 in
set_option maxHeartbeats 4000000 in
theorem m_X3_mayBegin (G : tzG) (hG : tz_ok G)   {σ : tzS} {Q : Int32 → tzS → Prop} (h : vc_X3_mayBegin  σ Q) : tz_M G yX3_mayBegin cX3_mayBegin 1 (some .boolean) 0 0 [.ref 3] σ (tz_Qi G Q) := by
  unfold vc_X3_mayBegin at h
  refine tz_startz hG RX3 [(0, .ref 3)] (by decide) rfl (Nat.le_of_ble_eq_true rfl) rfl (fun E C hret => ?_)
  refine tz_aload_n 0 0 C dX3_mayBegin_0 rfl rfl ?_
  refine tz_getI C dX3_mayBegin_1 fl_RX3_27 (by decide) rfl rfl ?_
  refine tz_bipush 12 (by decide) C dX3_mayBegin_4 ?_
  refine tz_icmp_ge 22 C dX3_mayBegin_6 (by decide) h (fun c_1 h => ?_) (fun c_1 h => ?_)
  · refine tz_iconst 0 (by decide) C dX3_mayBegin_22 ?_
    exact hret _ _ _ _ dX3_mayBegin_23 rfl h
  · refine tz_aload_n 0 0 C dX3_mayBegin_9 rfl rfl ?_
    refine tz_getI C dX3_mayBegin_10 fl_RX3_24 (by decide) rfl rfl ?_
    refine tz_bipush 9 (by decide) C dX3_mayBegin_13 ?_
    refine tz_icmp_ge 22 C dX3_mayBegin_15 (by decide) h (fun c_2 h => ?_) (fun c_2 h => ?_)
    · refine tz_iconst 0 (by decide) C dX3_mayBegin_22 ?_
      exact hret _ _ _ _ dX3_mayBegin_23 rfl h
    · refine tz_iconst 1 (by decide) C dX3_mayBegin_18 ?_
      refine tz_goto 23 C dX3_mayBegin_19 (by decide) ?_
      exact hret _ _ _ _ dX3_mayBegin_23 rfl h

def vc_X3_reasonAgainst (x1 : Int32) (σ : tzS) (Q : Int32 → tzS → Prop) : Prop :=
  vc_X9_isLetter x1 σ (fun (r_2 : Int32) (σ_1 : tzS) =>
    (r_2 = 0 →
      (x1 = 32 →
        ((σ_1.1 3 3) ≤ 0 →
          ((σ_1.1 3 6) = 0 →
            Q 3 σ_1) ∧
          (¬ (σ_1.1 3 6) = 0 →
            Q (-1) σ_1)) ∧
        (¬ (σ_1.1 3 3) ≤ 0 →
          Q (-1) σ_1)) ∧
      (¬ x1 = 32 →
        (x1 = 46 →
          ((σ_1.1 3 3) ≤ 0 →
            Q 3 σ_1) ∧
          (¬ (σ_1.1 3 3) ≤ 0 →
            Q (-1) σ_1)) ∧
        (¬ x1 = 46 →
          Q 1 σ_1))) ∧
    (¬ r_2 = 0 →
      (¬ (σ_1.1 3 3) = 0 →
        ((10 : Int32) ≤ (σ_1.1 3 3) →
          Q 2 σ_1) ∧
        (¬ (10 : Int32) ≤ (σ_1.1 3 3) →
          Q (-1) σ_1)) ∧
      ((σ_1.1 3 3) = 0 →
        vc_X3_mayBegin  σ_1 (fun (r_12 : Int32) (σ_11 : tzS) =>
          (r_12 = 0 →
            Q 4 σ_11) ∧
          (¬ r_12 = 0 →
            Q (-1) σ_11)))))
set_option maxRecDepth 20000 in
set_option maxHeartbeats 4000000 in
theorem m_X3_reasonAgainst (G : tzG) (hG : tz_ok G) {x1 : Int32}  {σ : tzS} {Q : Int32 → tzS → Prop} (h : vc_X3_reasonAgainst x1 σ Q) : tz_M G yX3_reasonAgainst cX3_reasonAgainst 2 (some .int) 1 20 [.ref 3, .int x1] σ (tz_Qi G Q) := by
  unfold vc_X3_reasonAgainst at h
  refine tz_starti hG RX3 [(0, .ref 3), (1, .int x1)] (by decide) rfl (Nat.le_of_ble_eq_true rfl) rfl (fun E C hret => ?_)
  refine tz_iload_n 1 1 C dX3_reasonAgainst_0 rfl rfl ?_
  refine tz_callin (w9 := tz_nest2) (.inr rfl) C dX3_reasonAgainst_1 lk_RX3_55 (m_X9_isLetter G hG  h) rfl ⟨Nat.le_of_ble_eq_true rfl, Nat.le_of_ble_eq_true rfl⟩ (Nat.le_of_ble_eq_true rfl) rfl (fun r_2 σ_1 h => ?_)
  refine tz_if_eq 42 C dX3_reasonAgainst_4 (by decide) h (fun c_3 h => ?_) (fun c_3 h => ?_)
  · refine tz_iload_n 1 1 C dX3_reasonAgainst_42 rfl rfl ?_
    refine tz_bipush 32 (by decide) C dX3_reasonAgainst_43 ?_
    refine tz_icmp_eq 56 C dX3_reasonAgainst_45 (by decide) h (fun c_4 h => ?_) (fun c_4 h => ?_)
    · refine tz_aload_n 0 0 C dX3_reasonAgainst_56 rfl rfl ?_
      refine tz_getI C dX3_reasonAgainst_57 fl_RX3_21 (by decide) rfl rfl ?_
      refine tz_if_le 65 C dX3_reasonAgainst_60 (by decide) h (fun c_5 h => ?_) (fun c_5 h => ?_)
      · refine tz_iload_n 1 1 C dX3_reasonAgainst_65 rfl rfl ?_
        refine tz_bipush 32 (by decide) C dX3_reasonAgainst_66 ?_
        refine tz_icmp_ne_f 82 C dX3_reasonAgainst_68 (by decide) c_4 ?_
        refine tz_aload_n 0 0 C dX3_reasonAgainst_71 rfl rfl ?_
        refine tz_getI C dX3_reasonAgainst_72 fl_RX3_30 (by decide) rfl rfl ?_
        refine tz_if_eq 82 C dX3_reasonAgainst_75 (by decide) h (fun c_6 h => ?_) (fun c_6 h => ?_)
        · refine tz_iconst 3 (by decide) C dX3_reasonAgainst_82 ?_
          exact hret _ _ _ _ dX3_reasonAgainst_83 h
        · refine tz_iconst (-1) (by decide) C dX3_reasonAgainst_78 ?_
          refine tz_goto 83 C dX3_reasonAgainst_79 (by decide) ?_
          exact hret _ _ _ _ dX3_reasonAgainst_83 h
      · refine tz_iconst (-1) (by decide) C dX3_reasonAgainst_63 ?_
        exact hret _ _ _ _ dX3_reasonAgainst_64 h
    · refine tz_iload_n 1 1 C dX3_reasonAgainst_48 rfl rfl ?_
      refine tz_bipush 46 (by decide) C dX3_reasonAgainst_49 ?_
      refine tz_icmp_eq 56 C dX3_reasonAgainst_51 (by decide) h (fun c_7 h => ?_) (fun c_7 h => ?_)
      · refine tz_aload_n 0 0 C dX3_reasonAgainst_56 rfl rfl ?_
        refine tz_getI C dX3_reasonAgainst_57 fl_RX3_21 (by decide) rfl rfl ?_
        refine tz_if_le 65 C dX3_reasonAgainst_60 (by decide) h (fun c_8 h => ?_) (fun c_8 h => ?_)
        · refine tz_iload_n 1 1 C dX3_reasonAgainst_65 rfl rfl ?_
          refine tz_bipush 32 (by decide) C dX3_reasonAgainst_66 ?_
          refine tz_icmp_ne_t 82 C dX3_reasonAgainst_68 (by decide) c_4 ?_
          refine tz_iconst 3 (by decide) C dX3_reasonAgainst_82 ?_
          exact hret _ _ _ _ dX3_reasonAgainst_83 h
        · refine tz_iconst (-1) (by decide) C dX3_reasonAgainst_63 ?_
          exact hret _ _ _ _ dX3_reasonAgainst_64 h
      · refine tz_iconst 1 (by decide) C dX3_reasonAgainst_54 ?_
        exact hret _ _ _ _ dX3_reasonAgainst_55 h
  · refine tz_aload_n 0 0 C dX3_reasonAgainst_7 rfl rfl ?_
    refine tz_getI C dX3_reasonAgainst_8 fl_RX3_21 (by decide) rfl rfl ?_
    refine tz_if_ne 27 C dX3_reasonAgainst_11 (by decide) h (fun c_9 h => ?_) (fun c_9 h => ?_)
    · refine tz_aload_n 0 0 C dX3_reasonAgainst_27 rfl rfl ?_
      refine tz_getI C dX3_reasonAgainst_28 fl_RX3_21 (by decide) rfl rfl ?_
      refine tz_bipush 10 (by decide) C dX3_reasonAgainst_31 ?_
      refine tz_icmp_ge 40 C dX3_reasonAgainst_33 (by decide) h (fun c_10 h => ?_) (fun c_10 h => ?_)
      · refine tz_iconst 2 (by decide) C dX3_reasonAgainst_40 ?_
        exact hret _ _ _ _ dX3_reasonAgainst_41 h
      · refine tz_iconst (-1) (by decide) C dX3_reasonAgainst_36 ?_
        refine tz_goto 41 C dX3_reasonAgainst_37 (by decide) ?_
        exact hret _ _ _ _ dX3_reasonAgainst_41 h
    · refine tz_aload_n 0 0 C dX3_reasonAgainst_14 rfl rfl ?_
      refine tz_calliv C dX3_reasonAgainst_15 lk_RX3_59 (m_X3_mayBegin G hG  h) (by decide) rfl rfl rfl rfl ⟨Nat.le_of_ble_eq_true rfl, Nat.le_of_ble_eq_true rfl⟩ (Nat.le_of_ble_eq_true rfl) rfl (fun r_12 σ_11 h => ?_)
      refine tz_if_eq 25 C dX3_reasonAgainst_18 (by decide) h (fun c_13 h => ?_) (fun c_13 h => ?_)
      · refine tz_iconst 4 (by decide) C dX3_reasonAgainst_25 ?_
        exact hret _ _ _ _ dX3_reasonAgainst_26 h
      · refine tz_iconst (-1) (by decide) C dX3_reasonAgainst_21 ?_
        refine tz_goto 26 C dX3_reasonAgainst_22 (by decide) ?_
        exact hret _ _ _ _ dX3_reasonAgainst_26 h

def vc_X3_take (x1 : Int32) (σ : tzS) (Q : tzS → Prop) : Prop :=
  (¬ x1 = 46 →
    ∀ σ_2 : tzS, σ_2 = tz_st σ 3 6 0 →
    vc_X9_isLetter x1 σ_2 (fun (r_4 : Int32) (σ_3 : tzS) =>
      (r_4 = 0 →
        ∀ σ_6 : tzS, σ_6 = tz_st σ_3 3 3 0 →
        Q σ_6) ∧
      (¬ r_4 = 0 →
        (¬ (σ_3.1 3 3) = 0 →
          ∀ σ_8 : tzS, σ_8 = tz_st σ_3 3 3 ((σ_3.1 3 3) + 1) →
          Q σ_8) ∧
        ((σ_3.1 3 3) = 0 →
          ∀ σ_9 : tzS, σ_9 = tz_st σ_3 3 4 ((σ_3.1 3 4) + 1) →
          ∀ σ_10 : tzS, σ_10 = tz_st σ_9 3 3 ((σ_9.1 3 3) + 1) →
          Q σ_10)))) ∧
  (x1 = 46 →
    ∀ σ_11 : tzS, σ_11 = tz_st σ 3 6 1 →
    vc_X9_isLetter x1 σ_11 (fun (r_13 : Int32) (σ_12 : tzS) =>
      (r_13 = 0 →
        ∀ σ_15 : tzS, σ_15 = tz_st σ_12 3 3 0 →
        ∀ σ_16 : tzS, σ_16 = tz_st σ_15 3 4 0 →
        ∀ σ_17 : tzS, σ_17 = tz_st σ_16 3 5 ((σ_16.1 3 5) + 1) →
        Q σ_17) ∧
      (¬ r_13 = 0 →
        (¬ (σ_12.1 3 3) = 0 →
          ∀ σ_19 : tzS, σ_19 = tz_st σ_12 3 3 ((σ_12.1 3 3) + 1) →
          Q σ_19) ∧
        ((σ_12.1 3 3) = 0 →
          ∀ σ_20 : tzS, σ_20 = tz_st σ_12 3 4 ((σ_12.1 3 4) + 1) →
          ∀ σ_21 : tzS, σ_21 = tz_st σ_20 3 3 ((σ_20.1 3 3) + 1) →
          Q σ_21))))
set_option maxRecDepth 20000 in
set_option maxHeartbeats 4000000 in
theorem m_X3_take (G : tzG) (hG : tz_ok G) {x1 : Int32}  {σ : tzS} {Q : tzS → Prop} (h : vc_X3_take x1 σ Q) : tz_M G yX3_take cX3_take 2 (none) 1 20 [.ref 3, .int x1] σ (tz_Qv G Q) := by
  unfold vc_X3_take at h
  refine tz_startv hG RX3 [(0, .ref 3), (1, .int x1)] (by decide) rfl (Nat.le_of_ble_eq_true rfl) rfl (fun E C hret => ?_)
  refine tz_aload_n 0 0 C dX3_take_0 rfl rfl ?_
  refine tz_iload_n 1 1 C dX3_take_1 rfl rfl ?_
  refine tz_bipush 46 (by decide) C dX3_take_2 ?_
  refine tz_icmp_ne 11 C dX3_take_4 (by decide) h (fun c_1 h => ?_) (fun c_1 h => ?_)
  · refine tz_iconst 0 (by decide) C dX3_take_11 ?_
    refine tz_put C dX3_take_12 fp_RX3_30 (by decide) rfl rfl rfl rfl h (fun σ_2 h => ?_)
    refine tz_iload_n 1 1 C dX3_take_15 rfl rfl ?_
    refine tz_callin (w9 := tz_nest2) (.inr rfl) C dX3_take_16 lk_RX3_55 (m_X9_isLetter G hG  h) rfl ⟨Nat.le_of_ble_eq_true rfl, Nat.le_of_ble_eq_true rfl⟩ (Nat.le_of_ble_eq_true rfl) rfl (fun r_4 σ_3 h => ?_)
    refine tz_if_eq 50 C dX3_take_19 (by decide) h (fun c_5 h => ?_) (fun c_5 h => ?_)
    · refine tz_aload_n 0 0 C dX3_take_50 rfl rfl ?_
      refine tz_iconst 0 (by decide) C dX3_take_51 ?_
      refine tz_put C dX3_take_52 fp_RX3_21 (by decide) rfl rfl rfl rfl h (fun σ_6 h => ?_)
      refine tz_iload_n 1 1 C dX3_take_55 rfl rfl ?_
      refine tz_bipush 46 (by decide) C dX3_take_56 ?_
      refine tz_icmp_ne_t 76 C dX3_take_58 (by decide) c_1 ?_
      exact hret _ _ _ dX3_take_76 h
    · refine tz_aload_n 0 0 C dX3_take_22 rfl rfl ?_
      refine tz_getI C dX3_take_23 fl_RX3_21 (by decide) rfl rfl ?_
      refine tz_if_ne 39 C dX3_take_26 (by decide) h (fun c_7 h => ?_) (fun c_7 h => ?_)
      · refine tz_aload_n 0 0 C dX3_take_39 rfl rfl ?_
        refine tz_dup C dX3_take_40 rfl ?_
        refine tz_getI C dX3_take_41 fl_RX3_21 (by decide) rfl rfl ?_
        refine tz_iconst 1 (by decide) C dX3_take_44 ?_
        refine tz_iadd C dX3_take_45 ?_
        refine tz_put C dX3_take_46 fp_RX3_21 (by decide) rfl rfl rfl rfl h (fun σ_8 h => ?_)
        exact hret _ _ _ dX3_take_49 h
      · refine tz_aload_n 0 0 C dX3_take_29 rfl rfl ?_
        refine tz_dup C dX3_take_30 rfl ?_
        refine tz_getI C dX3_take_31 fl_RX3_24 (by decide) rfl rfl ?_
        refine tz_iconst 1 (by decide) C dX3_take_34 ?_
        refine tz_iadd C dX3_take_35 ?_
        refine tz_put C dX3_take_36 fp_RX3_24 (by decide) rfl rfl rfl rfl h (fun σ_9 h => ?_)
        refine tz_aload_n 0 0 C dX3_take_39 rfl rfl ?_
        refine tz_dup C dX3_take_40 rfl ?_
        refine tz_getI C dX3_take_41 fl_RX3_21 (by decide) rfl rfl ?_
        refine tz_iconst 1 (by decide) C dX3_take_44 ?_
        refine tz_iadd C dX3_take_45 ?_
        refine tz_put C dX3_take_46 fp_RX3_21 (by decide) rfl rfl rfl rfl h (fun σ_10 h => ?_)
        exact hret _ _ _ dX3_take_49 h
  · refine tz_iconst 1 (by decide) C dX3_take_7 ?_
    refine tz_goto 12 C dX3_take_8 (by decide) ?_
    refine tz_put C dX3_take_12 fp_RX3_30 (by decide) rfl rfl rfl rfl h (fun σ_11 h => ?_)
    refine tz_iload_n 1 1 C dX3_take_15 rfl rfl ?_
    refine tz_callin (w9 := tz_nest2) (.inr rfl) C dX3_take_16 lk_RX3_55 (m_X9_isLetter G hG  h) rfl ⟨Nat.le_of_ble_eq_true rfl, Nat.le_of_ble_eq_true rfl⟩ (Nat.le_of_ble_eq_true rfl) rfl (fun r_13 σ_12 h => ?_)
    refine tz_if_eq 50 C dX3_take_19 (by decide) h (fun c_14 h => ?_) (fun c_14 h => ?_)
    · refine tz_aload_n 0 0 C dX3_take_50 rfl rfl ?_
      refine tz_iconst 0 (by decide) C dX3_take_51 ?_
      refine tz_put C dX3_take_52 fp_RX3_21 (by decide) rfl rfl rfl rfl h (fun σ_15 h => ?_)
      refine tz_iload_n 1 1 C dX3_take_55 rfl rfl ?_
      refine tz_bipush 46 (by decide) C dX3_take_56 ?_
      refine tz_icmp_ne_f 76 C dX3_take_58 (by decide) c_1 ?_
      refine tz_aload_n 0 0 C dX3_take_61 rfl rfl ?_
      refine tz_iconst 0 (by decide) C dX3_take_62 ?_
      refine tz_put C dX3_take_63 fp_RX3_24 (by decide) rfl rfl rfl rfl h (fun σ_16 h => ?_)
      refine tz_aload_n 0 0 C dX3_take_66 rfl rfl ?_
      refine tz_dup C dX3_take_67 rfl ?_
      refine tz_getI C dX3_take_68 fl_RX3_27 (by decide) rfl rfl ?_
      refine tz_iconst 1 (by decide) C dX3_take_71 ?_
      refine tz_iadd C dX3_take_72 ?_
      refine tz_put C dX3_take_73 fp_RX3_27 (by decide) rfl rfl rfl rfl h (fun σ_17 h => ?_)
      exact hret _ _ _ dX3_take_76 h
    · refine tz_aload_n 0 0 C dX3_take_22 rfl rfl ?_
      refine tz_getI C dX3_take_23 fl_RX3_21 (by decide) rfl rfl ?_
      refine tz_if_ne 39 C dX3_take_26 (by decide) h (fun c_18 h => ?_) (fun c_18 h => ?_)
      · refine tz_aload_n 0 0 C dX3_take_39 rfl rfl ?_
        refine tz_dup C dX3_take_40 rfl ?_
        refine tz_getI C dX3_take_41 fl_RX3_21 (by decide) rfl rfl ?_
        refine tz_iconst 1 (by decide) C dX3_take_44 ?_
        refine tz_iadd C dX3_take_45 ?_
        refine tz_put C dX3_take_46 fp_RX3_21 (by decide) rfl rfl rfl rfl h (fun σ_19 h => ?_)
        exact hret _ _ _ dX3_take_49 h
      · refine tz_aload_n 0 0 C dX3_take_29 rfl rfl ?_
        refine tz_dup C dX3_take_30 rfl ?_
        refine tz_getI C dX3_take_31 fl_RX3_24 (by decide) rfl rfl ?_
        refine tz_iconst 1 (by decide) C dX3_take_34 ?_
        refine tz_iadd C dX3_take_35 ?_
        refine tz_put C dX3_take_36 fp_RX3_24 (by decide) rfl rfl rfl rfl h (fun σ_20 h => ?_)
        refine tz_aload_n 0 0 C dX3_take_39 rfl rfl ?_
        refine tz_dup C dX3_take_40 rfl ?_
        refine tz_getI C dX3_take_41 fl_RX3_21 (by decide) rfl rfl ?_
        refine tz_iconst 1 (by decide) C dX3_take_44 ?_
        refine tz_iadd C dX3_take_45 ?_
        refine tz_put C dX3_take_46 fp_RX3_21 (by decide) rfl rfl rfl rfl h (fun σ_21 h => ?_)
        exact hret _ _ _ dX3_take_49 h
