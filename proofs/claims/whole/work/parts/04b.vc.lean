def vc_X3_seek  (σ : tzS) (Q : tzS → Prop) : Prop :=
  ∀ σ_1 : tzS, σ_1 = tz_st σ 3 3 0 →
  ∀ σ_2 : tzS, σ_2 = tz_st σ_1 3 4 0 →
  ∀ σ_3 : tzS, σ_3 = tz_st σ_2 3 5 0 →
  ∀ σ_4 : tzS, σ_4 = tz_st σ_3 3 6 0 →
  tz_loop1 (fun (x2_7 : Int32) (σ_6 : tzS) (ag_5 : Int32 → tzS → Prop) =>
    ((σ_6.1 1 1) ≤ x2_7 →
      ((σ_6.1 3 4) ≤ 0 →
        vc_X3_keep (-1) (-1) (-1) σ_6 (fun (σ_10 : tzS) =>
          Q σ_10)) ∧
      (¬ (σ_6.1 3 4) ≤ 0 →
        vc_X3_keep (σ_6.1 1 1) 5 (σ_6.1 3 5) σ_6 (fun (σ_11 : tzS) =>
          Q σ_11))) ∧
    (¬ (σ_6.1 1 1) ≤ x2_7 →
      vp_in x2_7 200 ∧ (
        vc_X3_reasonAgainst (σ_6.1 2 x2_7.toNatClampNeg) σ_6 (fun (r_14 : Int32) (σ_13 : tzS) =>
          (r_14 = (-1) →
            vc_X3_take (σ_13.1 2 x2_7.toNatClampNeg) σ_13 (fun (σ_16 : tzS) =>
              ∀ x2_17 : Int32, x2_17 = x2_7 + 1 →
              ag_5 x2_17 σ_16)) ∧
          (¬ r_14 = (-1) →
            vc_X3_keep x2_7 r_14 (σ_13.1 3 5) σ_13 (fun (σ_18 : tzS) =>
              Q σ_18)))))) (0 : Int32) σ_4
set_option maxRecDepth 20000 in
set_option maxHeartbeats 4000000 in
theorem m_X3_seek (G : tzG) (hG : tz_ok G)   {σ : tzS} {Q : tzS → Prop} (h : vc_X3_seek  σ Q) : tz_M G yX3_seek cX3_seek 4 (none) 2 41 [.ref 3, .ref 1] σ (tz_Qv G Q) := by
  unfold vc_X3_seek at h
  refine tz_startv hG RX3 [(0, .ref 3), (1, .ref 1)] (by decide) rfl (Nat.le_of_ble_eq_true rfl) rfl (fun E C hret => ?_)
  refine tz_aload_n 0 0 C dX3_seek_0 rfl rfl ?_
  refine tz_iconst 0 (by decide) C dX3_seek_1 ?_
  refine tz_put C dX3_seek_2 fp_RX3_21 (by decide) rfl rfl rfl rfl h (fun σ_1 h => ?_)
  refine tz_aload_n 0 0 C dX3_seek_5 rfl rfl ?_
  refine tz_iconst 0 (by decide) C dX3_seek_6 ?_
  refine tz_put C dX3_seek_7 fp_RX3_24 (by decide) rfl rfl rfl rfl h (fun σ_2 h => ?_)
  refine tz_aload_n 0 0 C dX3_seek_10 rfl rfl ?_
  refine tz_iconst 0 (by decide) C dX3_seek_11 ?_
  refine tz_put C dX3_seek_12 fp_RX3_27 (by decide) rfl rfl rfl rfl h (fun σ_3 h => ?_)
  refine tz_aload_n 0 0 C dX3_seek_15 rfl rfl ?_
  refine tz_iconst 0 (by decide) C dX3_seek_16 ?_
  refine tz_put C dX3_seek_17 fp_RX3_30 (by decide) rfl rfl rfl rfl h (fun σ_4 h => ?_)
  refine tz_iconst 0 (by decide) C dX3_seek_20 ?_
  refine tz_istore_n_k 2 [(0, .ref 3), (1, .ref 1)] C dX3_seek_21 rfl (Nat.le_of_ble_eq_true rfl) rfl ?_
  refine tz_sub (L := [(0, .ref 3), (1, .ref 1), (2, .int 0)]) ?_ [1, 2, 0] rfl
  refine tz_loop1_w (V := fun (x2_7 : Int32) (σ_6 : tzS) => tz_V G E 22 [(0, .ref 3), (1, .ref 1), (2, .int x2_7)] [] σ_6) h (fun ag_5 ihag_5 x2_7 σ_6 h => ?_)
  refine tz_iload_n 2 2 C dX3_seek_22 rfl rfl ?_
  refine tz_aload_n 1 1 C dX3_seek_23 rfl rfl ?_
  refine tz_getI C dX3_seek_24 fl_RX3_34 (by decide) rfl rfl ?_
  refine tz_icmp_ge 73 C dX3_seek_27 (by decide) h (fun c_8 h => ?_) (fun c_8 h => ?_)
  · refine tz_aload_n 0 0 C dX3_seek_73 rfl rfl ?_
    refine tz_getI C dX3_seek_74 fl_RX3_24 (by decide) rfl rfl ?_
    refine tz_if_le 96 C dX3_seek_77 (by decide) h (fun c_9 h => ?_) (fun c_9 h => ?_)
    · refine tz_aload_n 0 0 C dX3_seek_96 rfl rfl ?_
      refine tz_iconst (-1) (by decide) C dX3_seek_97 ?_
      refine tz_iconst (-1) (by decide) C dX3_seek_98 ?_
      refine tz_iconst (-1) (by decide) C dX3_seek_99 ?_
      refine tz_callvv C dX3_seek_100 lk_RX3_47 (m_X3_keep G hG  h) (by decide) rfl rfl rfl rfl ⟨Nat.le_of_ble_eq_true rfl, Nat.le_of_ble_eq_true rfl⟩ (Nat.le_of_ble_eq_true rfl) rfl (fun σ_10 h => ?_)
      exact hret _ _ _ dX3_seek_103 h
    · refine tz_aload_n 0 0 C dX3_seek_80 rfl rfl ?_
      refine tz_aload_n 1 1 C dX3_seek_81 rfl rfl ?_
      refine tz_getI C dX3_seek_82 fl_RX3_34 (by decide) rfl rfl ?_
      refine tz_iconst 5 (by decide) C dX3_seek_85 ?_
      refine tz_aload_n 0 0 C dX3_seek_86 rfl rfl ?_
      refine tz_getI C dX3_seek_87 fl_RX3_27 (by decide) rfl rfl ?_
      refine tz_callvv C dX3_seek_90 lk_RX3_47 (m_X3_keep G hG  h) (by decide) rfl rfl rfl rfl ⟨Nat.le_of_ble_eq_true rfl, Nat.le_of_ble_eq_true rfl⟩ (Nat.le_of_ble_eq_true rfl) rfl (fun σ_11 h => ?_)
      refine tz_goto 103 C dX3_seek_93 (by decide) ?_
      exact hret _ _ _ dX3_seek_103 h
  · refine tz_aload_n 0 0 C dX3_seek_30 rfl rfl ?_
    refine tz_aload_n 1 1 C dX3_seek_31 rfl rfl ?_
    refine tz_getR C dX3_seek_32 fl_RX3_39 (by decide) rfl rfl ?_
    refine tz_iload_n 2 2 C dX3_seek_35 rfl rfl ?_
    obtain ⟨hin_12, h⟩ := h
    refine tz_iald C dX3_seek_36 (by decide) rfl hin_12 ?_
    refine tz_calliv C dX3_seek_37 lk_RX3_43 (m_X3_reasonAgainst G hG  h) (by decide) rfl rfl rfl rfl ⟨Nat.le_of_ble_eq_true rfl, Nat.le_of_ble_eq_true rfl⟩ (Nat.le_of_ble_eq_true rfl) rfl (fun r_14 σ_13 h => ?_)
    refine tz_istore_n_k 3 [(0, .ref 3), (1, .ref 1), (2, .int x2_7)] C dX3_seek_40 rfl (Nat.le_of_ble_eq_true rfl) rfl ?_
    refine tz_iload_n 3 0 C dX3_seek_41 rfl rfl ?_
    refine tz_iconst (-1) (by decide) C dX3_seek_42 ?_
    refine tz_icmp_eq 57 C dX3_seek_43 (by decide) h (fun c_15 h => ?_) (fun c_15 h => ?_)
    · refine tz_aload_n 0 1 C dX3_seek_57 rfl rfl ?_
      refine tz_aload_n 1 2 C dX3_seek_58 rfl rfl ?_
      refine tz_getR C dX3_seek_59 fl_RX3_39 (by decide) rfl rfl ?_
      refine tz_iload_n 2 3 C dX3_seek_62 rfl rfl ?_
      refine tz_iald C dX3_seek_63 (by decide) rfl hin_12 ?_
      refine tz_callvv C dX3_seek_64 lk_RX3_51 (m_X3_take G hG  h) (by decide) rfl rfl rfl rfl ⟨Nat.le_of_ble_eq_true rfl, Nat.le_of_ble_eq_true rfl⟩ (Nat.le_of_ble_eq_true rfl) rfl (fun σ_16 h => ?_)
      refine tz_iinc 3 [(3, .int r_14), (0, .ref 3), (1, .ref 1)] 1 C dX3_seek_67 (by decide) rfl (Nat.le_of_ble_eq_true rfl) rfl h (fun x2_17 h => ?_)
      refine tz_goto 22 C dX3_seek_70 (by decide) ?_
      exact tz_sub (ihag_5 _ _ h) [2, 3, 0] rfl
    · refine tz_aload_n 0 1 C dX3_seek_46 rfl rfl ?_
      refine tz_iload_n 2 3 C dX3_seek_47 rfl rfl ?_
      refine tz_iload_n 3 0 C dX3_seek_48 rfl rfl ?_
      refine tz_aload_n 0 1 C dX3_seek_49 rfl rfl ?_
      refine tz_getI C dX3_seek_50 fl_RX3_27 (by decide) rfl rfl ?_
      refine tz_callvv C dX3_seek_53 lk_RX3_47 (m_X3_keep G hG  h) (by decide) rfl rfl rfl rfl ⟨Nat.le_of_ble_eq_true rfl, Nat.le_of_ble_eq_true rfl⟩ (Nat.le_of_ble_eq_true rfl) rfl (fun σ_18 h => ?_)
      exact hret _ _ _ dX3_seek_56 h

def vc_X4_insert (x1 : Int32) (σ : tzS) (Q : tzS → Prop) : Prop :=
  ∀ x2_1 : Int32, x2_1 = (x1 - 1) →
  tz_loop1 (fun (x2_4 : Int32) (σ_3 : tzS) (ag_2 : Int32 → tzS → Prop) =>
    (x2_4 ≤ 0 →
      vp_in x2_4 11 ∧ (
        ∀ σ_6 : tzS, σ_6 = tz_st σ_3 123 x2_4.toNatClampNeg x1 →
        Q σ_6)) ∧
    (¬ x2_4 ≤ 0 →
      vp_in (x2_4 - 1) 11 ∧ (
        vp_in (σ_3.1 123 (x2_4 - 1).toNatClampNeg) 12 ∧ (
          vp_in x1 12 ∧ (
            ((σ_3.1 122 x1.toNatClampNeg) ≤ (σ_3.1 122 (σ_3.1 123 (x2_4 - 1).toNatClampNeg).toNatClampNeg) →
              vp_in x2_4 11 ∧ (
                ∀ σ_12 : tzS, σ_12 = tz_st σ_3 123 x2_4.toNatClampNeg x1 →
                Q σ_12)) ∧
            (¬ (σ_3.1 122 x1.toNatClampNeg) ≤ (σ_3.1 122 (σ_3.1 123 (x2_4 - 1).toNatClampNeg).toNatClampNeg) →
              vp_in x2_4 11 ∧ (
                ∀ σ_14 : tzS, σ_14 = tz_st σ_3 123 x2_4.toNatClampNeg (σ_3.1 123 (x2_4 - 1).toNatClampNeg) →
                ∀ x2_16 : Int32, x2_16 = x2_4 + (-1) →
                ag_2 x2_16 σ_14))))))) x2_1 σ
set_option maxRecDepth 20000 in
set_option maxHeartbeats 4000000 in
theorem m_X4_insert (G : tzG) (hG : tz_ok G) {x1 : Int32}  {σ : tzS} {Q : tzS → Prop} (h : vc_X4_insert x1 σ Q) : tz_M G yX4_insert cX4_insert 3 (none) 0 0 [.ref 120, .int x1] σ (tz_Qv G Q) := by
  unfold vc_X4_insert at h
  refine tz_startv hG RX4 [(0, .ref 120), (1, .int x1)] (by decide) rfl (Nat.le_of_ble_eq_true rfl) rfl (fun E C hret => ?_)
  refine tz_iload_n 1 1 C dX4_insert_0 rfl rfl ?_
  refine tz_iconst 1 (by decide) C dX4_insert_1 ?_
  refine tz_isub C dX4_insert_2 ?_
  refine tz_istore_n 2 [(0, .ref 120), (1, .int x1)] C dX4_insert_3 rfl (Nat.le_of_ble_eq_true rfl) rfl h (fun x2_1 h => ?_)
  refine tz_sub (L := [(0, .ref 120), (1, .int x1), (2, .int x2_1)]) ?_ [1, 2, 0] rfl
  refine tz_loop1_w (V := fun (x2_4 : Int32) (σ_3 : tzS) => tz_V G E 4 [(0, .ref 120), (1, .int x1), (2, .int x2_4)] [] σ_3) h (fun ag_2 ihag_2 x2_4 σ_3 h => ?_)
  refine tz_iload_n 2 2 C dX4_insert_4 rfl rfl ?_
  refine tz_if_le 50 C dX4_insert_5 (by decide) h (fun c_5 h => ?_) (fun c_5 h => ?_)
  · refine tz_aload_n 0 0 C dX4_insert_50 rfl rfl ?_
    refine tz_getR C dX4_insert_51 fl_RX4_18 (by decide) rfl rfl ?_
    refine tz_iload_n 2 2 C dX4_insert_54 rfl rfl ?_
    refine tz_iload_n 1 1 C dX4_insert_55 rfl rfl ?_
    have hin_7 := h.1
    refine tz_iast C dX4_insert_56 (by decide) rfl h (fun σ_6 h => ?_)
    exact hret _ _ _ dX4_insert_57 h
  · refine tz_aload_n 0 0 C dX4_insert_8 rfl rfl ?_
    refine tz_getR C dX4_insert_9 fl_RX4_15 (by decide) rfl rfl ?_
    refine tz_aload_n 0 0 C dX4_insert_12 rfl rfl ?_
    refine tz_getR C dX4_insert_13 fl_RX4_18 (by decide) rfl rfl ?_
    refine tz_iload_n 2 2 C dX4_insert_16 rfl rfl ?_
    refine tz_iconst 1 (by decide) C dX4_insert_17 ?_
    refine tz_isub C dX4_insert_18 ?_
    obtain ⟨hin_8, h⟩ := h
    refine tz_iald C dX4_insert_19 (by decide) rfl hin_8 ?_
    obtain ⟨hin_9, h⟩ := h
    refine tz_iald C dX4_insert_20 (by decide) rfl hin_9 ?_
    refine tz_aload_n 0 0 C dX4_insert_21 rfl rfl ?_
    refine tz_getR C dX4_insert_22 fl_RX4_15 (by decide) rfl rfl ?_
    refine tz_iload_n 1 1 C dX4_insert_25 rfl rfl ?_
    obtain ⟨hin_10, h⟩ := h
    refine tz_iald C dX4_insert_26 (by decide) rfl hin_10 ?_
    refine tz_icmp_ge 50 C dX4_insert_27 (by decide) h (fun c_11 h => ?_) (fun c_11 h => ?_)
    · refine tz_aload_n 0 0 C dX4_insert_50 rfl rfl ?_
      refine tz_getR C dX4_insert_51 fl_RX4_18 (by decide) rfl rfl ?_
      refine tz_iload_n 2 2 C dX4_insert_54 rfl rfl ?_
      refine tz_iload_n 1 1 C dX4_insert_55 rfl rfl ?_
      have hin_13 := h.1
      refine tz_iast C dX4_insert_56 (by decide) rfl h (fun σ_12 h => ?_)
      exact hret _ _ _ dX4_insert_57 h
    · refine tz_aload_n 0 0 C dX4_insert_30 rfl rfl ?_
      refine tz_getR C dX4_insert_31 fl_RX4_18 (by decide) rfl rfl ?_
      refine tz_iload_n 2 2 C dX4_insert_34 rfl rfl ?_
      refine tz_aload_n 0 0 C dX4_insert_35 rfl rfl ?_
      refine tz_getR C dX4_insert_36 fl_RX4_18 (by decide) rfl rfl ?_
      refine tz_iload_n 2 2 C dX4_insert_39 rfl rfl ?_
      refine tz_iconst 1 (by decide) C dX4_insert_40 ?_
      refine tz_isub C dX4_insert_41 ?_
      refine tz_iald C dX4_insert_42 (by decide) rfl hin_8 ?_
      have hin_15 := h.1
      refine tz_iast C dX4_insert_43 (by decide) rfl h (fun σ_14 h => ?_)
      refine tz_iinc 2 [(0, .ref 120), (1, .int x1)] (-1) C dX4_insert_44 (by decide) rfl (Nat.le_of_ble_eq_true rfl) rfl h (fun x2_16 h => ?_)
      refine tz_goto 4 C dX4_insert_47 (by decide) ?_
      exact tz_sub (ihag_2 _ _ h) [1, 2, 0] rfl

def vc_X4_leftHill (x1 : Int32) (σ : tzS) (Q : Int32 → tzS → Prop) : Prop :=
  vp_in x1 12 ∧ (
    ∀ x2_2 : Int32, x2_2 = (σ.1 121 x1.toNatClampNeg) →
    ∀ x3_3 : Int32, x3_3 = (x1 - 1) →
    tz_loop2 (fun (x2_6 : Int32) (x3_7 : Int32) (σ_5 : tzS) (ag_4 : Int32 → Int32 → tzS → Prop) =>
      (x3_7 < 1 →
        Q x2_6 σ_5) ∧
      (¬ x3_7 < 1 →
        vp_in x3_7 12 ∧ (
          ((σ_5.1 121 x3_7.toNatClampNeg) < x2_6 →
            Q x2_6 σ_5) ∧
          (¬ (σ_5.1 121 x3_7.toNatClampNeg) < x2_6 →
            ∀ x2_11 : Int32, x2_11 = (σ_5.1 121 x3_7.toNatClampNeg) →
            ∀ x3_12 : Int32, x3_12 = x3_7 + (-1) →
            ag_4 x2_11 x3_12 σ_5)))) x2_2 x3_3 σ)
set_option maxRecDepth 20000 in
set_option maxHeartbeats 4000000 in
theorem m_X4_leftHill (G : tzG) (hG : tz_ok G) {x1 : Int32}  {σ : tzS} {Q : Int32 → tzS → Prop} (h : vc_X4_leftHill x1 σ Q) : tz_M G yX4_leftHill cX4_leftHill 4 (some .int) 0 0 [.ref 120, .int x1] σ (tz_Qi G Q) := by
  unfold vc_X4_leftHill at h
  refine tz_starti hG RX4 [(0, .ref 120), (1, .int x1)] (by decide) rfl (Nat.le_of_ble_eq_true rfl) rfl (fun E C hret => ?_)
  refine tz_aload_n 0 0 C dX4_leftHill_0 rfl rfl ?_
  refine tz_getR C dX4_leftHill_1 fl_RX4_9 (by decide) rfl rfl ?_
  refine tz_iload_n 1 1 C dX4_leftHill_4 rfl rfl ?_
  obtain ⟨hin_1, h⟩ := h
  refine tz_iald C dX4_leftHill_5 (by decide) rfl hin_1 ?_
  refine tz_istore_n 2 [(0, .ref 120), (1, .int x1)] C dX4_leftHill_6 rfl (Nat.le_of_ble_eq_true rfl) rfl h (fun x2_2 h => ?_)
  refine tz_iload_n 1 2 C dX4_leftHill_7 rfl rfl ?_
  refine tz_iconst 1 (by decide) C dX4_leftHill_8 ?_
  refine tz_isub C dX4_leftHill_9 ?_
  refine tz_istore_n 3 [(2, .int x2_2), (0, .ref 120), (1, .int x1)] C dX4_leftHill_10 rfl (Nat.le_of_ble_eq_true rfl) rfl h (fun x3_3 h => ?_)
  refine tz_sub (L := [(0, .ref 120), (2, .int x2_2), (3, .int x3_3)]) ?_ [2, 1, 0] rfl
  refine tz_loop2_w (V := fun (x2_6 : Int32) (x3_7 : Int32) (σ_5 : tzS) => tz_V G E 11 [(0, .ref 120), (2, .int x2_6), (3, .int x3_7)] [] σ_5) h (fun ag_4 ihag_4 x2_6 x3_7 σ_5 h => ?_)
  refine tz_iload_n 3 2 C dX4_leftHill_11 rfl rfl ?_
  refine tz_iconst 1 (by decide) C dX4_leftHill_12 ?_
  refine tz_icmp_lt 39 C dX4_leftHill_13 (by decide) h (fun c_8 h => ?_) (fun c_8 h => ?_)
  · refine tz_iload_n 2 1 C dX4_leftHill_39 rfl rfl ?_
    exact hret _ _ _ _ dX4_leftHill_40 h
  · refine tz_aload_n 0 0 C dX4_leftHill_16 rfl rfl ?_
    refine tz_getR C dX4_leftHill_17 fl_RX4_9 (by decide) rfl rfl ?_
    refine tz_iload_n 3 2 C dX4_leftHill_20 rfl rfl ?_
    obtain ⟨hin_9, h⟩ := h
    refine tz_iald C dX4_leftHill_21 (by decide) rfl hin_9 ?_
    refine tz_iload_n 2 1 C dX4_leftHill_22 rfl rfl ?_
    refine tz_icmp_lt 39 C dX4_leftHill_23 (by decide) h (fun c_10 h => ?_) (fun c_10 h => ?_)
    · refine tz_iload_n 2 1 C dX4_leftHill_39 rfl rfl ?_
      exact hret _ _ _ _ dX4_leftHill_40 h
    · refine tz_aload_n 0 0 C dX4_leftHill_26 rfl rfl ?_
      refine tz_getR C dX4_leftHill_27 fl_RX4_9 (by decide) rfl rfl ?_
      refine tz_iload_n 3 2 C dX4_leftHill_30 rfl rfl ?_
      refine tz_iald C dX4_leftHill_31 (by decide) rfl hin_9 ?_
      refine tz_istore_n 2 [(0, .ref 120), (3, .int x3_7)] C dX4_leftHill_32 rfl (Nat.le_of_ble_eq_true rfl) rfl h (fun x2_11 h => ?_)
      refine tz_iinc 2 [(2, .int x2_11), (0, .ref 120)] (-1) C dX4_leftHill_33 (by decide) rfl (Nat.le_of_ble_eq_true rfl) rfl h (fun x3_12 h => ?_)
      refine tz_goto 11 C dX4_leftHill_36 (by decide) ?_
      exact tz_sub (ihag_4 _ _ _ h) [2, 1, 0] rfl

def vc_X4_rightHill (x1 : Int32) (x2 : Int32) (σ : tzS) (Q : Int32 → tzS → Prop) : Prop :=
  vp_in x1 12 ∧ (
    ∀ x3_2 : Int32, x3_2 = (σ.1 121 x1.toNatClampNeg) →
    ∀ x4_3 : Int32, x4_3 = (x1 + 1) →
    tz_loop2 (fun (x3_6 : Int32) (x4_7 : Int32) (σ_5 : tzS) (ag_4 : Int32 → Int32 → tzS → Prop) =>
      (x2 ≤ x4_7 →
        Q x3_6 σ_5) ∧
      (¬ x2 ≤ x4_7 →
        vp_in x4_7 12 ∧ (
          ((σ_5.1 121 x4_7.toNatClampNeg) < x3_6 →
            Q x3_6 σ_5) ∧
          (¬ (σ_5.1 121 x4_7.toNatClampNeg) < x3_6 →
            ∀ x3_11 : Int32, x3_11 = (σ_5.1 121 x4_7.toNatClampNeg) →
            ∀ x4_12 : Int32, x4_12 = x4_7 + 1 →
            ag_4 x3_11 x4_12 σ_5)))) x3_2 x4_3 σ)
set_option maxRecDepth 20000 in
set_option maxHeartbeats 4000000 in
theorem m_X4_rightHill (G : tzG) (hG : tz_ok G) {x1 : Int32} {x2 : Int32}  {σ : tzS} {Q : Int32 → tzS → Prop} (h : vc_X4_rightHill x1 x2 σ Q) : tz_M G yX4_rightHill cX4_rightHill 5 (some .int) 0 0 [.ref 120, .int x1, .int x2] σ (tz_Qi G Q) := by
  unfold vc_X4_rightHill at h
  refine tz_starti hG RX4 [(0, .ref 120), (1, .int x1), (2, .int x2)] (by decide) rfl (Nat.le_of_ble_eq_true rfl) rfl (fun E C hret => ?_)
  refine tz_aload_n 0 0 C dX4_rightHill_0 rfl rfl ?_
  refine tz_getR C dX4_rightHill_1 fl_RX4_9 (by decide) rfl rfl ?_
  refine tz_iload_n 1 1 C dX4_rightHill_4 rfl rfl ?_
  obtain ⟨hin_1, h⟩ := h
  refine tz_iald C dX4_rightHill_5 (by decide) rfl hin_1 ?_
  refine tz_istore_n 3 [(0, .ref 120), (1, .int x1), (2, .int x2)] C dX4_rightHill_6 rfl (Nat.le_of_ble_eq_true rfl) rfl h (fun x3_2 h => ?_)
  refine tz_iload_n 1 2 C dX4_rightHill_7 rfl rfl ?_
  refine tz_iconst 1 (by decide) C dX4_rightHill_8 ?_
  refine tz_iadd C dX4_rightHill_9 ?_
  refine tz_istore [(3, .int x3_2), (0, .ref 120), (1, .int x1), (2, .int x2)] C dX4_rightHill_10 (Nat.le_of_ble_eq_true rfl) rfl h (fun x4_3 h => ?_)
  refine tz_sub (L := [(0, .ref 120), (2, .int x2), (3, .int x3_2), (4, .int x4_3)]) ?_ [2, 4, 1, 0] rfl
  refine tz_loop2_w (V := fun (x3_6 : Int32) (x4_7 : Int32) (σ_5 : tzS) => tz_V G E 12 [(0, .ref 120), (2, .int x2), (3, .int x3_6), (4, .int x4_7)] [] σ_5) h (fun ag_4 ihag_4 x3_6 x4_7 σ_5 h => ?_)
  refine tz_iload 3 C dX4_rightHill_12 rfl ?_
  refine tz_iload_n 2 1 C dX4_rightHill_14 rfl rfl ?_
  refine tz_icmp_ge 43 C dX4_rightHill_15 (by decide) h (fun c_8 h => ?_) (fun c_8 h => ?_)
  · refine tz_iload_n 3 2 C dX4_rightHill_43 rfl rfl ?_
    exact hret _ _ _ _ dX4_rightHill_44 h
  · refine tz_aload_n 0 0 C dX4_rightHill_18 rfl rfl ?_
    refine tz_getR C dX4_rightHill_19 fl_RX4_9 (by decide) rfl rfl ?_
    refine tz_iload 3 C dX4_rightHill_22 rfl ?_
    obtain ⟨hin_9, h⟩ := h
    refine tz_iald C dX4_rightHill_24 (by decide) rfl hin_9 ?_
    refine tz_iload_n 3 2 C dX4_rightHill_25 rfl rfl ?_
    refine tz_icmp_lt 43 C dX4_rightHill_26 (by decide) h (fun c_10 h => ?_) (fun c_10 h => ?_)
    · refine tz_iload_n 3 2 C dX4_rightHill_43 rfl rfl ?_
      exact hret _ _ _ _ dX4_rightHill_44 h
    · refine tz_aload_n 0 0 C dX4_rightHill_29 rfl rfl ?_
      refine tz_getR C dX4_rightHill_30 fl_RX4_9 (by decide) rfl rfl ?_
      refine tz_iload 3 C dX4_rightHill_33 rfl ?_
      refine tz_iald C dX4_rightHill_35 (by decide) rfl hin_9 ?_
      refine tz_istore_n 3 [(0, .ref 120), (2, .int x2), (4, .int x4_7)] C dX4_rightHill_36 rfl (Nat.le_of_ble_eq_true rfl) rfl h (fun x3_11 h => ?_)
      refine tz_iinc 3 [(3, .int x3_11), (0, .ref 120), (2, .int x2)] 1 C dX4_rightHill_37 (by decide) rfl (Nat.le_of_ble_eq_true rfl) rfl h (fun x4_12 h => ?_)
      refine tz_goto 12 C dX4_rightHill_40 (by decide) ?_
      exact tz_sub (ihag_4 _ _ _ h) [2, 3, 1, 0] rfl

def vc_X4_wordsWithin (x1 : Int32) (x2 : Int32) (x3 : Int32) (σ : tzS) (Q : Int32 → tzS → Prop) : Prop :=
  tz_loop2 (fun (x4_3 : Int32) (x5_4 : Int32) (σ_2 : tzS) (ag_1 : Int32 → Int32 → tzS → Prop) =>
    (x3 ≤ x5_4 →
      Q x4_3 σ_2) ∧
    (¬ x3 ≤ x5_4 →
      vp_in x5_4 12 ∧ (
        vp_in x1 108 ∧ (
          ∀ x4_8 : Int32, x4_8 = (x4_3 + (σ_2.1 (21 + x5_4.toNatClampNeg) x1.toNatClampNeg)) →
          ∀ x5_9 : Int32, x5_9 = x5_4 + 1 →
          ag_1 x4_8 x5_9 σ_2)))) (0 : Int32) x2 σ
set_option maxRecDepth 20000 in
set_option maxHeartbeats 4000000 in
theorem m_X4_wordsWithin (G : tzG) (hG : tz_ok G) {x1 : Int32} {x2 : Int32} {x3 : Int32}  {σ : tzS} {Q : Int32 → tzS → Prop} (h : vc_X4_wordsWithin x1 x2 x3 σ Q) : tz_M G yX4_wordsWithin cX4_wordsWithin 6 (some .int) 0 0 [.ref 4, .int x1, .int x2, .int x3] σ (tz_Qi G Q) := by
  unfold vc_X4_wordsWithin at h
  refine tz_starti hG RX4 [(0, .ref 4), (1, .int x1), (2, .int x2), (3, .int x3)] (by decide) rfl (Nat.le_of_ble_eq_true rfl) rfl (fun E C hret => ?_)
  refine tz_iconst 0 (by decide) C dX4_wordsWithin_0 ?_
  refine tz_istore_k [(0, .ref 4), (1, .int x1), (2, .int x2), (3, .int x3)] C dX4_wordsWithin_1 (Nat.le_of_ble_eq_true rfl) rfl ?_
  refine tz_iload_n 2 3 C dX4_wordsWithin_3 rfl rfl ?_
  refine tz_istore_k [(4, .int 0), (0, .ref 4), (1, .int x1), (2, .int x2), (3, .int x3)] C dX4_wordsWithin_4 (Nat.le_of_ble_eq_true rfl) rfl ?_
  refine tz_sub (L := [(0, .ref 4), (1, .int x1), (3, .int x3), (4, .int 0), (5, .int x2)]) ?_ [2, 3, 5, 1, 0] rfl
  refine tz_loop2_w (V := fun (x4_3 : Int32) (x5_4 : Int32) (σ_2 : tzS) => tz_V G E 6 [(0, .ref 4), (1, .int x1), (3, .int x3), (4, .int x4_3), (5, .int x5_4)] [] σ_2) h (fun ag_1 ihag_1 x4_3 x5_4 σ_2 h => ?_)
  refine tz_iload 4 C dX4_wordsWithin_6 rfl ?_
  refine tz_iload_n 3 2 C dX4_wordsWithin_8 rfl rfl ?_
  refine tz_icmp_ge 32 C dX4_wordsWithin_9 (by decide) h (fun c_5 h => ?_) (fun c_5 h => ?_)
  · refine tz_iload 3 C dX4_wordsWithin_32 rfl ?_
    exact hret _ _ _ _ dX4_wordsWithin_34 h
  · refine tz_iload 3 C dX4_wordsWithin_12 rfl ?_
    refine tz_aload_n 0 0 C dX4_wordsWithin_14 rfl rfl ?_
    refine tz_getR C dX4_wordsWithin_15 fl_RX4_58 (by decide) rfl rfl ?_
    refine tz_iload 4 C dX4_wordsWithin_18 rfl ?_
    obtain ⟨hin_6, h⟩ := h
    refine tz_aald C dX4_wordsWithin_20 (by decide) rfl hin_6 ?_
    refine tz_iload_n 1 1 C dX4_wordsWithin_21 rfl rfl ?_
    obtain ⟨hin_7, h⟩ := h
    refine tz_iald C dX4_wordsWithin_22 (tz_rowlt hin_6 (by decide)) (tz_rows hin_6 (by decide)) hin_7 ?_
    refine tz_iadd C dX4_wordsWithin_23 ?_
    refine tz_istore [(0, .ref 4), (1, .int x1), (3, .int x3), (5, .int x5_4)] C dX4_wordsWithin_24 (Nat.le_of_ble_eq_true rfl) rfl h (fun x4_8 h => ?_)
    refine tz_iinc 4 [(4, .int x4_8), (0, .ref 4), (1, .int x1), (3, .int x3)] 1 C dX4_wordsWithin_26 (by decide) rfl (Nat.le_of_ble_eq_true rfl) rfl h (fun x5_9 h => ?_)
    refine tz_goto 6 C dX4_wordsWithin_29 (by decide) ?_
    exact tz_sub (ihag_1 _ _ _ h) [2, 3, 4, 1, 0] rfl

def vc_X4_likeness (x1 : Int32) (x2 : Int32) (σ : tzS) (Q : Int32 → tzS → Prop) : Prop :=
  ∀ x3_1 : Int32, x3_1 = (if (0 : Int32) < (x1 - x2) then (x1 - x2) else (0 : Int32)) →
  ∀ x4_2 : Int32, x4_2 = (if (x1 + x2) < (σ.1 4 0) then (x1 + x2) else (σ.1 4 0)) →
  tz_loop2 (fun (x5_5 : Int32) (x6_6 : Int32) (σ_4 : tzS) (ag_3 : Int32 → Int32 → tzS → Prop) =>
    ((σ_4.1 4 2) ≤ x6_6 →
      Q x5_5 σ_4) ∧
    (¬ (σ_4.1 4 2) ≤ x6_6 →
      vc_X4_wordsWithin x6_6 x3_1 x1 σ_4 (fun (r_9 : Int32) (σ_8 : tzS) =>
        vc_X4_wordsWithin x6_6 x1 x4_2 σ_8 (fun (r_11 : Int32) (σ_10 : tzS) =>
          ∀ x5_12 : Int32, x5_12 = (x5_5 + (if r_11 < r_9 then r_11 else r_9)) →
          ∀ x6_13 : Int32, x6_13 = x6_6 + 1 →
          ag_3 x5_12 x6_13 σ_10)))) (0 : Int32) (0 : Int32) σ
set_option maxRecDepth 20000 in
set_option maxHeartbeats 4000000 in
theorem m_X4_likeness (G : tzG) (hG : tz_ok G) {x1 : Int32} {x2 : Int32}  {σ : tzS} {Q : Int32 → tzS → Prop} (h : vc_X4_likeness x1 x2 σ Q) : tz_M G yX4_likeness cX4_likeness 7 (some .int) 1 25 [.ref 4, .int x1, .int x2] σ (tz_Qi G Q) := by
  unfold vc_X4_likeness at h
  refine tz_starti hG RX4 [(0, .ref 4), (1, .int x1), (2, .int x2)] (by decide) rfl (Nat.le_of_ble_eq_true rfl) rfl (fun E C hret => ?_)
  refine tz_iconst 0 (by decide) C dX4_likeness_0 ?_
  refine tz_iload_n 1 1 C dX4_likeness_1 rfl rfl ?_
  refine tz_iload_n 2 2 C dX4_likeness_2 rfl rfl ?_
  refine tz_isub C dX4_likeness_3 ?_
  refine tz_mmax C dX4_likeness_4 mk_RX4_43 mk_st_max mk_ini mk_co_max ⟨Nat.le_of_ble_eq_true rfl, Nat.le_of_ble_eq_true rfl⟩ ?_
  refine tz_istore_n 3 [(0, .ref 4), (1, .int x1), (2, .int x2)] C dX4_likeness_7 rfl (Nat.le_of_ble_eq_true rfl) rfl h (fun x3_1 h => ?_)
  refine tz_aload_n 0 1 C dX4_likeness_8 rfl rfl ?_
  refine tz_getI C dX4_likeness_9 fl_RX4_21 (by decide) rfl rfl ?_
  refine tz_iload_n 1 2 C dX4_likeness_12 rfl rfl ?_
  refine tz_iload_n 2 3 C dX4_likeness_13 rfl rfl ?_
  refine tz_iadd C dX4_likeness_14 ?_
  refine tz_mmin C dX4_likeness_15 mk_RX4_48 mk_st_min mk_ini mk_co_min ⟨Nat.le_of_ble_eq_true rfl, Nat.le_of_ble_eq_true rfl⟩ ?_
  refine tz_istore [(3, .int x3_1), (0, .ref 4), (1, .int x1), (2, .int x2)] C dX4_likeness_18 (Nat.le_of_ble_eq_true rfl) rfl h (fun x4_2 h => ?_)
  refine tz_iconst 0 (by decide) C dX4_likeness_20 ?_
  refine tz_istore_k [(4, .int x4_2), (3, .int x3_1), (0, .ref 4), (1, .int x1), (2, .int x2)] C dX4_likeness_21 (Nat.le_of_ble_eq_true rfl) rfl ?_
  refine tz_iconst 0 (by decide) C dX4_likeness_23 ?_
  refine tz_istore_k [(5, .int 0), (4, .int x4_2), (3, .int x3_1), (0, .ref 4), (1, .int x1), (2, .int x2)] C dX4_likeness_24 (Nat.le_of_ble_eq_true rfl) rfl ?_
  refine tz_sub (L := [(0, .ref 4), (1, .int x1), (3, .int x3_1), (4, .int x4_2), (5, .int 0), (6, .int 0)]) ?_ [4, 5, 3, 2, 1, 0] rfl
  refine tz_loop2_w (V := fun (x5_5 : Int32) (x6_6 : Int32) (σ_4 : tzS) => tz_V G E 26 [(0, .ref 4), (1, .int x1), (3, .int x3_1), (4, .int x4_2), (5, .int x5_5), (6, .int x6_6)] [] σ_4) h (fun ag_3 ihag_3 x5_5 x6_6 σ_4 h => ?_)
  refine tz_iload 5 C dX4_likeness_26 rfl ?_
  refine tz_aload_n 0 0 C dX4_likeness_28 rfl rfl ?_
  refine tz_getI C dX4_likeness_29 fl_RX4_51 (by decide) rfl rfl ?_
  refine tz_icmp_ge 66 C dX4_likeness_32 (by decide) h (fun c_7 h => ?_) (fun c_7 h => ?_)
  · refine tz_iload 4 C dX4_likeness_66 rfl ?_
    exact hret _ _ _ _ dX4_likeness_68 h
  · refine tz_iload 4 C dX4_likeness_35 rfl ?_
    refine tz_aload_n 0 0 C dX4_likeness_37 rfl rfl ?_
    refine tz_iload 5 C dX4_likeness_38 rfl ?_
    refine tz_iload_n 3 2 C dX4_likeness_40 rfl rfl ?_
    refine tz_iload_n 1 1 C dX4_likeness_41 rfl rfl ?_
    refine tz_callis C dX4_likeness_42 lk_RX4_54 (m_X4_wordsWithin G hG  h) rfl ⟨Nat.le_of_ble_eq_true rfl, Nat.le_of_ble_eq_true rfl⟩ (Nat.le_of_ble_eq_true rfl) rfl (fun r_9 σ_8 h => ?_)
    refine tz_aload_n 0 0 C dX4_likeness_45 rfl rfl ?_
    refine tz_iload 5 C dX4_likeness_46 rfl ?_
    refine tz_iload_n 1 1 C dX4_likeness_48 rfl rfl ?_
    refine tz_iload 3 C dX4_likeness_49 rfl ?_
    refine tz_callis C dX4_likeness_51 lk_RX4_54 (m_X4_wordsWithin G hG  h) rfl ⟨Nat.le_of_ble_eq_true rfl, Nat.le_of_ble_eq_true rfl⟩ (Nat.le_of_ble_eq_true rfl) rfl (fun r_11 σ_10 h => ?_)
    refine tz_mmin C dX4_likeness_54 mk_RX4_48 mk_st_min mk_ini mk_co_min ⟨Nat.le_of_ble_eq_true rfl, Nat.le_of_ble_eq_true rfl⟩ ?_
    refine tz_iadd C dX4_likeness_57 ?_
    refine tz_istore [(0, .ref 4), (1, .int x1), (3, .int x3_1), (4, .int x4_2), (6, .int x6_6)] C dX4_likeness_58 (Nat.le_of_ble_eq_true rfl) rfl h (fun x5_12 h => ?_)
    refine tz_iinc 5 [(5, .int x5_12), (0, .ref 4), (1, .int x1), (3, .int x3_1), (4, .int x4_2)] 1 C dX4_likeness_60 (by decide) rfl (Nat.le_of_ble_eq_true rfl) rfl h (fun x6_13 h => ?_)
    refine tz_goto 26 C dX4_likeness_63 (by decide) ?_
    exact tz_sub (ihag_3 _ _ _ h) [2, 3, 4, 5, 1, 0] rfl

def vc_X4_fill (x2 : Int32) (σ : tzS) (Q : tzS → Prop) : Prop :=
  ∀ x3_1 : Int32, x3_1 = (σ.1 4 0) →
  tz_loop1 (fun (x4_4 : Int32) (σ_3 : tzS) (ag_2 : Int32 → tzS → Prop) =>
    (x3_1 ≤ x4_4 →
      tz_loop1 (fun (x4_8 : Int32) (σ_7 : tzS) (ag_6 : Int32 → tzS → Prop) =>
        (x3_1 ≤ x4_8 →
          tz_loop1 (fun (x4_12 : Int32) (σ_11 : tzS) (ag_10 : Int32 → tzS → Prop) =>
            (x3_1 ≤ x4_12 →
              Q σ_11) ∧
            (¬ x3_1 ≤ x4_12 →
              vc_X4_insert x4_12 σ_11 (fun (σ_14 : tzS) =>
                ∀ x4_15 : Int32, x4_15 = x4_12 + 1 →
                ag_10 x4_15 σ_14))) (1 : Int32) σ_7) ∧
        (¬ x3_1 ≤ x4_8 →
          vc_X4_leftHill x4_8 σ_7 (fun (r_17 : Int32) (σ_16 : tzS) =>
            vc_X4_rightHill x4_8 x3_1 σ_16 (fun (r_19 : Int32) (σ_18 : tzS) =>
              vp_in x4_8 12 ∧ (
                ∀ σ_21 : tzS, σ_21 = tz_st σ_18 122 x4_8.toNatClampNeg ((r_17 + r_19) - (2 * (σ_18.1 121 x4_8.toNatClampNeg))) →
                ∀ x4_22 : Int32, x4_22 = x4_8 + 1 →
                ag_6 x4_22 σ_21))))) (1 : Int32) σ_3) ∧
    (¬ x3_1 ≤ x4_4 →
      vc_X4_likeness x4_4 x2 σ_3 (fun (r_24 : Int32) (σ_23 : tzS) =>
        vp_in x4_4 12 ∧ (
          ∀ σ_25 : tzS, σ_25 = tz_st σ_23 121 x4_4.toNatClampNeg r_24 →
          ∀ x4_27 : Int32, x4_27 = x4_4 + 1 →
          ag_2 x4_27 σ_25)))) (1 : Int32) σ
set_option maxRecDepth 20000 in
set_option maxHeartbeats 4000000 in
theorem m_X4_fill (G : tzG) (hG : tz_ok G) {x2 : Int32}  {σ : tzS} {Q : tzS → Prop} (h : vc_X4_fill x2 σ Q) : tz_M G yX4_fill cX4_fill 5 (none) 2 51 [.ref 120, .ref 4, .int x2] σ (tz_Qv G Q) := by
  unfold vc_X4_fill at h
  refine tz_startv hG RX4 [(0, .ref 120), (1, .ref 4), (2, .int x2)] (by decide) rfl (Nat.le_of_ble_eq_true rfl) rfl (fun E C hret => ?_)
  refine tz_aload_n 1 1 C dX4_fill_0 rfl rfl ?_
  refine tz_getI C dX4_fill_1 fl_RX4_21 (by decide) rfl rfl ?_
  refine tz_istore_n 3 [(0, .ref 120), (1, .ref 4), (2, .int x2)] C dX4_fill_4 rfl (Nat.le_of_ble_eq_true rfl) rfl h (fun x3_1 h => ?_)
  refine tz_iconst 1 (by decide) C dX4_fill_5 ?_
  refine tz_istore_k [(3, .int x3_1), (0, .ref 120), (1, .ref 4), (2, .int x2)] C dX4_fill_6 (Nat.le_of_ble_eq_true rfl) rfl ?_
  refine tz_sub (L := [(0, .ref 120), (1, .ref 4), (2, .int x2), (3, .int x3_1), (4, .int 1)]) ?_ [2, 3, 4, 1, 0] rfl
  refine tz_loop1_w (V := fun (x4_4 : Int32) (σ_3 : tzS) => tz_V G E 8 [(0, .ref 120), (1, .ref 4), (2, .int x2), (3, .int x3_1), (4, .int x4_4)] [] σ_3) h (fun ag_2 ihag_2 x4_4 σ_3 h => ?_)
  refine tz_iload 4 C dX4_fill_8 rfl ?_
  refine tz_iload_n 3 3 C dX4_fill_10 rfl rfl ?_
  refine tz_icmp_ge 34 C dX4_fill_11 (by decide) h (fun c_5 h => ?_) (fun c_5 h => ?_)
  · refine tz_iconst 1 (by decide) C dX4_fill_34 ?_
    refine tz_istore_k [(0, .ref 120), (1, .ref 4), (2, .int x2), (3, .int x3_1)] C dX4_fill_35 (Nat.le_of_ble_eq_true rfl) rfl ?_
    refine tz_sub (L := [(0, .ref 120), (3, .int x3_1), (4, .int 1)]) ?_ [1, 4, 0] rfl
    refine tz_loop1_w (V := fun (x4_8 : Int32) (σ_7 : tzS) => tz_V G E 37 [(0, .ref 120), (3, .int x3_1), (4, .int x4_8)] [] σ_7) h (fun ag_6 ihag_6 x4_8 σ_7 h => ?_)
    refine tz_iload 2 C dX4_fill_37 rfl ?_
    refine tz_iload_n 3 1 C dX4_fill_39 rfl rfl ?_
    refine tz_icmp_ge 80 C dX4_fill_40 (by decide) h (fun c_9 h => ?_) (fun c_9 h => ?_)
    · refine tz_iconst 1 (by decide) C dX4_fill_80 ?_
      refine tz_istore_k [(0, .ref 120), (3, .int x3_1)] C dX4_fill_81 (Nat.le_of_ble_eq_true rfl) rfl ?_
      refine tz_sub (L := [(0, .ref 120), (3, .int x3_1), (4, .int 1)]) ?_ [1, 2, 0] rfl
      refine tz_loop1_w (V := fun (x4_12 : Int32) (σ_11 : tzS) => tz_V G E 83 [(0, .ref 120), (3, .int x3_1), (4, .int x4_12)] [] σ_11) h (fun ag_10 ihag_10 x4_12 σ_11 h => ?_)
      refine tz_iload 2 C dX4_fill_83 rfl ?_
      refine tz_iload_n 3 1 C dX4_fill_85 rfl rfl ?_
      refine tz_icmp_ge 101 C dX4_fill_86 (by decide) h (fun c_13 h => ?_) (fun c_13 h => ?_)
      · exact hret _ _ _ dX4_fill_101 h
      · refine tz_aload_n 0 0 C dX4_fill_89 rfl rfl ?_
        refine tz_iload 2 C dX4_fill_90 rfl ?_
        refine tz_callvv C dX4_fill_92 lk_RX4_39 (m_X4_insert G hG  h) (by decide) rfl rfl rfl rfl ⟨Nat.le_of_ble_eq_true rfl, Nat.le_of_ble_eq_true rfl⟩ (Nat.le_of_ble_eq_true rfl) rfl (fun σ_14 h => ?_)
        refine tz_iinc 2 [(0, .ref 120), (3, .int x3_1)] 1 C dX4_fill_95 (by decide) rfl (Nat.le_of_ble_eq_true rfl) rfl h (fun x4_15 h => ?_)
        refine tz_goto 83 C dX4_fill_98 (by decide) ?_
        exact tz_sub (ihag_10 _ _ h) [1, 2, 0] rfl
    · refine tz_aload_n 0 0 C dX4_fill_43 rfl rfl ?_
      refine tz_getR C dX4_fill_44 fl_RX4_15 (by decide) rfl rfl ?_
      refine tz_iload 2 C dX4_fill_47 rfl ?_
      refine tz_aload_n 0 0 C dX4_fill_49 rfl rfl ?_
      refine tz_iload 2 C dX4_fill_50 rfl ?_
      refine tz_calliv C dX4_fill_52 lk_RX4_31 (m_X4_leftHill G hG  h) (by decide) rfl rfl rfl rfl ⟨Nat.le_of_ble_eq_true rfl, Nat.le_of_ble_eq_true rfl⟩ (Nat.le_of_ble_eq_true rfl) rfl (fun r_17 σ_16 h => ?_)
      refine tz_aload_n 0 0 C dX4_fill_55 rfl rfl ?_
      refine tz_iload 2 C dX4_fill_56 rfl ?_
      refine tz_iload_n 3 1 C dX4_fill_58 rfl rfl ?_
      refine tz_calliv C dX4_fill_59 lk_RX4_35 (m_X4_rightHill G hG  h) (by decide) rfl rfl rfl rfl ⟨Nat.le_of_ble_eq_true rfl, Nat.le_of_ble_eq_true rfl⟩ (Nat.le_of_ble_eq_true rfl) rfl (fun r_19 σ_18 h => ?_)
      refine tz_iadd C dX4_fill_62 ?_
      refine tz_iconst 2 (by decide) C dX4_fill_63 ?_
      refine tz_aload_n 0 0 C dX4_fill_64 rfl rfl ?_
      refine tz_getR C dX4_fill_65 fl_RX4_9 (by decide) rfl rfl ?_
      refine tz_iload 2 C dX4_fill_68 rfl ?_
      obtain ⟨hin_20, h⟩ := h
      refine tz_iald C dX4_fill_70 (by decide) rfl hin_20 ?_
      refine tz_imul C dX4_fill_71 ?_
      refine tz_isub C dX4_fill_72 ?_
      refine tz_iast_c _ C dX4_fill_73 (by decide) rfl hin_20 rfl h (fun σ_21 h => ?_)
      refine tz_iinc 2 [(0, .ref 120), (3, .int x3_1)] 1 C dX4_fill_74 (by decide) rfl (Nat.le_of_ble_eq_true rfl) rfl h (fun x4_22 h => ?_)
      refine tz_goto 37 C dX4_fill_77 (by decide) ?_
      exact tz_sub (ihag_6 _ _ h) [1, 2, 0] rfl
  · refine tz_aload_n 0 0 C dX4_fill_14 rfl rfl ?_
    refine tz_getR C dX4_fill_15 fl_RX4_9 (by decide) rfl rfl ?_
    refine tz_iload 4 C dX4_fill_18 rfl ?_
    refine tz_aload_n 1 1 C dX4_fill_20 rfl rfl ?_
    refine tz_iload 4 C dX4_fill_21 rfl ?_
    refine tz_iload_n 2 2 C dX4_fill_23 rfl rfl ?_
    refine tz_callis C dX4_fill_24 lk_RX4_27 (m_X4_likeness G hG  h) rfl ⟨Nat.le_of_ble_eq_true rfl, Nat.le_of_ble_eq_true rfl⟩ (Nat.le_of_ble_eq_true rfl) rfl (fun r_24 σ_23 h => ?_)
    have hin_26 := h.1
    refine tz_iast C dX4_fill_27 (by decide) rfl h (fun σ_25 h => ?_)
    refine tz_iinc 4 [(0, .ref 120), (1, .ref 4), (2, .int x2), (3, .int x3_1)] 1 C dX4_fill_28 (by decide) rfl (Nat.le_of_ble_eq_true rfl) rfl h (fun x4_27 h => ?_)
    refine tz_goto 8 C dX4_fill_31 (by decide) ?_
    exact tz_sub (ihag_2 _ _ h) [1, 2, 3, 4, 0] rfl

def vc_X5_beginOf (a0 : Nat) (x1 : Int32) (x2 : Int32) (x3 : Int32) (σ : tzS) (Q : Int32 → tzS → Prop) : Prop :=
  tz_loop2 (fun (x4_3 : Int32) (x5_4 : Int32) (σ_2 : tzS) (ag_1 : Int32 → Int32 → tzS → Prop) =>
    (x5_4 ≤ x2 →
      Q x4_3 σ_2) ∧
    (¬ x5_4 ≤ x2 →
      vp_in x5_4 9 ∧ (
        vp_in x4_3 13 ∧ (
          ∀ x4_8 : Int32, x4_8 = (σ_2.1 ((a0 + 12) + x5_4.toNatClampNeg) x4_3.toNatClampNeg) →
          ∀ x5_9 : Int32, x5_9 = x5_4 + (-1) →
          ag_1 x4_8 x5_9 σ_2)))) x3 x1 σ
set_option maxRecDepth 20000 in
set_option maxHeartbeats 4000000 in
theorem m_X5_beginOf (G : tzG) (hG : tz_ok G) {a0 : Nat} {x1 : Int32} {x2 : Int32} {x3 : Int32} (ha0 : a0 = 59 ∨ a0 = 99) {σ : tzS} {Q : Int32 → tzS → Prop} (h : vc_X5_beginOf a0 x1 x2 x3 σ Q) : tz_M G yX5_beginOf cX5_beginOf 6 (some .int) 0 0 [.ref a0, .int x1, .int x2, .int x3] σ (tz_Qi G Q) := by
  rcases ha0 with rfl | rfl
  · unfold vc_X5_beginOf at h
    refine tz_starti hG RX5 [(0, .ref 59), (1, .int x1), (2, .int x2), (3, .int x3)] (by decide) rfl (Nat.le_of_ble_eq_true rfl) rfl (fun E C hret => ?_)
    refine tz_iload_n 3 3 C dX5_beginOf_0 rfl rfl ?_
    refine tz_istore_k [(0, .ref 59), (1, .int x1), (2, .int x2), (3, .int x3)] C dX5_beginOf_1 (Nat.le_of_ble_eq_true rfl) rfl ?_
    refine tz_iload_n 1 2 C dX5_beginOf_3 rfl rfl ?_
    refine tz_istore_k [(4, .int x3), (0, .ref 59), (1, .int x1), (2, .int x2), (3, .int x3)] C dX5_beginOf_4 (Nat.le_of_ble_eq_true rfl) rfl ?_
    refine tz_sub (L := [(0, .ref 59), (2, .int x2), (4, .int x3), (5, .int x1)]) ?_ [2, 4, 1, 0] rfl
    refine tz_loop2_w (V := fun (x4_3 : Int32) (x5_4 : Int32) (σ_2 : tzS) => tz_V G E 6 [(0, .ref 59), (2, .int x2), (4, .int x4_3), (5, .int x5_4)] [] σ_2) h (fun ag_1 ihag_1 x4_3 x5_4 σ_2 h => ?_)
    refine tz_iload 3 C dX5_beginOf_6 rfl ?_
    refine tz_iload_n 2 1 C dX5_beginOf_8 rfl rfl ?_
    refine tz_icmp_le 30 C dX5_beginOf_9 (by decide) h (fun c_5 h => ?_) (fun c_5 h => ?_)
    · refine tz_iload 2 C dX5_beginOf_30 rfl ?_
      exact hret _ _ _ _ dX5_beginOf_32 h
    · refine tz_aload_n 0 0 C dX5_beginOf_12 rfl rfl ?_
      refine tz_getR C dX5_beginOf_13 fl_RX5_16 (by decide) rfl rfl ?_
      refine tz_iload 3 C dX5_beginOf_16 rfl ?_
      obtain ⟨hin_6, h⟩ := h
      refine tz_aald C dX5_beginOf_18 (by decide) rfl hin_6 ?_
      refine tz_iload 2 C dX5_beginOf_19 rfl ?_
      obtain ⟨hin_7, h⟩ := h
      refine tz_iald C dX5_beginOf_21 (tz_rowlt hin_6 (by decide)) (tz_rows hin_6 (by decide)) hin_7 ?_
      refine tz_istore [(0, .ref 59), (2, .int x2), (5, .int x5_4)] C dX5_beginOf_22 (Nat.le_of_ble_eq_true rfl) rfl h (fun x4_8 h => ?_)
      refine tz_iinc 3 [(4, .int x4_8), (0, .ref 59), (2, .int x2)] (-1) C dX5_beginOf_24 (by decide) rfl (Nat.le_of_ble_eq_true rfl) rfl h (fun x5_9 h => ?_)
      refine tz_goto 6 C dX5_beginOf_27 (by decide) ?_
      exact tz_sub (ihag_1 _ _ _ h) [2, 3, 1, 0] rfl
  · unfold vc_X5_beginOf at h
    refine tz_starti hG RX5 [(0, .ref 99), (1, .int x1), (2, .int x2), (3, .int x3)] (by decide) rfl (Nat.le_of_ble_eq_true rfl) rfl (fun E C hret => ?_)
    refine tz_iload_n 3 3 C dX5_beginOf_0 rfl rfl ?_
    refine tz_istore_k [(0, .ref 99), (1, .int x1), (2, .int x2), (3, .int x3)] C dX5_beginOf_1 (Nat.le_of_ble_eq_true rfl) rfl ?_
    refine tz_iload_n 1 2 C dX5_beginOf_3 rfl rfl ?_
    refine tz_istore_k [(4, .int x3), (0, .ref 99), (1, .int x1), (2, .int x2), (3, .int x3)] C dX5_beginOf_4 (Nat.le_of_ble_eq_true rfl) rfl ?_
    refine tz_sub (L := [(0, .ref 99), (2, .int x2), (4, .int x3), (5, .int x1)]) ?_ [2, 4, 1, 0] rfl
    refine tz_loop2_w (V := fun (x4_3 : Int32) (x5_4 : Int32) (σ_2 : tzS) => tz_V G E 6 [(0, .ref 99), (2, .int x2), (4, .int x4_3), (5, .int x5_4)] [] σ_2) h (fun ag_1 ihag_1 x4_3 x5_4 σ_2 h => ?_)
    refine tz_iload 3 C dX5_beginOf_6 rfl ?_
    refine tz_iload_n 2 1 C dX5_beginOf_8 rfl rfl ?_
    refine tz_icmp_le 30 C dX5_beginOf_9 (by decide) h (fun c_5 h => ?_) (fun c_5 h => ?_)
    · refine tz_iload 2 C dX5_beginOf_30 rfl ?_
      exact hret _ _ _ _ dX5_beginOf_32 h
    · refine tz_aload_n 0 0 C dX5_beginOf_12 rfl rfl ?_
      refine tz_getR C dX5_beginOf_13 fl_RX5_16 (by decide) rfl rfl ?_
      refine tz_iload 3 C dX5_beginOf_16 rfl ?_
      obtain ⟨hin_6, h⟩ := h
      refine tz_aald C dX5_beginOf_18 (by decide) rfl hin_6 ?_
      refine tz_iload 2 C dX5_beginOf_19 rfl ?_
      obtain ⟨hin_7, h⟩ := h
      refine tz_iald C dX5_beginOf_21 (tz_rowlt hin_6 (by decide)) (tz_rows hin_6 (by decide)) hin_7 ?_
      refine tz_istore [(0, .ref 99), (2, .int x2), (5, .int x5_4)] C dX5_beginOf_22 (Nat.le_of_ble_eq_true rfl) rfl h (fun x4_8 h => ?_)
      refine tz_iinc 3 [(4, .int x4_8), (0, .ref 99), (2, .int x2)] (-1) C dX5_beginOf_24 (by decide) rfl (Nat.le_of_ble_eq_true rfl) rfl h (fun x5_9 h => ?_)
      refine tz_goto 6 C dX5_beginOf_27 (by decide) ?_
      exact tz_sub (ihag_1 _ _ _ h) [2, 3, 1, 0] rfl

def vc_X5_seamBits (a0 : Nat) (x1 : Int32) (x2 : Int32) (σ : tzS) (Q : Int32 → tzS → Prop) : Prop :=
  tz_loop2 (fun (x3_3 : Int32) (x4_4 : Int32) (σ_2 : tzS) (ag_1 : Int32 → Int32 → tzS → Prop) =>
    (x1 ≤ x4_4 →
      Q x3_3 σ_2) ∧
    (¬ x1 ≤ x4_4 →
      vc_X5_beginOf a0 x1 x4_4 x2 σ_2 (fun (r_7 : Int32) (σ_6 : tzS) =>
        ∀ x3_8 : Int32, x3_8 = (x3_3 ||| ((1 : Int32) <<< (r_7 &&& 31))) →
        ∀ x4_9 : Int32, x4_9 = x4_4 + 1 →
        ag_1 x3_8 x4_9 σ_6))) (0 : Int32) (1 : Int32) σ
set_option maxRecDepth 20000 in
set_option maxHeartbeats 4000000 in
theorem m_X5_seamBits (G : tzG) (hG : tz_ok G) {a0 : Nat} {x1 : Int32} {x2 : Int32} (ha0 : a0 = 59 ∨ a0 = 99) {σ : tzS} {Q : Int32 → tzS → Prop} (h : vc_X5_seamBits a0 x1 x2 σ Q) : tz_M G yX5_seamBits cX5_seamBits 5 (some .int) 1 25 [.ref a0, .int x1, .int x2] σ (tz_Qi G Q) := by
  rcases ha0 with rfl | rfl
  · unfold vc_X5_seamBits at h
    refine tz_starti hG RX5 [(0, .ref 59), (1, .int x1), (2, .int x2)] (by decide) rfl (Nat.le_of_ble_eq_true rfl) rfl (fun E C hret => ?_)
    refine tz_iconst 0 (by decide) C dX5_seamBits_0 ?_
    refine tz_istore_n_k 3 [(0, .ref 59), (1, .int x1), (2, .int x2)] C dX5_seamBits_1 rfl (Nat.le_of_ble_eq_true rfl) rfl ?_
    refine tz_iconst 1 (by decide) C dX5_seamBits_2 ?_
    refine tz_istore_k [(3, .int 0), (0, .ref 59), (1, .int x1), (2, .int x2)] C dX5_seamBits_3 (Nat.le_of_ble_eq_true rfl) rfl ?_
    refine tz_sub (L := [(0, .ref 59), (1, .int x1), (2, .int x2), (3, .int 0), (4, .int 1)]) ?_ [2, 3, 4, 1, 0] rfl
    refine tz_loop2_w (V := fun (x3_3 : Int32) (x4_4 : Int32) (σ_2 : tzS) => tz_V G E 5 [(0, .ref 59), (1, .int x1), (2, .int x2), (3, .int x3_3), (4, .int x4_4)] [] σ_2) h (fun ag_1 ihag_1 x3_3 x4_4 σ_2 h => ?_)
    refine tz_iload 4 C dX5_seamBits_5 rfl ?_
    refine tz_iload_n 1 1 C dX5_seamBits_7 rfl rfl ?_
    refine tz_icmp_ge 30 C dX5_seamBits_8 (by decide) h (fun c_5 h => ?_) (fun c_5 h => ?_)
    · refine tz_iload_n 3 3 C dX5_seamBits_30 rfl rfl ?_
      exact hret _ _ _ _ dX5_seamBits_31 h
    · refine tz_iload_n 3 3 C dX5_seamBits_11 rfl rfl ?_
      refine tz_iconst 1 (by decide) C dX5_seamBits_12 ?_
      refine tz_aload_n 0 0 C dX5_seamBits_13 rfl rfl ?_
      refine tz_iload_n 1 1 C dX5_seamBits_14 rfl rfl ?_
      refine tz_iload 4 C dX5_seamBits_15 rfl ?_
      refine tz_iload_n 2 2 C dX5_seamBits_17 rfl rfl ?_
      refine tz_calliv C dX5_seamBits_18 lk_RX5_23 (m_X5_beginOf G hG (by decide) h) (by decide) rfl rfl rfl rfl ⟨Nat.le_of_ble_eq_true rfl, Nat.le_of_ble_eq_true rfl⟩ (Nat.le_of_ble_eq_true rfl) rfl (fun r_7 σ_6 h => ?_)
      refine tz_ishl C dX5_seamBits_21 ?_
      refine tz_ior C dX5_seamBits_22 ?_
      refine tz_istore_n 3 [(0, .ref 59), (1, .int x1), (2, .int x2), (4, .int x4_4)] C dX5_seamBits_23 rfl (Nat.le_of_ble_eq_true rfl) rfl h (fun x3_8 h => ?_)
      refine tz_iinc 4 [(3, .int x3_8), (0, .ref 59), (1, .int x1), (2, .int x2)] 1 C dX5_seamBits_24 (by decide) rfl (Nat.le_of_ble_eq_true rfl) rfl h (fun x4_9 h => ?_)
      refine tz_goto 5 C dX5_seamBits_27 (by decide) ?_
      exact tz_sub (ihag_1 _ _ _ h) [2, 3, 4, 1, 0] rfl
  · unfold vc_X5_seamBits at h
    refine tz_starti hG RX5 [(0, .ref 99), (1, .int x1), (2, .int x2)] (by decide) rfl (Nat.le_of_ble_eq_true rfl) rfl (fun E C hret => ?_)
    refine tz_iconst 0 (by decide) C dX5_seamBits_0 ?_
    refine tz_istore_n_k 3 [(0, .ref 99), (1, .int x1), (2, .int x2)] C dX5_seamBits_1 rfl (Nat.le_of_ble_eq_true rfl) rfl ?_
    refine tz_iconst 1 (by decide) C dX5_seamBits_2 ?_
    refine tz_istore_k [(3, .int 0), (0, .ref 99), (1, .int x1), (2, .int x2)] C dX5_seamBits_3 (Nat.le_of_ble_eq_true rfl) rfl ?_
    refine tz_sub (L := [(0, .ref 99), (1, .int x1), (2, .int x2), (3, .int 0), (4, .int 1)]) ?_ [2, 3, 4, 1, 0] rfl
    refine tz_loop2_w (V := fun (x3_3 : Int32) (x4_4 : Int32) (σ_2 : tzS) => tz_V G E 5 [(0, .ref 99), (1, .int x1), (2, .int x2), (3, .int x3_3), (4, .int x4_4)] [] σ_2) h (fun ag_1 ihag_1 x3_3 x4_4 σ_2 h => ?_)
    refine tz_iload 4 C dX5_seamBits_5 rfl ?_
    refine tz_iload_n 1 1 C dX5_seamBits_7 rfl rfl ?_
    refine tz_icmp_ge 30 C dX5_seamBits_8 (by decide) h (fun c_5 h => ?_) (fun c_5 h => ?_)
    · refine tz_iload_n 3 3 C dX5_seamBits_30 rfl rfl ?_
      exact hret _ _ _ _ dX5_seamBits_31 h
    · refine tz_iload_n 3 3 C dX5_seamBits_11 rfl rfl ?_
      refine tz_iconst 1 (by decide) C dX5_seamBits_12 ?_
      refine tz_aload_n 0 0 C dX5_seamBits_13 rfl rfl ?_
      refine tz_iload_n 1 1 C dX5_seamBits_14 rfl rfl ?_
      refine tz_iload 4 C dX5_seamBits_15 rfl ?_
      refine tz_iload_n 2 2 C dX5_seamBits_17 rfl rfl ?_
      refine tz_calliv C dX5_seamBits_18 lk_RX5_23 (m_X5_beginOf G hG (by decide) h) (by decide) rfl rfl rfl rfl ⟨Nat.le_of_ble_eq_true rfl, Nat.le_of_ble_eq_true rfl⟩ (Nat.le_of_ble_eq_true rfl) rfl (fun r_7 σ_6 h => ?_)
      refine tz_ishl C dX5_seamBits_21 ?_
      refine tz_ior C dX5_seamBits_22 ?_
      refine tz_istore_n 3 [(0, .ref 99), (1, .int x1), (2, .int x2), (4, .int x4_4)] C dX5_seamBits_23 rfl (Nat.le_of_ble_eq_true rfl) rfl h (fun x3_8 h => ?_)
      refine tz_iinc 4 [(3, .int x3_8), (0, .ref 99), (1, .int x1), (2, .int x2)] 1 C dX5_seamBits_24 (by decide) rfl (Nat.le_of_ble_eq_true rfl) rfl h (fun x4_9 h => ?_)
      refine tz_goto 5 C dX5_seamBits_27 (by decide) ?_
      exact tz_sub (ihag_1 _ _ _ h) [2, 3, 4, 1, 0] rfl

def vc_X5_isBent (a0 : Nat) (x1 : Int32) (x2 : Int32) (σ : tzS) (Q : Int32 → tzS → Prop) : Prop :=
  vp_in (x1 - 1) 9 ∧ (
    vp_in x2 13 ∧ (
      vp_in (x1 + 1) 9 ∧ (
        vp_in x1 9 ∧ (
          (((σ.1 ((a0 + 2) + (x1 - 1).toNatClampNeg) x2.toNatClampNeg) + (σ.1 ((a0 + 2) + (x1 + 1).toNatClampNeg) x2.toNatClampNeg)) < (2 * (σ.1 ((a0 + 2) + x1.toNatClampNeg) x2.toNatClampNeg)) →
            Q 0 σ) ∧
          (¬ ((σ.1 ((a0 + 2) + (x1 - 1).toNatClampNeg) x2.toNatClampNeg) + (σ.1 ((a0 + 2) + (x1 + 1).toNatClampNeg) x2.toNatClampNeg)) < (2 * (σ.1 ((a0 + 2) + x1.toNatClampNeg) x2.toNatClampNeg)) →
            Q 1 σ)))))
set_option maxRecDepth 20000 in
set_option maxHeartbeats 4000000 in
theorem m_X5_isBent (G : tzG) (hG : tz_ok G) {a0 : Nat} {x1 : Int32} {x2 : Int32} (ha0 : a0 = 59 ∨ a0 = 99) {σ : tzS} {Q : Int32 → tzS → Prop} (h : vc_X5_isBent a0 x1 x2 σ Q) : tz_M G yX5_isBent cX5_isBent 3 (some .boolean) 0 0 [.ref a0, .int x1, .int x2] σ (tz_Qi G Q) := by
  rcases ha0 with rfl | rfl
  · unfold vc_X5_isBent at h
    refine tz_startz hG RX5 [(0, .ref 59), (1, .int x1), (2, .int x2)] (by decide) rfl (Nat.le_of_ble_eq_true rfl) rfl (fun E C hret => ?_)
    refine tz_aload_n 0 0 C dX5_isBent_0 rfl rfl ?_
    refine tz_getR C dX5_isBent_1 fl_RX5_11 (by decide) rfl rfl ?_
    refine tz_iload_n 1 1 C dX5_isBent_4 rfl rfl ?_
    refine tz_iconst 1 (by decide) C dX5_isBent_5 ?_
    refine tz_isub C dX5_isBent_6 ?_
    obtain ⟨hin_1, h⟩ := h
    refine tz_aald C dX5_isBent_7 (by decide) rfl hin_1 ?_
    refine tz_iload_n 2 2 C dX5_isBent_8 rfl rfl ?_
    obtain ⟨hin_2, h⟩ := h
    refine tz_iald C dX5_isBent_9 (tz_rowlt hin_1 (by decide)) (tz_rows hin_1 (by decide)) hin_2 ?_
    refine tz_aload_n 0 0 C dX5_isBent_10 rfl rfl ?_
    refine tz_getR C dX5_isBent_11 fl_RX5_11 (by decide) rfl rfl ?_
    refine tz_iload_n 1 1 C dX5_isBent_14 rfl rfl ?_
    refine tz_iconst 1 (by decide) C dX5_isBent_15 ?_
    refine tz_iadd C dX5_isBent_16 ?_
    obtain ⟨hin_3, h⟩ := h
    refine tz_aald C dX5_isBent_17 (by decide) rfl hin_3 ?_
    refine tz_iload_n 2 2 C dX5_isBent_18 rfl rfl ?_
    refine tz_iald C dX5_isBent_19 (tz_rowlt hin_3 (by decide)) (tz_rows hin_3 (by decide)) hin_2 ?_
    refine tz_iadd C dX5_isBent_20 ?_
    refine tz_iconst 2 (by decide) C dX5_isBent_21 ?_
    refine tz_aload_n 0 0 C dX5_isBent_22 rfl rfl ?_
    refine tz_getR C dX5_isBent_23 fl_RX5_11 (by decide) rfl rfl ?_
    refine tz_iload_n 1 1 C dX5_isBent_26 rfl rfl ?_
    obtain ⟨hin_4, h⟩ := h
    refine tz_aald C dX5_isBent_27 (by decide) rfl hin_4 ?_
    refine tz_iload_n 2 2 C dX5_isBent_28 rfl rfl ?_
    refine tz_iald C dX5_isBent_29 (tz_rowlt hin_4 (by decide)) (tz_rows hin_4 (by decide)) hin_2 ?_
    refine tz_imul C dX5_isBent_30 ?_
    refine tz_icmp_lt 38 C dX5_isBent_31 (by decide) h (fun c_5 h => ?_) (fun c_5 h => ?_)
    · refine tz_iconst 0 (by decide) C dX5_isBent_38 ?_
      exact hret _ _ _ _ dX5_isBent_39 rfl h
    · refine tz_iconst 1 (by decide) C dX5_isBent_34 ?_
      refine tz_goto 39 C dX5_isBent_35 (by decide) ?_
      exact hret _ _ _ _ dX5_isBent_39 rfl h
  · unfold vc_X5_isBent at h
    refine tz_startz hG RX5 [(0, .ref 99), (1, .int x1), (2, .int x2)] (by decide) rfl (Nat.le_of_ble_eq_true rfl) rfl (fun E C hret => ?_)
    refine tz_aload_n 0 0 C dX5_isBent_0 rfl rfl ?_
    refine tz_getR C dX5_isBent_1 fl_RX5_11 (by decide) rfl rfl ?_
    refine tz_iload_n 1 1 C dX5_isBent_4 rfl rfl ?_
    refine tz_iconst 1 (by decide) C dX5_isBent_5 ?_
    refine tz_isub C dX5_isBent_6 ?_
    obtain ⟨hin_1, h⟩ := h
    refine tz_aald C dX5_isBent_7 (by decide) rfl hin_1 ?_
    refine tz_iload_n 2 2 C dX5_isBent_8 rfl rfl ?_
    obtain ⟨hin_2, h⟩ := h
    refine tz_iald C dX5_isBent_9 (tz_rowlt hin_1 (by decide)) (tz_rows hin_1 (by decide)) hin_2 ?_
    refine tz_aload_n 0 0 C dX5_isBent_10 rfl rfl ?_
    refine tz_getR C dX5_isBent_11 fl_RX5_11 (by decide) rfl rfl ?_
    refine tz_iload_n 1 1 C dX5_isBent_14 rfl rfl ?_
    refine tz_iconst 1 (by decide) C dX5_isBent_15 ?_
    refine tz_iadd C dX5_isBent_16 ?_
    obtain ⟨hin_3, h⟩ := h
    refine tz_aald C dX5_isBent_17 (by decide) rfl hin_3 ?_
    refine tz_iload_n 2 2 C dX5_isBent_18 rfl rfl ?_
    refine tz_iald C dX5_isBent_19 (tz_rowlt hin_3 (by decide)) (tz_rows hin_3 (by decide)) hin_2 ?_
    refine tz_iadd C dX5_isBent_20 ?_
    refine tz_iconst 2 (by decide) C dX5_isBent_21 ?_
    refine tz_aload_n 0 0 C dX5_isBent_22 rfl rfl ?_
    refine tz_getR C dX5_isBent_23 fl_RX5_11 (by decide) rfl rfl ?_
    refine tz_iload_n 1 1 C dX5_isBent_26 rfl rfl ?_
    obtain ⟨hin_4, h⟩ := h
    refine tz_aald C dX5_isBent_27 (by decide) rfl hin_4 ?_
    refine tz_iload_n 2 2 C dX5_isBent_28 rfl rfl ?_
    refine tz_iald C dX5_isBent_29 (tz_rowlt hin_4 (by decide)) (tz_rows hin_4 (by decide)) hin_2 ?_
    refine tz_imul C dX5_isBent_30 ?_
    refine tz_icmp_lt 38 C dX5_isBent_31 (by decide) h (fun c_5 h => ?_) (fun c_5 h => ?_)
    · refine tz_iconst 0 (by decide) C dX5_isBent_38 ?_
      exact hret _ _ _ _ dX5_isBent_39 rfl h
    · refine tz_iconst 1 (by decide) C dX5_isBent_34 ?_
      refine tz_goto 39 C dX5_isBent_35 (by decide) ?_
      exact hret _ _ _ _ dX5_isBent_39 rfl h

def vc_X6_endingOf (x0 : Int64) (x2 : Int32) (σ : tzS) (Q : Int32 → tzS → Prop) : Prop :=
  tz_join0 (fun (σ_2 : tzS) =>
    tz_join0 (fun (σ_4 : tzS) =>
      (x2 < 4 →
        Q 0 σ_4) ∧
      (¬ x2 < 4 →
        (¬ (lg_cmp (x0 &&& 31) 19) = 0 →
          Q 0 σ_4) ∧
        ((lg_cmp (x0 &&& 31) 19) = 0 →
          ((lg_cmp (x0 &&& 1023) 627) = 0 →
            Q 0 σ_4) ∧
          (¬ (lg_cmp (x0 &&& 1023) 627) = 0 →
            Q 1 σ_4)))) (fun (K_3 : tzS → Prop) =>
      (x2 < 5 →
        K_3  σ_2) ∧
      (¬ x2 < 5 →
        (¬ (lg_cmp (x0 &&& 1023) 164) = 0 →
          K_3  σ_2) ∧
        ((lg_cmp (x0 &&& 1023) 164) = 0 →
          Q 2 σ_2)))) (fun (K_1 : tzS → Prop) =>
    (x2 < 6 →
      K_1  σ) ∧
    (¬ x2 < 6 →
      (¬ (lg_cmp (x0 &&& 32767) 9671) = 0 →
        K_1  σ) ∧
      ((lg_cmp (x0 &&& 32767) 9671) = 0 →
        Q 3 σ)))
set_option maxRecDepth 20000 in
set_option maxHeartbeats 4000000 in
theorem m_X6_endingOf (G : tzG) (hG : tz_ok G) {x0 : Int64} {x2 : Int32}  {σ : tzS} {Q : Int32 → tzS → Prop} (h : vc_X6_endingOf x0 x2 σ Q) : tz_M G yX6_endingOf cX6_endingOf 3 (some .int) 0 0 [.long x0, .int x2] σ (tz_Qi G Q) := by
  unfold vc_X6_endingOf at h
  refine tz_starti hG RX6 [(0, .long x0), (2, .int x2)] (by decide) rfl (Nat.le_of_ble_eq_true rfl) rfl (fun E C hret => ?_)
  refine tz_iload_n 2 1 C dX6_endingOf_0 rfl rfl ?_
  refine tz_bipush 6 (by decide) C dX6_endingOf_1 ?_
  obtain ⟨K_1, hrK_1, h⟩ := h
  have hK_1 : ∀ (σ_2 : tzS), K_1  σ_2 → tz_V G E 20 [(0, .long x0), (2, .int x2)] [] σ_2 := by
    intro σ_2 h
    replace h := hrK_1 σ_2 h
    refine tz_iload_n 2 1 C dX6_endingOf_20 rfl rfl ?_
    refine tz_iconst 5 (by decide) C dX6_endingOf_21 ?_
    obtain ⟨K_3, hrK_3, h⟩ := h
    have hK_3 : ∀ (σ_4 : tzS), K_3  σ_4 → tz_V G E 39 [(0, .long x0), (2, .int x2)] [] σ_4 := by
      intro σ_4 h
      replace h := hrK_3 σ_4 h
      refine tz_iload_n 2 1 C dX6_endingOf_39 rfl rfl ?_
      refine tz_iconst 4 (by decide) C dX6_endingOf_40 ?_
      refine tz_icmp_lt 70 C dX6_endingOf_41 (by decide) h (fun c_5 h => ?_) (fun c_5 h => ?_)
      · refine tz_iconst 0 (by decide) C dX6_endingOf_70 ?_
        exact hret _ _ _ _ dX6_endingOf_71 h
      · refine tz_lload_n 0 0 C dX6_endingOf_44 rfl rfl ?_
        refine tz_ldc2 31 C dX6_endingOf_45 cw_RX6_83 ?_
        refine tz_land C dX6_endingOf_48 ?_
        refine tz_ldc2 19 C dX6_endingOf_49 cw_RX6_85 ?_
        refine tz_lcmp C dX6_endingOf_52 ?_
        refine tz_if_ne 70 C dX6_endingOf_53 (by decide) h (fun c_6 h => ?_) (fun c_6 h => ?_)
        · refine tz_iconst 0 (by decide) C dX6_endingOf_70 ?_
          exact hret _ _ _ _ dX6_endingOf_71 h
        · refine tz_lload_n 0 0 C dX6_endingOf_56 rfl rfl ?_
          refine tz_ldc2 1023 C dX6_endingOf_57 cw_RX6_79 ?_
          refine tz_land C dX6_endingOf_60 ?_
          refine tz_ldc2 627 C dX6_endingOf_61 cw_RX6_87 ?_
          refine tz_lcmp C dX6_endingOf_64 ?_
          refine tz_if_eq 70 C dX6_endingOf_65 (by decide) h (fun c_7 h => ?_) (fun c_7 h => ?_)
          · refine tz_iconst 0 (by decide) C dX6_endingOf_70 ?_
            exact hret _ _ _ _ dX6_endingOf_71 h
          · refine tz_iconst 1 (by decide) C dX6_endingOf_68 ?_
            exact hret _ _ _ _ dX6_endingOf_69 h
    refine tz_icmp_lt 39 C dX6_endingOf_22 (by decide) h (fun c_8 h => ?_) (fun c_8 h => ?_)
    · exact tz_sub (hK_3 _ h) [0, 1] rfl
    · refine tz_lload_n 0 0 C dX6_endingOf_25 rfl rfl ?_
      refine tz_ldc2 1023 C dX6_endingOf_26 cw_RX6_79 ?_
      refine tz_land C dX6_endingOf_29 ?_
      refine tz_ldc2 164 C dX6_endingOf_30 cw_RX6_81 ?_
      refine tz_lcmp C dX6_endingOf_33 ?_
      refine tz_if_ne 39 C dX6_endingOf_34 (by decide) h (fun c_9 h => ?_) (fun c_9 h => ?_)
      · exact tz_sub (hK_3 _ h) [0, 1] rfl
      · refine tz_iconst 2 (by decide) C dX6_endingOf_37 ?_
        exact hret _ _ _ _ dX6_endingOf_38 h
  refine tz_icmp_lt 20 C dX6_endingOf_3 (by decide) h (fun c_10 h => ?_) (fun c_10 h => ?_)
  · exact tz_sub (hK_1 _ h) [0, 1] rfl
  · refine tz_lload_n 0 0 C dX6_endingOf_6 rfl rfl ?_
    refine tz_ldc2 32767 C dX6_endingOf_7 cw_RX6_75 ?_
    refine tz_land C dX6_endingOf_10 ?_
    refine tz_ldc2 9671 C dX6_endingOf_11 cw_RX6_77 ?_
    refine tz_lcmp C dX6_endingOf_14 ?_
    refine tz_if_ne 20 C dX6_endingOf_15 (by decide) h (fun c_11 h => ?_) (fun c_11 h => ?_)
    · exact tz_sub (hK_1 _ h) [0, 1] rfl
    · refine tz_iconst 3 (by decide) C dX6_endingOf_18 ?_
      exact hret _ _ _ _ dX6_endingOf_19 h

def vc_X6_numberOf (x1 : Int64) (x3 : Int32) (σ : tzS) (Q : Int32 → tzS → Prop) : Prop :=
  tz_loop1 (fun (x4_3 : Int32) (σ_2 : tzS) (ag_1 : Int32 → tzS → Prop) =>
    ((σ_2.1 4 2) ≤ x4_3 →
      ∀ x4_5 : Int32, x4_5 = (σ_2.1 4 2) →
      vp_in x4_5 108 ∧ (
        ∀ σ_6 : tzS, σ_6 = tz_sl σ_2 37 x4_5.toNatClampNeg x1 →
        ∀ σ_8 : tzS, σ_8 = tz_st σ_6 33 x4_5.toNatClampNeg x3 →
        ∀ σ_9 : tzS, σ_9 = tz_st σ_8 34 x4_5.toNatClampNeg 0 →
        ∀ σ_10 : tzS, σ_10 = tz_st σ_9 35 x4_5.toNatClampNeg (σ_9.1 4 0) →
        tz_loop1 (fun (x5_13 : Int32) (σ_12 : tzS) (ag_11 : Int32 → tzS → Prop) =>
          ((12 : Int32) ≤ x5_13 →
            ∀ σ_15 : tzS, σ_15 = tz_st σ_12 4 2 ((σ_12.1 4 2) + 1) →
            Q x4_5 σ_15) ∧
          (¬ (12 : Int32) ≤ x5_13 →
            vp_in x5_13 12 ∧ (
              ∀ σ_17 : tzS, σ_17 = tz_st σ_12 (21 + x5_13.toNatClampNeg) x4_5.toNatClampNeg 0 →
              ∀ x5_18 : Int32, x5_18 = x5_13 + 1 →
              ag_11 x5_18 σ_17))) (0 : Int32) σ_10)) ∧
    (¬ (σ_2.1 4 2) ≤ x4_3 →
      vp_in x4_3 108 ∧ (
        (¬ (lg_cmp (σ_2.2 37 x4_3.toNatClampNeg) x1) = 0 →
          ∀ x4_21 : Int32, x4_21 = x4_3 + 1 →
          ag_1 x4_21 σ_2) ∧
        ((lg_cmp (σ_2.2 37 x4_3.toNatClampNeg) x1) = 0 →
          Q x4_3 σ_2)))) (0 : Int32) σ
set_option maxRecDepth 20000 in
set_option maxHeartbeats 4000000 in
theorem m_X6_numberOf (G : tzG) (hG : tz_ok G) {x1 : Int64} {x3 : Int32}  {σ : tzS} {Q : Int32 → tzS → Prop} (h : vc_X6_numberOf x1 x3 σ Q) : tz_M G yX6_numberOf cX6_numberOf 6 (some .int) 0 0 [.ref 4, .long x1, .int x3] σ (tz_Qi G Q) := by
  unfold vc_X6_numberOf at h
  refine tz_starti hG RX6 [(0, .ref 4), (1, .long x1), (3, .int x3)] (by decide) rfl (Nat.le_of_ble_eq_true rfl) rfl (fun E C hret => ?_)
  refine tz_iconst 0 (by decide) C dX6_numberOf_0 ?_
  refine tz_istore_k [(0, .ref 4), (1, .long x1), (3, .int x3)] C dX6_numberOf_1 (Nat.le_of_ble_eq_true rfl) rfl ?_
  refine tz_sub (L := [(0, .ref 4), (1, .long x1), (3, .int x3), (4, .int 0)]) ?_ [1, 2, 3, 0] rfl
  refine tz_loop1_w (V := fun (x4_3 : Int32) (σ_2 : tzS) => tz_V G E 3 [(0, .ref 4), (1, .long x1), (3, .int x3), (4, .int x4_3)] [] σ_2) h (fun ag_1 ihag_1 x4_3 σ_2 h => ?_)
  refine tz_iload 3 C dX6_numberOf_3 rfl ?_
  refine tz_aload_n 0 0 C dX6_numberOf_5 rfl rfl ?_
  refine tz_getI C dX6_numberOf_6 fl_RX6_18 (by decide) rfl rfl ?_
  refine tz_icmp_ge 33 C dX6_numberOf_9 (by decide) h (fun c_4 h => ?_) (fun c_4 h => ?_)
  · refine tz_aload_n 0 0 C dX6_numberOf_33 rfl rfl ?_
    refine tz_getI C dX6_numberOf_34 fl_RX6_18 (by decide) rfl rfl ?_
    refine tz_istore [(0, .ref 4), (1, .long x1), (3, .int x3)] C dX6_numberOf_37 (Nat.le_of_ble_eq_true rfl) rfl h (fun x4_5 h => ?_)
    refine tz_aload_n 0 1 C dX6_numberOf_39 rfl rfl ?_
    refine tz_getR C dX6_numberOf_40 fl_RX6_48 (by decide) rfl rfl ?_
    refine tz_iload 0 C dX6_numberOf_43 rfl ?_
    refine tz_lload_n 1 2 C dX6_numberOf_45 rfl rfl ?_
    have hin_7 := h.1
    refine tz_last C dX6_numberOf_46 (by decide) rfl h (fun σ_6 h => ?_)
    refine tz_aload_n 0 1 C dX6_numberOf_47 rfl rfl ?_
    refine tz_getR C dX6_numberOf_48 fl_RX6_36 (by decide) rfl rfl ?_
    refine tz_iload 0 C dX6_numberOf_51 rfl ?_
    refine tz_iload_n 3 3 C dX6_numberOf_53 rfl rfl ?_
    refine tz_iast_c _ C dX6_numberOf_54 (by decide) rfl hin_7 rfl h (fun σ_8 h => ?_)
    refine tz_aload_n 0 1 C dX6_numberOf_55 rfl rfl ?_
    refine tz_getR C dX6_numberOf_56 fl_RX6_39 (by decide) rfl rfl ?_
    refine tz_iload 0 C dX6_numberOf_59 rfl ?_
    refine tz_iconst 0 (by decide) C dX6_numberOf_61 ?_
    refine tz_iast_c _ C dX6_numberOf_62 (by decide) rfl hin_7 rfl h (fun σ_9 h => ?_)
    refine tz_aload_n 0 1 C dX6_numberOf_63 rfl rfl ?_
    refine tz_getR C dX6_numberOf_64 fl_RX6_42 (by decide) rfl rfl ?_
    refine tz_iload 0 C dX6_numberOf_67 rfl ?_
    refine tz_aload_n 0 1 C dX6_numberOf_69 rfl rfl ?_
    refine tz_getI C dX6_numberOf_70 fl_RX6_9 (by decide) rfl rfl ?_
    refine tz_iast_c _ C dX6_numberOf_73 (by decide) rfl hin_7 rfl h (fun σ_10 h => ?_)
    refine tz_iconst 0 (by decide) C dX6_numberOf_74 ?_
    refine tz_istore_k [(4, .int x4_5), (0, .ref 4), (1, .long x1), (3, .int x3)] C dX6_numberOf_75 (Nat.le_of_ble_eq_true rfl) rfl ?_
    refine tz_sub (L := [(0, .ref 4), (4, .int x4_5), (5, .int 0)]) ?_ [2, 1, 0] rfl
    refine tz_loop1_w (V := fun (x5_13 : Int32) (σ_12 : tzS) => tz_V G E 77 [(0, .ref 4), (4, .int x4_5), (5, .int x5_13)] [] σ_12) h (fun ag_11 ihag_11 x5_13 σ_12 h => ?_)
    refine tz_iload 2 C dX6_numberOf_77 rfl ?_
    refine tz_bipush 12 (by decide) C dX6_numberOf_79 ?_
    refine tz_icmp_ge 101 C dX6_numberOf_81 (by decide) h (fun c_14 h => ?_) (fun c_14 h => ?_)
    · refine tz_aload_n 0 0 C dX6_numberOf_101 rfl rfl ?_
      refine tz_dup C dX6_numberOf_102 rfl ?_
      refine tz_getI C dX6_numberOf_103 fl_RX6_18 (by decide) rfl rfl ?_
      refine tz_iconst 1 (by decide) C dX6_numberOf_106 ?_
      refine tz_iadd C dX6_numberOf_107 ?_
      refine tz_put C dX6_numberOf_108 fp_RX6_18 (by decide) rfl rfl rfl rfl h (fun σ_15 h => ?_)
      refine tz_iload 1 C dX6_numberOf_111 rfl ?_
      exact hret _ _ _ _ dX6_numberOf_113 h
    · refine tz_aload_n 0 0 C dX6_numberOf_84 rfl rfl ?_
      refine tz_getR C dX6_numberOf_85 fl_RX6_33 (by decide) rfl rfl ?_
      refine tz_iload 2 C dX6_numberOf_88 rfl ?_
      obtain ⟨hin_16, h⟩ := h
      refine tz_aald C dX6_numberOf_90 (by decide) rfl hin_16 ?_
      refine tz_iload 1 C dX6_numberOf_91 rfl ?_
      refine tz_iconst 0 (by decide) C dX6_numberOf_93 ?_
      refine tz_iast_c _ C dX6_numberOf_94 (tz_rowlt hin_16 (by decide)) (tz_rows hin_16 (by decide)) hin_7 rfl h (fun σ_17 h => ?_)
      refine tz_iinc 2 [(0, .ref 4), (4, .int x4_5)] 1 C dX6_numberOf_95 (by decide) rfl (Nat.le_of_ble_eq_true rfl) rfl h (fun x5_18 h => ?_)
      refine tz_goto 77 C dX6_numberOf_98 (by decide) ?_
      exact tz_sub (ihag_11 _ _ h) [1, 2, 0] rfl
  · refine tz_aload_n 0 0 C dX6_numberOf_12 rfl rfl ?_
    refine tz_getR C dX6_numberOf_13 fl_RX6_48 (by decide) rfl rfl ?_
    refine tz_iload 3 C dX6_numberOf_16 rfl ?_
    obtain ⟨hin_19, h⟩ := h
    refine tz_lald C dX6_numberOf_18 (by decide) rfl hin_19 ?_
    refine tz_lload_n 1 1 C dX6_numberOf_19 rfl rfl ?_
    refine tz_lcmp C dX6_numberOf_20 ?_
    refine tz_if_ne 27 C dX6_numberOf_21 (by decide) h (fun c_20 h => ?_) (fun c_20 h => ?_)
    · refine tz_iinc 3 [(0, .ref 4), (1, .long x1), (3, .int x3)] 1 C dX6_numberOf_27 (by decide) rfl (Nat.le_of_ble_eq_true rfl) rfl h (fun x4_21 h => ?_)
      refine tz_goto 3 C dX6_numberOf_30 (by decide) ?_
      exact tz_sub (ihag_1 _ _ h) [1, 2, 3, 0] rfl
    · refine tz_iload 3 C dX6_numberOf_24 rfl ?_
      exact hret _ _ _ _ dX6_numberOf_26 h

def vc_X6_addWord (x1 : Int64) (x3 : Int32) (x4 : Int32) (σ : tzS) (Q : tzS → Prop) : Prop :=
  ∀ x5_1 : Int32, x5_1 = (σ.1 4 0) →
  ((12 : Int32) ≤ x5_1 →
    Q σ) ∧
  (¬ (12 : Int32) ≤ x5_1 →
    vp_in x5_1 12 ∧ (
      ((9 : Int32) ≤ (σ.1 6 x5_1.toNatClampNeg) →
        Q σ) ∧
      (¬ (9 : Int32) ≤ (σ.1 6 x5_1.toNatClampNeg) →
        ((σ.1 4 1) < 108 →
          vc_X6_endingOf x1 x3 σ (fun (r_7 : Int32) (σ_6 : tzS) =>
            vc_X6_numberOf (x1 >>> ((5 * r_7).toInt64 &&& 63)) (x3 - r_7) σ_6 (fun (r_9 : Int32) (σ_8 : tzS) =>
              tz_join0 (fun (σ_11 : tzS) =>
                vp_in (σ_11.1 6 x5_1.toNatClampNeg) 9 ∧ (
                  ∀ σ_13 : tzS, σ_13 = tz_st σ_11 (8 + x5_1.toNatClampNeg) (σ_11.1 6 x5_1.toNatClampNeg).toNatClampNeg r_9 →
                  ∀ σ_15 : tzS, σ_15 = tz_st σ_13 6 x5_1.toNatClampNeg ((σ_13.1 6 x5_1.toNatClampNeg) + 1) →
                  ∀ σ_16 : tzS, σ_16 = tz_st σ_15 4 1 ((σ_15.1 4 1) + 1) →
                  vp_in r_9 108 ∧ (
                    ∀ σ_19 : tzS, σ_19 = tz_st σ_16 (21 + x5_1.toNatClampNeg) r_9.toNatClampNeg ((σ_16.1 (21 + x5_1.toNatClampNeg) r_9.toNatClampNeg) + 1) →
                    ∀ σ_20 : tzS, σ_20 = tz_st σ_19 34 r_9.toNatClampNeg ((σ_19.1 34 r_9.toNatClampNeg) + 1) →
                    ∀ σ_21 : tzS, σ_21 = tz_st σ_20 36 r_9.toNatClampNeg x5_1 →
                    Q σ_21))) (fun (K_10 : tzS → Prop) =>
                (¬ (σ_8.1 6 x5_1.toNatClampNeg) = 0 →
                  K_10  σ_8) ∧
                ((σ_8.1 6 x5_1.toNatClampNeg) = 0 →
                  ∀ σ_23 : tzS, σ_23 = tz_st σ_8 5 x5_1.toNatClampNeg x4 →
                  K_10  σ_23))))) ∧
        (¬ (σ.1 4 1) < 108 →
          Q σ))))
set_option maxRecDepth 20000 in
set_option maxHeartbeats 4000000 in
theorem m_X6_addWord (G : tzG) (hG : tz_ok G) {x1 : Int64} {x3 : Int32} {x4 : Int32}  {σ : tzS} {Q : tzS → Prop} (h : vc_X6_addWord x1 x3 x4 σ Q) : tz_M G yX6_addWord cX6_addWord 8 (none) 1 25 [.ref 4, .long x1, .int x3, .int x4] σ (tz_Qv G Q) := by
  unfold vc_X6_addWord at h
  refine tz_startv hG RX6 [(0, .ref 4), (1, .long x1), (3, .int x3), (4, .int x4)] (by decide) rfl (Nat.le_of_ble_eq_true rfl) rfl (fun E C hret => ?_)
  refine tz_aload_n 0 0 C dX6_addWord_0 rfl rfl ?_
  refine tz_getI C dX6_addWord_1 fl_RX6_9 (by decide) rfl rfl ?_
  refine tz_istore [(0, .ref 4), (1, .long x1), (3, .int x3), (4, .int x4)] C dX6_addWord_4 (Nat.le_of_ble_eq_true rfl) rfl h (fun x5_1 h => ?_)
  refine tz_iload 0 C dX6_addWord_6 rfl ?_
  refine tz_bipush 12 (by decide) C dX6_addWord_8 ?_
  refine tz_icmp_ge 34 C dX6_addWord_10 (by decide) h (fun c_2 h => ?_) (fun c_2 h => ?_)
  · exact hret _ _ _ dX6_addWord_34 h
  · refine tz_aload_n 0 1 C dX6_addWord_13 rfl rfl ?_
    refine tz_getR C dX6_addWord_14 fl_RX6_25 (by decide) rfl rfl ?_
    refine tz_iload 0 C dX6_addWord_17 rfl ?_
    obtain ⟨hin_3, h⟩ := h
    refine tz_iald C dX6_addWord_19 (by decide) rfl hin_3 ?_
    refine tz_bipush 9 (by decide) C dX6_addWord_20 ?_
    refine tz_icmp_ge 34 C dX6_addWord_22 (by decide) h (fun c_4 h => ?_) (fun c_4 h => ?_)
    · exact hret _ _ _ dX6_addWord_34 h
    · refine tz_aload_n 0 1 C dX6_addWord_25 rfl rfl ?_
      refine tz_getI C dX6_addWord_26 fl_RX6_15 (by decide) rfl rfl ?_
      refine tz_bipush 108 (by decide) C dX6_addWord_29 ?_
      refine tz_icmp_lt 35 C dX6_addWord_31 (by decide) h (fun c_5 h => ?_) (fun c_5 h => ?_)
      · refine tz_lload_n 1 2 C dX6_addWord_35 rfl rfl ?_
        refine tz_iload_n 3 3 C dX6_addWord_36 rfl rfl ?_
        refine tz_callis C dX6_addWord_37 lk_RX6_68 (m_X6_endingOf G hG  h) rfl ⟨Nat.le_of_ble_eq_true rfl, Nat.le_of_ble_eq_true rfl⟩ (Nat.le_of_ble_eq_true rfl) rfl (fun r_7 σ_6 h => ?_)
        refine tz_istore_k [(5, .int x5_1), (0, .ref 4), (1, .long x1), (3, .int x3), (4, .int x4)] C dX6_addWord_40 (Nat.le_of_ble_eq_true rfl) rfl ?_
        refine tz_aload_n 0 2 C dX6_addWord_42 rfl rfl ?_
        refine tz_lload_n 1 3 C dX6_addWord_43 rfl rfl ?_
        refine tz_iconst 5 (by decide) C dX6_addWord_44 ?_
        refine tz_iload 0 C dX6_addWord_45 rfl ?_
        refine tz_imul C dX6_addWord_47 ?_
        refine tz_lshr C dX6_addWord_48 ?_
        refine tz_iload_n 3 4 C dX6_addWord_49 rfl rfl ?_
        refine tz_iload 0 C dX6_addWord_50 rfl ?_
        refine tz_isub C dX6_addWord_52 ?_
        refine tz_calliv C dX6_addWord_53 lk_RX6_72 (m_X6_numberOf G hG  h) (by decide) rfl rfl rfl rfl ⟨Nat.le_of_ble_eq_true rfl, Nat.le_of_ble_eq_true rfl⟩ (Nat.le_of_ble_eq_true rfl) rfl (fun r_9 σ_8 h => ?_)
        refine tz_istore_k [(6, .int r_7), (5, .int x5_1), (0, .ref 4), (1, .long x1), (3, .int x3), (4, .int x4)] C dX6_addWord_56 (Nat.le_of_ble_eq_true rfl) rfl ?_
        refine tz_aload_n 0 3 C dX6_addWord_58 rfl rfl ?_
        refine tz_getR C dX6_addWord_59 fl_RX6_25 (by decide) rfl rfl ?_
        refine tz_iload 2 C dX6_addWord_62 rfl ?_
        refine tz_iald C dX6_addWord_64 (by decide) rfl hin_3 ?_
        obtain ⟨K_10, hrK_10, h⟩ := h
        have hK_10 : ∀ (σ_11 : tzS), K_10  σ_11 → tz_V G E 77 [(0, .ref 4), (5, .int x5_1), (7, .int r_9)] [] σ_11 := by
          intro σ_11 h
          replace h := hrK_10 σ_11 h
          refine tz_aload_n 0 0 C dX6_addWord_77 rfl rfl ?_
          refine tz_getR C dX6_addWord_78 fl_RX6_30 (by decide) rfl rfl ?_
          refine tz_iload 1 C dX6_addWord_81 rfl ?_
          refine tz_aald C dX6_addWord_83 (by decide) rfl hin_3 ?_
          refine tz_aload_n 0 0 C dX6_addWord_84 rfl rfl ?_
          refine tz_getR C dX6_addWord_85 fl_RX6_25 (by decide) rfl rfl ?_
          refine tz_iload 1 C dX6_addWord_88 rfl ?_
          refine tz_iald C dX6_addWord_90 (by decide) rfl hin_3 ?_
          refine tz_iload 2 C dX6_addWord_91 rfl ?_
          have hin_14 := h.1
          refine tz_iast C dX6_addWord_93 (tz_rowlt hin_3 (by decide)) (tz_rows hin_3 (by decide)) h (fun σ_13 h => ?_)
          refine tz_aload_n 0 0 C dX6_addWord_94 rfl rfl ?_
          refine tz_getR C dX6_addWord_95 fl_RX6_25 (by decide) rfl rfl ?_
          refine tz_iload 1 C dX6_addWord_98 rfl ?_
          refine tz_dup2 C dX6_addWord_100 rfl rfl ?_
          refine tz_iald C dX6_addWord_101 (by decide) rfl hin_3 ?_
          refine tz_iconst 1 (by decide) C dX6_addWord_102 ?_
          refine tz_iadd C dX6_addWord_103 ?_
          refine tz_iast_c _ C dX6_addWord_104 (by decide) rfl hin_3 rfl h (fun σ_15 h => ?_)
          refine tz_aload_n 0 0 C dX6_addWord_105 rfl rfl ?_
          refine tz_dup C dX6_addWord_106 rfl ?_
          refine tz_getI C dX6_addWord_107 fl_RX6_15 (by decide) rfl rfl ?_
          refine tz_iconst 1 (by decide) C dX6_addWord_110 ?_
          refine tz_iadd C dX6_addWord_111 ?_
          refine tz_put C dX6_addWord_112 fp_RX6_15 (by decide) rfl rfl rfl rfl h (fun σ_16 h => ?_)
          refine tz_aload_n 0 0 C dX6_addWord_115 rfl rfl ?_
          refine tz_getR C dX6_addWord_116 fl_RX6_33 (by decide) rfl rfl ?_
          refine tz_iload 1 C dX6_addWord_119 rfl ?_
          refine tz_aald C dX6_addWord_121 (by decide) rfl hin_3 ?_
          refine tz_iload 2 C dX6_addWord_122 rfl ?_
          refine tz_dup2 C dX6_addWord_124 rfl rfl ?_
          obtain ⟨hin_18, h⟩ := h
          refine tz_iald C dX6_addWord_125 (tz_rowlt hin_3 (by decide)) (tz_rows hin_3 (by decide)) hin_18 ?_
          refine tz_iconst 1 (by decide) C dX6_addWord_126 ?_
          refine tz_iadd C dX6_addWord_127 ?_
          refine tz_iast_c _ C dX6_addWord_128 (tz_rowlt hin_3 (by decide)) (tz_rows hin_3 (by decide)) hin_18 rfl h (fun σ_19 h => ?_)
          refine tz_aload_n 0 0 C dX6_addWord_129 rfl rfl ?_
          refine tz_getR C dX6_addWord_130 fl_RX6_39 (by decide) rfl rfl ?_
          refine tz_iload 2 C dX6_addWord_133 rfl ?_
          refine tz_dup2 C dX6_addWord_135 rfl rfl ?_
          refine tz_iald C dX6_addWord_136 (by decide) rfl hin_18 ?_
          refine tz_iconst 1 (by decide) C dX6_addWord_137 ?_
          refine tz_iadd C dX6_addWord_138 ?_
          refine tz_iast_c _ C dX6_addWord_139 (by decide) rfl hin_18 rfl h (fun σ_20 h => ?_)
          refine tz_aload_n 0 0 C dX6_addWord_140 rfl rfl ?_
          refine tz_getR C dX6_addWord_141 fl_RX6_45 (by decide) rfl rfl ?_
          refine tz_iload 2 C dX6_addWord_144 rfl ?_
          refine tz_iload 1 C dX6_addWord_146 rfl ?_
          refine tz_iast_c _ C dX6_addWord_148 (by decide) rfl hin_18 rfl h (fun σ_21 h => ?_)
          exact hret _ _ _ dX6_addWord_149 h
        refine tz_if_ne 77 C dX6_addWord_65 (by decide) h (fun c_22 h => ?_) (fun c_22 h => ?_)
        · exact tz_sub (hK_10 _ h) [3, 2, 0] rfl
        · refine tz_aload_n 0 3 C dX6_addWord_68 rfl rfl ?_
          refine tz_getR C dX6_addWord_69 fl_RX6_21 (by decide) rfl rfl ?_
          refine tz_iload 2 C dX6_addWord_72 rfl ?_
          refine tz_iload 6 C dX6_addWord_74 rfl ?_
          refine tz_iast_c _ C dX6_addWord_76 (by decide) rfl hin_3 rfl h (fun σ_23 h => ?_)
          exact tz_sub (hK_10 _ h) [3, 2, 0] rfl
      · exact hret _ _ _ dX6_addWord_34 h

def vc_X6_fill (x2 : Int32) (σ : tzS) (Q : tzS → Prop) : Prop :=
  ∀ σ_1 : tzS, σ_1 = tz_st σ 4 0 0 →
  ∀ σ_2 : tzS, σ_2 = tz_st σ_1 4 1 0 →
  ∀ σ_3 : tzS, σ_3 = tz_st σ_2 4 2 0 →
  (¬ x2 = 0 →
    tz_loop1 (fun (x3_7 : Int32) (σ_6 : tzS) (ag_5 : Int32 → tzS → Prop) =>
      ((12 : Int32) ≤ x3_7 →
        tz_loop3 (fun (x3_11 : Int64) (x5_12 : Int32) (x6_13 : Int32) (σ_10 : tzS) (ag_9 : Int64 → Int32 → Int32 → tzS → Prop) =>
          ((σ_10.1 1 1) ≤ x6_13 →
            Q σ_10) ∧
          (¬ (σ_10.1 1 1) ≤ x6_13 →
            vp_in x6_13 200 ∧ (
              ∀ x7_16 : Int32, x7_16 = (σ_10.1 2 x6_13.toNatClampNeg) →
              vc_X9_isLetter x7_16 σ_10 (fun (r_18 : Int32) (σ_17 : tzS) =>
                (r_18 = 0 →
                  (x5_12 ≤ 0 →
                    (¬ x7_16 = 46 →
                      ∀ x6_22 : Int32, x6_22 = x6_13 + 1 →
                      ag_9 0 0 x6_22 σ_17) ∧
                    (x7_16 = 46 →
                      ∀ σ_23 : tzS, σ_23 = tz_st σ_17 4 0 ((σ_17.1 4 0) + 1) →
                      ∀ x6_24 : Int32, x6_24 = x6_13 + 1 →
                      ag_9 0 0 x6_24 σ_23)) ∧
                  (¬ x5_12 ≤ 0 →
                    vc_X6_addWord x3_11 x5_12 (x6_13 - x5_12) σ_17 (fun (σ_25 : tzS) =>
                      (¬ x7_16 = 46 →
                        ∀ x6_27 : Int32, x6_27 = x6_13 + 1 →
                        ag_9 0 0 x6_27 σ_25) ∧
                      (x7_16 = 46 →
                        ∀ σ_28 : tzS, σ_28 = tz_st σ_25 4 0 ((σ_25.1 4 0) + 1) →
                        ∀ x6_29 : Int32, x6_29 = x6_13 + 1 →
                        ag_9 0 0 x6_29 σ_28)))) ∧
                (¬ r_18 = 0 →
                  ∀ x3_30 : Int64, x3_30 = ((x3_11 <<< ((5 : Int32).toInt64 &&& 63)) ||| (x7_16 - 96).toInt64) →
                  ∀ x5_31 : Int32, x5_31 = x5_12 + 1 →
                  ∀ x6_32 : Int32, x6_32 = x6_13 + 1 →
                  ag_9 x3_30 x5_31 x6_32 σ_17))))) 0 (0 : Int32) (0 : Int32) σ_6) ∧
      (¬ (12 : Int32) ≤ x3_7 →
        vp_in x3_7 12 ∧ (
          ∀ σ_33 : tzS, σ_33 = tz_st σ_6 6 x3_7.toNatClampNeg 0 →
          ∀ x3_35 : Int32, x3_35 = x3_7 + 1 →
          ag_5 x3_35 σ_33))) (0 : Int32) σ_3) ∧
  (x2 = 0 →
    Q σ_3)
set_option maxRecDepth 20000 in
set_option maxHeartbeats 4000000 in
theorem m_X6_fill (G : tzG) (hG : tz_ok G) {x2 : Int32}  {σ : tzS} {Q : tzS → Prop} (h : vc_X6_fill x2 σ Q) : tz_M G yX6_fill cX6_fill 8 (none) 2 52 [.ref 4, .ref 1, .int x2] σ (tz_Qv G Q) := by
  unfold vc_X6_fill at h
  refine tz_startv hG RX6 [(0, .ref 4), (1, .ref 1), (2, .int x2)] (by decide) rfl (Nat.le_of_ble_eq_true rfl) rfl (fun E C hret => ?_)
  refine tz_aload_n 0 0 C dX6_fill_0 rfl rfl ?_
  refine tz_iconst 0 (by decide) C dX6_fill_1 ?_
  refine tz_put C dX6_fill_2 fp_RX6_9 (by decide) rfl rfl rfl rfl h (fun σ_1 h => ?_)
  refine tz_aload_n 0 0 C dX6_fill_5 rfl rfl ?_
  refine tz_iconst 0 (by decide) C dX6_fill_6 ?_
  refine tz_put C dX6_fill_7 fp_RX6_15 (by decide) rfl rfl rfl rfl h (fun σ_2 h => ?_)
  refine tz_aload_n 0 0 C dX6_fill_10 rfl rfl ?_
  refine tz_iconst 0 (by decide) C dX6_fill_11 ?_
  refine tz_put C dX6_fill_12 fp_RX6_18 (by decide) rfl rfl rfl rfl h (fun σ_3 h => ?_)
  refine tz_iload_n 2 2 C dX6_fill_15 rfl rfl ?_
  refine tz_if_ne 20 C dX6_fill_16 (by decide) h (fun c_4 h => ?_) (fun c_4 h => ?_)
  · refine tz_iconst 0 (by decide) C dX6_fill_20 ?_
    refine tz_istore_n_k 3 [(0, .ref 4), (1, .ref 1), (2, .int x2)] C dX6_fill_21 rfl (Nat.le_of_ble_eq_true rfl) rfl ?_
    refine tz_sub (L := [(0, .ref 4), (1, .ref 1), (3, .int 0)]) ?_ [1, 2, 0] rfl
    refine tz_loop1_w (V := fun (x3_7 : Int32) (σ_6 : tzS) => tz_V G E 22 [(0, .ref 4), (1, .ref 1), (3, .int x3_7)] [] σ_6) h (fun ag_5 ihag_5 x3_7 σ_6 h => ?_)
    refine tz_iload_n 3 2 C dX6_fill_22 rfl rfl ?_
    refine tz_bipush 12 (by decide) C dX6_fill_23 ?_
    refine tz_icmp_ge 41 C dX6_fill_25 (by decide) h (fun c_8 h => ?_) (fun c_8 h => ?_)
    · refine tz_lconst 0 (by decide) C dX6_fill_41 ?_
      refine tz_lstore_n_k 3 [(0, .ref 4), (1, .ref 1)] C dX6_fill_42 rfl (Nat.le_of_ble_eq_true rfl) rfl ?_
      refine tz_iconst 0 (by decide) C dX6_fill_43 ?_
      refine tz_istore_k [(3, .long 0), (0, .ref 4), (1, .ref 1)] C dX6_fill_44 (Nat.le_of_ble_eq_true rfl) rfl ?_
      refine tz_iconst 0 (by decide) C dX6_fill_46 ?_
      refine tz_istore_k [(5, .int 0), (3, .long 0), (0, .ref 4), (1, .ref 1)] C dX6_fill_47 (Nat.le_of_ble_eq_true rfl) rfl ?_
      refine tz_sub (L := [(0, .ref 4), (1, .ref 1), (3, .long 0), (5, .int 0), (6, .int 0)]) ?_ [3, 4, 2, 1, 0] rfl
      refine tz_loop3_w (V := fun (x3_11 : Int64) (x5_12 : Int32) (x6_13 : Int32) (σ_10 : tzS) => tz_V G E 49 [(0, .ref 4), (1, .ref 1), (3, .long x3_11), (5, .int x5_12), (6, .int x6_13)] [] σ_10) h (fun ag_9 ihag_9 x3_11 x5_12 x6_13 σ_10 h => ?_)
      refine tz_iload 4 C dX6_fill_49 rfl ?_
      refine tz_aload_n 1 1 C dX6_fill_51 rfl rfl ?_
      refine tz_getI C dX6_fill_52 fl_RX6_52 (by decide) rfl rfl ?_
      refine tz_icmp_ge 137 C dX6_fill_55 (by decide) h (fun c_14 h => ?_) (fun c_14 h => ?_)
      · exact hret _ _ _ dX6_fill_137 h
      · refine tz_aload_n 1 1 C dX6_fill_58 rfl rfl ?_
        refine tz_getR C dX6_fill_59 fl_RX6_57 (by decide) rfl rfl ?_
        refine tz_iload 4 C dX6_fill_62 rfl ?_
        obtain ⟨hin_15, h⟩ := h
        refine tz_iald C dX6_fill_64 (by decide) rfl hin_15 ?_
        refine tz_istore [(0, .ref 4), (1, .ref 1), (3, .long x3_11), (5, .int x5_12), (6, .int x6_13)] C dX6_fill_65 (Nat.le_of_ble_eq_true rfl) rfl h (fun x7_16 h => ?_)
        refine tz_iload 0 C dX6_fill_67 rfl ?_
        refine tz_callin (w9 := tz_nest1) (.inl rfl) C dX6_fill_69 lk_RX6_60 (m_X9_isLetter G hG  h) rfl ⟨Nat.le_of_ble_eq_true rfl, Nat.le_of_ble_eq_true rfl⟩ (Nat.le_of_ble_eq_true rfl) rfl (fun r_18 σ_17 h => ?_)
        refine tz_if_eq 92 C dX6_fill_72 (by decide) h (fun c_19 h => ?_) (fun c_19 h => ?_)
        · refine tz_iload 4 C dX6_fill_92 rfl ?_
          refine tz_if_le 109 C dX6_fill_94 (by decide) h (fun c_20 h => ?_) (fun c_20 h => ?_)
          · refine tz_lconst 0 (by decide) C dX6_fill_109 ?_
            refine tz_lstore_n_k 3 [(7, .int x7_16), (0, .ref 4), (1, .ref 1), (5, .int x5_12), (6, .int x6_13)] C dX6_fill_110 rfl (Nat.le_of_ble_eq_true rfl) rfl ?_
            refine tz_iconst 0 (by decide) C dX6_fill_111 ?_
            refine tz_istore_k [(3, .long 0), (7, .int x7_16), (0, .ref 4), (1, .ref 1), (6, .int x6_13)] C dX6_fill_112 (Nat.le_of_ble_eq_true rfl) rfl ?_
            refine tz_iload 2 C dX6_fill_114 rfl ?_
            refine tz_bipush 46 (by decide) C dX6_fill_116 ?_
            refine tz_icmp_ne 131 C dX6_fill_118 (by decide) h (fun c_21 h => ?_) (fun c_21 h => ?_)
            · refine tz_iinc 5 [(5, .int 0), (3, .long 0), (7, .int x7_16), (0, .ref 4), (1, .ref 1)] 1 C dX6_fill_131 (by decide) rfl (Nat.le_of_ble_eq_true rfl) rfl h (fun x6_22 h => ?_)
              refine tz_goto 49 C dX6_fill_134 (by decide) ?_
              exact tz_sub (ihag_9 _ _ _ _ h) [4, 5, 2, 1, 0] rfl
            · refine tz_aload_n 0 3 C dX6_fill_121 rfl rfl ?_
              refine tz_dup C dX6_fill_122 rfl ?_
              refine tz_getI C dX6_fill_123 fl_RX6_9 (by decide) rfl rfl ?_
              refine tz_iconst 1 (by decide) C dX6_fill_126 ?_
              refine tz_iadd C dX6_fill_127 ?_
              refine tz_put C dX6_fill_128 fp_RX6_9 (by decide) rfl rfl rfl rfl h (fun σ_23 h => ?_)
              refine tz_iinc 5 [(5, .int 0), (3, .long 0), (7, .int x7_16), (0, .ref 4), (1, .ref 1)] 1 C dX6_fill_131 (by decide) rfl (Nat.le_of_ble_eq_true rfl) rfl h (fun x6_24 h => ?_)
              refine tz_goto 49 C dX6_fill_134 (by decide) ?_
              exact tz_sub (ihag_9 _ _ _ _ h) [4, 5, 2, 1, 0] rfl
          · refine tz_aload_n 0 1 C dX6_fill_97 rfl rfl ?_
            refine tz_lload_n 3 3 C dX6_fill_98 rfl rfl ?_
            refine tz_iload 4 C dX6_fill_99 rfl ?_
            refine tz_iload 5 C dX6_fill_101 rfl ?_
            refine tz_iload 4 C dX6_fill_103 rfl ?_
            refine tz_isub C dX6_fill_105 ?_
            refine tz_callvv C dX6_fill_106 lk_RX6_64 (m_X6_addWord G hG  h) (by decide) rfl rfl rfl rfl ⟨Nat.le_of_ble_eq_true rfl, Nat.le_of_ble_eq_true rfl⟩ (Nat.le_of_ble_eq_true rfl) rfl (fun σ_25 h => ?_)
            refine tz_lconst 0 (by decide) C dX6_fill_109 ?_
            refine tz_lstore_n_k 3 [(7, .int x7_16), (0, .ref 4), (1, .ref 1), (5, .int x5_12), (6, .int x6_13)] C dX6_fill_110 rfl (Nat.le_of_ble_eq_true rfl) rfl ?_
            refine tz_iconst 0 (by decide) C dX6_fill_111 ?_
            refine tz_istore_k [(3, .long 0), (7, .int x7_16), (0, .ref 4), (1, .ref 1), (6, .int x6_13)] C dX6_fill_112 (Nat.le_of_ble_eq_true rfl) rfl ?_
            refine tz_iload 2 C dX6_fill_114 rfl ?_
            refine tz_bipush 46 (by decide) C dX6_fill_116 ?_
            refine tz_icmp_ne 131 C dX6_fill_118 (by decide) h (fun c_26 h => ?_) (fun c_26 h => ?_)
            · refine tz_iinc 5 [(5, .int 0), (3, .long 0), (7, .int x7_16), (0, .ref 4), (1, .ref 1)] 1 C dX6_fill_131 (by decide) rfl (Nat.le_of_ble_eq_true rfl) rfl h (fun x6_27 h => ?_)
              refine tz_goto 49 C dX6_fill_134 (by decide) ?_
              exact tz_sub (ihag_9 _ _ _ _ h) [4, 5, 2, 1, 0] rfl
            · refine tz_aload_n 0 3 C dX6_fill_121 rfl rfl ?_
              refine tz_dup C dX6_fill_122 rfl ?_
              refine tz_getI C dX6_fill_123 fl_RX6_9 (by decide) rfl rfl ?_
              refine tz_iconst 1 (by decide) C dX6_fill_126 ?_
              refine tz_iadd C dX6_fill_127 ?_
              refine tz_put C dX6_fill_128 fp_RX6_9 (by decide) rfl rfl rfl rfl h (fun σ_28 h => ?_)
              refine tz_iinc 5 [(5, .int 0), (3, .long 0), (7, .int x7_16), (0, .ref 4), (1, .ref 1)] 1 C dX6_fill_131 (by decide) rfl (Nat.le_of_ble_eq_true rfl) rfl h (fun x6_29 h => ?_)
              refine tz_goto 49 C dX6_fill_134 (by decide) ?_
              exact tz_sub (ihag_9 _ _ _ _ h) [4, 5, 2, 1, 0] rfl
        · refine tz_lload_n 3 3 C dX6_fill_75 rfl rfl ?_
          refine tz_iconst 5 (by decide) C dX6_fill_76 ?_
          refine tz_lshl C dX6_fill_77 ?_
          refine tz_iload 0 C dX6_fill_78 rfl ?_
          refine tz_bipush 96 (by decide) C dX6_fill_80 ?_
          refine tz_isub C dX6_fill_82 ?_
          refine tz_i2l C dX6_fill_83 ?_
          refine tz_lor C dX6_fill_84 ?_
          refine tz_lstore_n 3 [(7, .int x7_16), (0, .ref 4), (1, .ref 1), (5, .int x5_12), (6, .int x6_13)] C dX6_fill_85 rfl (Nat.le_of_ble_eq_true rfl) rfl h (fun x3_30 h => ?_)
          refine tz_iinc 4 [(3, .long x3_30), (7, .int x7_16), (0, .ref 4), (1, .ref 1), (6, .int x6_13)] 1 C dX6_fill_86 (by decide) rfl (Nat.le_of_ble_eq_true rfl) rfl h (fun x5_31 h => ?_)
          refine tz_goto 131 C dX6_fill_89 (by decide) ?_
          refine tz_iinc 5 [(5, .int x5_31), (3, .long x3_30), (7, .int x7_16), (0, .ref 4), (1, .ref 1)] 1 C dX6_fill_131 (by decide) rfl (Nat.le_of_ble_eq_true rfl) rfl h (fun x6_32 h => ?_)
          refine tz_goto 49 C dX6_fill_134 (by decide) ?_
          exact tz_sub (ihag_9 _ _ _ _ h) [4, 5, 2, 1, 0] rfl
    · refine tz_aload_n 0 0 C dX6_fill_28 rfl rfl ?_
      refine tz_getR C dX6_fill_29 fl_RX6_25 (by decide) rfl rfl ?_
      refine tz_iload_n 3 2 C dX6_fill_32 rfl rfl ?_
      refine tz_iconst 0 (by decide) C dX6_fill_33 ?_
      have hin_34 := h.1
      refine tz_iast C dX6_fill_34 (by decide) rfl h (fun σ_33 h => ?_)
      refine tz_iinc 2 [(0, .ref 4), (1, .ref 1)] 1 C dX6_fill_35 (by decide) rfl (Nat.le_of_ble_eq_true rfl) rfl h (fun x3_35 h => ?_)
      refine tz_goto 22 C dX6_fill_38 (by decide) ?_
      exact tz_sub (ihag_5 _ _ h) [1, 2, 0] rfl
  · exact hret _ _ _ dX6_fill_19 h

def vc_X6_letterOf (x1 : Int32) (x2 : Int32) (σ : tzS) (Q : Int32 → tzS → Prop) : Prop :=
  vp_in x1 108 ∧ (
    ∀ x3_2 : Int32, x3_2 = (((σ.1 33 x1.toNatClampNeg) - 1) - x2) →
    Q (96 + (((σ.2 37 x1.toNatClampNeg) >>> ((5 * x3_2).toInt64 &&& 63)) &&& 31).toInt32) σ)
set_option maxRecDepth 20000 in
set_option maxHeartbeats 4000000 in
theorem m_X6_letterOf (G : tzG) (hG : tz_ok G) {x1 : Int32} {x2 : Int32}  {σ : tzS} {Q : Int32 → tzS → Prop} (h : vc_X6_letterOf x1 x2 σ Q) : tz_M G yX6_letterOf cX6_letterOf 4 (some .int) 0 0 [.ref 4, .int x1, .int x2] σ (tz_Qi G Q) := by
  unfold vc_X6_letterOf at h
  refine tz_starti hG RX6 [(0, .ref 4), (1, .int x1), (2, .int x2)] (by decide) rfl (Nat.le_of_ble_eq_true rfl) rfl (fun E C hret => ?_)
  refine tz_aload_n 0 0 C dX6_letterOf_0 rfl rfl ?_
  refine tz_getR C dX6_letterOf_1 fl_RX6_36 (by decide) rfl rfl ?_
  refine tz_iload_n 1 1 C dX6_letterOf_4 rfl rfl ?_
  obtain ⟨hin_1, h⟩ := h
  refine tz_iald C dX6_letterOf_5 (by decide) rfl hin_1 ?_
  refine tz_iconst 1 (by decide) C dX6_letterOf_6 ?_
  refine tz_isub C dX6_letterOf_7 ?_
  refine tz_iload_n 2 2 C dX6_letterOf_8 rfl rfl ?_
  refine tz_isub C dX6_letterOf_9 ?_
  refine tz_istore_n 3 [(0, .ref 4), (1, .int x1), (2, .int x2)] C dX6_letterOf_10 rfl (Nat.le_of_ble_eq_true rfl) rfl h (fun x3_2 h => ?_)
  refine tz_bipush 96 (by decide) C dX6_letterOf_11 ?_
  refine tz_aload_n 0 1 C dX6_letterOf_13 rfl rfl ?_
  refine tz_getR C dX6_letterOf_14 fl_RX6_48 (by decide) rfl rfl ?_
  refine tz_iload_n 1 2 C dX6_letterOf_17 rfl rfl ?_
  refine tz_lald C dX6_letterOf_18 (by decide) rfl hin_1 ?_
  refine tz_iconst 5 (by decide) C dX6_letterOf_19 ?_
  refine tz_iload_n 3 0 C dX6_letterOf_20 rfl rfl ?_
  refine tz_imul C dX6_letterOf_21 ?_
  refine tz_lshr C dX6_letterOf_22 ?_
  refine tz_ldc2 31 C dX6_letterOf_23 cw_RX6_83 ?_
  refine tz_land C dX6_letterOf_26 ?_
  refine tz_l2i C dX6_letterOf_27 ?_
  refine tz_iadd C dX6_letterOf_28 ?_
  exact hret _ _ _ _ dX6_letterOf_29 h

def vc_X6_unlikeIn (x1 : Int32) (σ : tzS) (Q : Int32 → tzS → Prop) : Prop :=
  tz_loop2 (fun (x2_3 : Int32) (x3_4 : Int32) (σ_2 : tzS) (ag_1 : Int32 → Int32 → tzS → Prop) =>
    ((σ_2.1 4 2) ≤ x3_4 →
      Q x2_3 σ_2) ∧
    (¬ (σ_2.1 4 2) ≤ x3_4 →
      vp_in x1 12 ∧ (
        vp_in x3_4 108 ∧ (
          ((σ_2.1 (21 + x1.toNatClampNeg) x3_4.toNatClampNeg) ≤ 0 →
            ∀ x3_9 : Int32, x3_9 = x3_4 + 1 →
            ag_1 x2_3 x3_9 σ_2) ∧
          (¬ (σ_2.1 (21 + x1.toNatClampNeg) x3_4.toNatClampNeg) ≤ 0 →
            ∀ x2_10 : Int32, x2_10 = x2_3 + 1 →
            ∀ x3_11 : Int32, x3_11 = x3_4 + 1 →
            ag_1 x2_10 x3_11 σ_2))))) (0 : Int32) (0 : Int32) σ
set_option maxRecDepth 20000 in
set_option maxHeartbeats 4000000 in
theorem m_X6_unlikeIn (G : tzG) (hG : tz_ok G) {x1 : Int32}  {σ : tzS} {Q : Int32 → tzS → Prop} (h : vc_X6_unlikeIn x1 σ Q) : tz_M G yX6_unlikeIn cX6_unlikeIn 4 (some .int) 0 0 [.ref 4, .int x1] σ (tz_Qi G Q) := by
  unfold vc_X6_unlikeIn at h
  refine tz_starti hG RX6 [(0, .ref 4), (1, .int x1)] (by decide) rfl (Nat.le_of_ble_eq_true rfl) rfl (fun E C hret => ?_)
  refine tz_iconst 0 (by decide) C dX6_unlikeIn_0 ?_
  refine tz_istore_n_k 2 [(0, .ref 4), (1, .int x1)] C dX6_unlikeIn_1 rfl (Nat.le_of_ble_eq_true rfl) rfl ?_
  refine tz_iconst 0 (by decide) C dX6_unlikeIn_2 ?_
  refine tz_istore_n_k 3 [(2, .int 0), (0, .ref 4), (1, .int x1)] C dX6_unlikeIn_3 rfl (Nat.le_of_ble_eq_true rfl) rfl ?_
  refine tz_sub (L := [(0, .ref 4), (1, .int x1), (2, .int 0), (3, .int 0)]) ?_ [2, 3, 1, 0] rfl
  refine tz_loop2_w (V := fun (x2_3 : Int32) (x3_4 : Int32) (σ_2 : tzS) => tz_V G E 4 [(0, .ref 4), (1, .int x1), (2, .int x2_3), (3, .int x3_4)] [] σ_2) h (fun ag_1 ihag_1 x2_3 x3_4 σ_2 h => ?_)
  refine tz_iload_n 3 3 C dX6_unlikeIn_4 rfl rfl ?_
  refine tz_aload_n 0 0 C dX6_unlikeIn_5 rfl rfl ?_
  refine tz_getI C dX6_unlikeIn_6 fl_RX6_18 (by decide) rfl rfl ?_
  refine tz_icmp_ge 32 C dX6_unlikeIn_9 (by decide) h (fun c_5 h => ?_) (fun c_5 h => ?_)
  · refine tz_iload_n 2 2 C dX6_unlikeIn_32 rfl rfl ?_
    exact hret _ _ _ _ dX6_unlikeIn_33 h
  · refine tz_aload_n 0 0 C dX6_unlikeIn_12 rfl rfl ?_
    refine tz_getR C dX6_unlikeIn_13 fl_RX6_33 (by decide) rfl rfl ?_
    refine tz_iload_n 1 1 C dX6_unlikeIn_16 rfl rfl ?_
    obtain ⟨hin_6, h⟩ := h
    refine tz_aald C dX6_unlikeIn_17 (by decide) rfl hin_6 ?_
    refine tz_iload_n 3 3 C dX6_unlikeIn_18 rfl rfl ?_
    obtain ⟨hin_7, h⟩ := h
    refine tz_iald C dX6_unlikeIn_19 (tz_rowlt hin_6 (by decide)) (tz_rows hin_6 (by decide)) hin_7 ?_
    refine tz_if_le 26 C dX6_unlikeIn_20 (by decide) h (fun c_8 h => ?_) (fun c_8 h => ?_)
    · refine tz_iinc 3 [(0, .ref 4), (1, .int x1), (2, .int x2_3)] 1 C dX6_unlikeIn_26 (by decide) rfl (Nat.le_of_ble_eq_true rfl) rfl h (fun x3_9 h => ?_)
      refine tz_goto 4 C dX6_unlikeIn_29 (by decide) ?_
      exact tz_sub (ihag_1 _ _ _ h) [1, 2, 3, 0] rfl
    · refine tz_iinc 2 [(0, .ref 4), (1, .int x1), (3, .int x3_4)] 1 C dX6_unlikeIn_23 (by decide) rfl (Nat.le_of_ble_eq_true rfl) rfl h (fun x2_10 h => ?_)
      refine tz_iinc 3 [(2, .int x2_10), (0, .ref 4), (1, .int x1)] 1 C dX6_unlikeIn_26 (by decide) rfl (Nat.le_of_ble_eq_true rfl) rfl h (fun x3_11 h => ?_)
      refine tz_goto 4 C dX6_unlikeIn_29 (by decide) ?_
      exact tz_sub (ihag_1 _ _ _ h) [2, 3, 1, 0] rfl

def vc_X6_onceIn (x1 : Int32) (σ : tzS) (Q : Int32 → tzS → Prop) : Prop :=
  tz_loop2 (fun (x2_3 : Int32) (x3_4 : Int32) (σ_2 : tzS) (ag_1 : Int32 → Int32 → tzS → Prop) =>
    ((σ_2.1 4 2) ≤ x3_4 →
      Q x2_3 σ_2) ∧
    (¬ (σ_2.1 4 2) ≤ x3_4 →
      vp_in x1 12 ∧ (
        vp_in x3_4 108 ∧ (
          (¬ (σ_2.1 (21 + x1.toNatClampNeg) x3_4.toNatClampNeg) = 1 →
            ∀ x3_9 : Int32, x3_9 = x3_4 + 1 →
            ag_1 x2_3 x3_9 σ_2) ∧
          ((σ_2.1 (21 + x1.toNatClampNeg) x3_4.toNatClampNeg) = 1 →
            ∀ x2_10 : Int32, x2_10 = x2_3 + 1 →
            ∀ x3_11 : Int32, x3_11 = x3_4 + 1 →
            ag_1 x2_10 x3_11 σ_2))))) (0 : Int32) (0 : Int32) σ
set_option maxRecDepth 20000 in
set_option maxHeartbeats 4000000 in
theorem m_X6_onceIn (G : tzG) (hG : tz_ok G) {x1 : Int32}  {σ : tzS} {Q : Int32 → tzS → Prop} (h : vc_X6_onceIn x1 σ Q) : tz_M G yX6_onceIn cX6_onceIn 4 (some .int) 0 0 [.ref 4, .int x1] σ (tz_Qi G Q) := by
  unfold vc_X6_onceIn at h
  refine tz_starti hG RX6 [(0, .ref 4), (1, .int x1)] (by decide) rfl (Nat.le_of_ble_eq_true rfl) rfl (fun E C hret => ?_)
  refine tz_iconst 0 (by decide) C dX6_onceIn_0 ?_
  refine tz_istore_n_k 2 [(0, .ref 4), (1, .int x1)] C dX6_onceIn_1 rfl (Nat.le_of_ble_eq_true rfl) rfl ?_
  refine tz_iconst 0 (by decide) C dX6_onceIn_2 ?_
  refine tz_istore_n_k 3 [(2, .int 0), (0, .ref 4), (1, .int x1)] C dX6_onceIn_3 rfl (Nat.le_of_ble_eq_true rfl) rfl ?_
  refine tz_sub (L := [(0, .ref 4), (1, .int x1), (2, .int 0), (3, .int 0)]) ?_ [2, 3, 1, 0] rfl
  refine tz_loop2_w (V := fun (x2_3 : Int32) (x3_4 : Int32) (σ_2 : tzS) => tz_V G E 4 [(0, .ref 4), (1, .int x1), (2, .int x2_3), (3, .int x3_4)] [] σ_2) h (fun ag_1 ihag_1 x2_3 x3_4 σ_2 h => ?_)
  refine tz_iload_n 3 3 C dX6_onceIn_4 rfl rfl ?_
  refine tz_aload_n 0 0 C dX6_onceIn_5 rfl rfl ?_
  refine tz_getI C dX6_onceIn_6 fl_RX6_18 (by decide) rfl rfl ?_
  refine tz_icmp_ge 33 C dX6_onceIn_9 (by decide) h (fun c_5 h => ?_) (fun c_5 h => ?_)
  · refine tz_iload_n 2 2 C dX6_onceIn_33 rfl rfl ?_
    exact hret _ _ _ _ dX6_onceIn_34 h
  · refine tz_aload_n 0 0 C dX6_onceIn_12 rfl rfl ?_
    refine tz_getR C dX6_onceIn_13 fl_RX6_33 (by decide) rfl rfl ?_
    refine tz_iload_n 1 1 C dX6_onceIn_16 rfl rfl ?_
    obtain ⟨hin_6, h⟩ := h
    refine tz_aald C dX6_onceIn_17 (by decide) rfl hin_6 ?_
    refine tz_iload_n 3 3 C dX6_onceIn_18 rfl rfl ?_
    obtain ⟨hin_7, h⟩ := h
    refine tz_iald C dX6_onceIn_19 (tz_rowlt hin_6 (by decide)) (tz_rows hin_6 (by decide)) hin_7 ?_
    refine tz_iconst 1 (by decide) C dX6_onceIn_20 ?_
    refine tz_icmp_ne 27 C dX6_onceIn_21 (by decide) h (fun c_8 h => ?_) (fun c_8 h => ?_)
    · refine tz_iinc 3 [(0, .ref 4), (1, .int x1), (2, .int x2_3)] 1 C dX6_onceIn_27 (by decide) rfl (Nat.le_of_ble_eq_true rfl) rfl h (fun x3_9 h => ?_)
      refine tz_goto 4 C dX6_onceIn_30 (by decide) ?_
      exact tz_sub (ihag_1 _ _ _ h) [1, 2, 3, 0] rfl
    · refine tz_iinc 2 [(0, .ref 4), (1, .int x1), (3, .int x3_4)] 1 C dX6_onceIn_24 (by decide) rfl (Nat.le_of_ble_eq_true rfl) rfl h (fun x2_10 h => ?_)
      refine tz_iinc 3 [(2, .int x2_10), (0, .ref 4), (1, .int x1)] 1 C dX6_onceIn_27 (by decide) rfl (Nat.le_of_ble_eq_true rfl) rfl h (fun x3_11 h => ?_)
      refine tz_goto 4 C dX6_onceIn_30 (by decide) ?_
      exact tz_sub (ihag_1 _ _ _ h) [2, 3, 1, 0] rfl

def vc_X7_isLost (x1 : Int32) (σ : tzS) (Q : Int32 → tzS → Prop) : Prop :=
  vp_in x1 4 ∧ (
    (¬ (σ.1 125 x1.toNatClampNeg) = (-1) →
      Q 0 σ) ∧
    ((σ.1 125 x1.toNatClampNeg) = (-1) →
      Q 1 σ))
set_option maxRecDepth 20000 in
set_option maxHeartbeats 4000000 in
theorem m_X7_isLost (G : tzG) (hG : tz_ok G) {x1 : Int32}  {σ : tzS} {Q : Int32 → tzS → Prop} (h : vc_X7_isLost x1 σ Q) : tz_M G yX7_isLost cX7_isLost 2 (some .boolean) 0 0 [.ref 124, .int x1] σ (tz_Qi G Q) := by
  unfold vc_X7_isLost at h
  refine tz_startz hG RX7 [(0, .ref 124), (1, .int x1)] (by decide) rfl (Nat.le_of_ble_eq_true rfl) rfl (fun E C hret => ?_)
  refine tz_aload_n 0 0 C dX7_isLost_0 rfl rfl ?_
  refine tz_getR C dX7_isLost_1 fl_RX7_9 (by decide) rfl rfl ?_
  refine tz_iload_n 1 1 C dX7_isLost_4 rfl rfl ?_
  obtain ⟨hin_1, h⟩ := h
  refine tz_iald C dX7_isLost_5 (by decide) rfl hin_1 ?_
  refine tz_iconst (-1) (by decide) C dX7_isLost_6 ?_
  refine tz_icmp_ne 14 C dX7_isLost_7 (by decide) h (fun c_2 h => ?_) (fun c_2 h => ?_)
  · refine tz_iconst 0 (by decide) C dX7_isLost_14 ?_
    exact hret _ _ _ _ dX7_isLost_15 rfl h
  · refine tz_iconst 1 (by decide) C dX7_isLost_10 ?_
    refine tz_goto 15 C dX7_isLost_11 (by decide) ?_
    exact hret _ _ _ _ dX7_isLost_15 rfl h

def vc_X7_make (x1 : Int32) (x2 : Int32) (x3 : Int32) (σ : tzS) (Q : tzS → Prop) : Prop :=
  vp_in x1 4 ∧ (
    ∀ σ_1 : tzS, σ_1 = tz_st σ 125 x1.toNatClampNeg x2 →
    ∀ σ_3 : tzS, σ_3 = tz_st σ_1 126 x1.toNatClampNeg x3 →
    tz_loop1 (fun (x4_6 : Int32) (σ_5 : tzS) (ag_4 : Int32 → tzS → Prop) =>
      (x3 ≤ x4_6 →
        Q σ_5) ∧
      (¬ x3 ≤ x4_6 →
        vp_in x4_6 60 ∧ (
          ∀ σ_9 : tzS, σ_9 = tz_st σ_5 (128 + x1.toNatClampNeg) x4_6.toNatClampNeg 0 →
          ∀ x4_11 : Int32, x4_11 = x4_6 + 1 →
          ag_4 x4_11 σ_9))) (0 : Int32) σ_3)
set_option maxRecDepth 20000 in
set_option maxHeartbeats 4000000 in
theorem m_X7_make (G : tzG) (hG : tz_ok G) {x1 : Int32} {x2 : Int32} {x3 : Int32}  {σ : tzS} {Q : tzS → Prop} (h : vc_X7_make x1 x2 x3 σ Q) : tz_M G yX7_make cX7_make 5 (none) 0 0 [.ref 124, .int x1, .int x2, .int x3] σ (tz_Qv G Q) := by
  unfold vc_X7_make at h
  refine tz_startv hG RX7 [(0, .ref 124), (1, .int x1), (2, .int x2), (3, .int x3)] (by decide) rfl (Nat.le_of_ble_eq_true rfl) rfl (fun E C hret => ?_)
  refine tz_aload_n 0 0 C dX7_make_0 rfl rfl ?_
  refine tz_getR C dX7_make_1 fl_RX7_9 (by decide) rfl rfl ?_
  refine tz_iload_n 1 1 C dX7_make_4 rfl rfl ?_
  refine tz_iload_n 2 2 C dX7_make_5 rfl rfl ?_
  have hin_2 := h.1
  refine tz_iast C dX7_make_6 (by decide) rfl h (fun σ_1 h => ?_)
  refine tz_aload_n 0 0 C dX7_make_7 rfl rfl ?_
  refine tz_getR C dX7_make_8 fl_RX7_15 (by decide) rfl rfl ?_
  refine tz_iload_n 1 1 C dX7_make_11 rfl rfl ?_
  refine tz_iload_n 3 3 C dX7_make_12 rfl rfl ?_
  refine tz_iast_c _ C dX7_make_13 (by decide) rfl hin_2 rfl h (fun σ_3 h => ?_)
  refine tz_iconst 0 (by decide) C dX7_make_14 ?_
  refine tz_istore_k [(0, .ref 124), (1, .int x1), (2, .int x2), (3, .int x3)] C dX7_make_15 (Nat.le_of_ble_eq_true rfl) rfl ?_
  refine tz_sub (L := [(0, .ref 124), (1, .int x1), (3, .int x3), (4, .int 0)]) ?_ [1, 2, 4, 0] rfl
  refine tz_loop1_w (V := fun (x4_6 : Int32) (σ_5 : tzS) => tz_V G E 17 [(0, .ref 124), (1, .int x1), (3, .int x3), (4, .int x4_6)] [] σ_5) h (fun ag_4 ihag_4 x4_6 σ_5 h => ?_)
  refine tz_iload 3 C dX7_make_17 rfl ?_
  refine tz_iload_n 3 2 C dX7_make_19 rfl rfl ?_
  refine tz_icmp_ge 39 C dX7_make_20 (by decide) h (fun c_7 h => ?_) (fun c_7 h => ?_)
  · exact hret _ _ _ dX7_make_39 h
  · refine tz_aload_n 0 0 C dX7_make_23 rfl rfl ?_
    refine tz_getR C dX7_make_24 fl_RX7_20 (by decide) rfl rfl ?_
    refine tz_iload_n 1 1 C dX7_make_27 rfl rfl ?_
    refine tz_aald C dX7_make_28 (by decide) rfl hin_2 ?_
    refine tz_iload 3 C dX7_make_29 rfl ?_
    refine tz_iconst 0 (by decide) C dX7_make_31 ?_
    have hin_10 := h.1
    refine tz_iast C dX7_make_32 (tz_rowlt hin_2 (by decide)) (tz_rows hin_2 (by decide)) h (fun σ_9 h => ?_)
    refine tz_iinc 3 [(0, .ref 124), (1, .int x1), (3, .int x3)] 1 C dX7_make_33 (by decide) rfl (Nat.le_of_ble_eq_true rfl) rfl h (fun x4_11 h => ?_)
    refine tz_goto 17 C dX7_make_36 (by decide) ?_
    exact tz_sub (ihag_4 _ _ h) [1, 2, 3, 0] rfl

def vc_X7_againstItem (x1 : Int32) (x2 : Int32) (x3 : Int32) (σ : tzS) (Q : Int32 → tzS → Prop) : Prop :=
  vc_X7_isLost x1 σ (fun (r_2 : Int32) (σ_1 : tzS) =>
    (r_2 = 0 →
      vp_in x1 4 ∧ (
        ((σ_1.1 125 x1.toNatClampNeg) = x2 →
          (x3 < 0 →
            Q 2 σ_1) ∧
          (¬ x3 < 0 →
            (x3 < (σ_1.1 126 x1.toNatClampNeg) →
              Q 0 σ_1) ∧
            (¬ x3 < (σ_1.1 126 x1.toNatClampNeg) →
              Q 2 σ_1))) ∧
        (¬ (σ_1.1 125 x1.toNatClampNeg) = x2 →
          Q 3 σ_1))) ∧
    (¬ r_2 = 0 →
      Q 1 σ_1))
set_option maxRecDepth 20000 in
set_option maxHeartbeats 4000000 in
theorem m_X7_againstItem (G : tzG) (hG : tz_ok G) {x1 : Int32} {x2 : Int32} {x3 : Int32}  {σ : tzS} {Q : Int32 → tzS → Prop} (h : vc_X7_againstItem x1 x2 x3 σ Q) : tz_M G yX7_againstItem cX7_againstItem 4 (some .int) 1 21 [.ref 124, .int x1, .int x2, .int x3] σ (tz_Qi G Q) := by
  unfold vc_X7_againstItem at h
  refine tz_starti hG RX7 [(0, .ref 124), (1, .int x1), (2, .int x2), (3, .int x3)] (by decide) rfl (Nat.le_of_ble_eq_true rfl) rfl (fun E C hret => ?_)
  refine tz_aload_n 0 0 C dX7_againstItem_0 rfl rfl ?_
  refine tz_iload_n 1 1 C dX7_againstItem_1 rfl rfl ?_
  refine tz_calliv C dX7_againstItem_2 lk_RX7_23 (m_X7_isLost G hG  h) (by decide) rfl rfl rfl rfl ⟨Nat.le_of_ble_eq_true rfl, Nat.le_of_ble_eq_true rfl⟩ (Nat.le_of_ble_eq_true rfl) rfl (fun r_2 σ_1 h => ?_)
  refine tz_if_eq 10 C dX7_againstItem_5 (by decide) h (fun c_3 h => ?_) (fun c_3 h => ?_)
  · refine tz_aload_n 0 0 C dX7_againstItem_10 rfl rfl ?_
    refine tz_getR C dX7_againstItem_11 fl_RX7_9 (by decide) rfl rfl ?_
    refine tz_iload_n 1 1 C dX7_againstItem_14 rfl rfl ?_
    obtain ⟨hin_4, h⟩ := h
    refine tz_iald C dX7_againstItem_15 (by decide) rfl hin_4 ?_
    refine tz_iload_n 2 2 C dX7_againstItem_16 rfl rfl ?_
    refine tz_icmp_eq 22 C dX7_againstItem_17 (by decide) h (fun c_5 h => ?_) (fun c_5 h => ?_)
    · refine tz_iload_n 3 3 C dX7_againstItem_22 rfl rfl ?_
      refine tz_if_lt 36 C dX7_againstItem_23 (by decide) h (fun c_6 h => ?_) (fun c_6 h => ?_)
      · refine tz_iconst 2 (by decide) C dX7_againstItem_36 ?_
        refine tz_goto 41 C dX7_againstItem_37 (by decide) ?_
        exact hret _ _ _ _ dX7_againstItem_41 h
      · refine tz_iload_n 3 3 C dX7_againstItem_26 rfl rfl ?_
        refine tz_aload_n 0 0 C dX7_againstItem_27 rfl rfl ?_
        refine tz_getR C dX7_againstItem_28 fl_RX7_15 (by decide) rfl rfl ?_
        refine tz_iload_n 1 1 C dX7_againstItem_31 rfl rfl ?_
        refine tz_iald C dX7_againstItem_32 (by decide) rfl hin_4 ?_
        refine tz_icmp_lt 40 C dX7_againstItem_33 (by decide) h (fun c_7 h => ?_) (fun c_7 h => ?_)
        · refine tz_iconst 0 (by decide) C dX7_againstItem_40 ?_
          exact hret _ _ _ _ dX7_againstItem_41 h
        · refine tz_iconst 2 (by decide) C dX7_againstItem_36 ?_
          refine tz_goto 41 C dX7_againstItem_37 (by decide) ?_
          exact hret _ _ _ _ dX7_againstItem_41 h
    · refine tz_iconst 3 (by decide) C dX7_againstItem_20 ?_
      exact hret _ _ _ _ dX7_againstItem_21 h
  · refine tz_iconst 1 (by decide) C dX7_againstItem_8 ?_
    exact hret _ _ _ _ dX7_againstItem_9 h

def vc_X7_lacks (x1 : Int32) (x2 : Int32) (x3 : Int32) (σ : tzS) (Q : Int32 → tzS → Prop) : Prop :=
  (x2 < 0 →
    Q 1 σ) ∧
  (¬ x2 < 0 →
    (x3 < 0 →
      Q 1 σ) ∧
    (¬ x3 < 0 →
      vp_in x1 4 ∧ (
        (x3 ≤ ((σ.1 126 x1.toNatClampNeg) - x2) →
          Q 0 σ) ∧
        (¬ x3 ≤ ((σ.1 126 x1.toNatClampNeg) - x2) →
          Q 1 σ))))
set_option maxRecDepth 20000 in
set_option maxHeartbeats 4000000 in
theorem m_X7_lacks (G : tzG) (hG : tz_ok G) {x1 : Int32} {x2 : Int32} {x3 : Int32}  {σ : tzS} {Q : Int32 → tzS → Prop} (h : vc_X7_lacks x1 x2 x3 σ Q) : tz_M G yX7_lacks cX7_lacks 4 (some .boolean) 0 0 [.ref 124, .int x1, .int x2, .int x3] σ (tz_Qi G Q) := by
  unfold vc_X7_lacks at h
  refine tz_startz hG RX7 [(0, .ref 124), (1, .int x1), (2, .int x2), (3, .int x3)] (by decide) rfl (Nat.le_of_ble_eq_true rfl) rfl (fun E C hret => ?_)
  refine tz_iload_n 2 2 C dX7_lacks_0 rfl rfl ?_
  refine tz_if_lt 20 C dX7_lacks_1 (by decide) h (fun c_1 h => ?_) (fun c_1 h => ?_)
  · refine tz_iconst 1 (by decide) C dX7_lacks_20 ?_
    refine tz_goto 25 C dX7_lacks_21 (by decide) ?_
    exact hret _ _ _ _ dX7_lacks_25 rfl h
  · refine tz_iload_n 3 3 C dX7_lacks_4 rfl rfl ?_
    refine tz_if_lt 20 C dX7_lacks_5 (by decide) h (fun c_2 h => ?_) (fun c_2 h => ?_)
    · refine tz_iconst 1 (by decide) C dX7_lacks_20 ?_
      refine tz_goto 25 C dX7_lacks_21 (by decide) ?_
      exact hret _ _ _ _ dX7_lacks_25 rfl h
    · refine tz_iload_n 3 3 C dX7_lacks_8 rfl rfl ?_
      refine tz_aload_n 0 0 C dX7_lacks_9 rfl rfl ?_
      refine tz_getR C dX7_lacks_10 fl_RX7_15 (by decide) rfl rfl ?_
      refine tz_iload_n 1 1 C dX7_lacks_13 rfl rfl ?_
      obtain ⟨hin_3, h⟩ := h
      refine tz_iald C dX7_lacks_14 (by decide) rfl hin_3 ?_
      refine tz_iload_n 2 2 C dX7_lacks_15 rfl rfl ?_
      refine tz_isub C dX7_lacks_16 ?_
      refine tz_icmp_le 24 C dX7_lacks_17 (by decide) h (fun c_4 h => ?_) (fun c_4 h => ?_)
      · refine tz_iconst 0 (by decide) C dX7_lacks_24 ?_
        exact hret _ _ _ _ dX7_lacks_25 rfl h
      · refine tz_iconst 1 (by decide) C dX7_lacks_20 ?_
        refine tz_goto 25 C dX7_lacks_21 (by decide) ?_
        exact hret _ _ _ _ dX7_lacks_25 rfl h

def vc_X7_item (x1 : Int32) (x2 : Int32) (σ : tzS) (Q : Int32 → tzS → Prop) : Prop :=
  vp_in x1 4 ∧ (
    vp_in x2 60 ∧ (
      Q (σ.1 (128 + x1.toNatClampNeg) x2.toNatClampNeg) σ))
set_option maxRecDepth 20000 in
set_option maxHeartbeats 4000000 in
theorem m_X7_item (G : tzG) (hG : tz_ok G) {x1 : Int32} {x2 : Int32}  {σ : tzS} {Q : Int32 → tzS → Prop} (h : vc_X7_item x1 x2 σ Q) : tz_M G yX7_item cX7_item 3 (some .int) 0 0 [.ref 124, .int x1, .int x2] σ (tz_Qi G Q) := by
  unfold vc_X7_item at h
  refine tz_starti hG RX7 [(0, .ref 124), (1, .int x1), (2, .int x2)] (by decide) rfl (Nat.le_of_ble_eq_true rfl) rfl (fun E C hret => ?_)
  refine tz_aload_n 0 0 C dX7_item_0 rfl rfl ?_
  refine tz_getR C dX7_item_1 fl_RX7_20 (by decide) rfl rfl ?_
  refine tz_iload_n 1 1 C dX7_item_4 rfl rfl ?_
  obtain ⟨hin_1, h⟩ := h
  refine tz_aald C dX7_item_5 (by decide) rfl hin_1 ?_
  refine tz_iload_n 2 2 C dX7_item_6 rfl rfl ?_
  obtain ⟨hin_2, h⟩ := h
  refine tz_iald C dX7_item_7 (tz_rowlt hin_1 (by decide)) (tz_rows hin_1 (by decide)) hin_2 ?_
  exact hret _ _ _ _ dX7_item_8 h

def vc_X7_keep (x1 : Int32) (x2 : Int32) (x3 : Int32) (σ : tzS) (Q : tzS → Prop) : Prop :=
  vp_in x1 4 ∧ (
    (¬ (σ.1 125 x1.toNatClampNeg) = 0 →
      (¬ (σ.1 125 x1.toNatClampNeg) = 1 →
        vp_in x2 60 ∧ (
          ∀ σ_4 : tzS, σ_4 = tz_st σ (128 + x1.toNatClampNeg) x2.toNatClampNeg x3 →
          Q σ_4)) ∧
      ((σ.1 125 x1.toNatClampNeg) = 1 →
        vp_in x2 60 ∧ (
          ∀ σ_6 : tzS, σ_6 = tz_st σ (128 + x1.toNatClampNeg) x2.toNatClampNeg x3.toInt16.toInt32 →
          Q σ_6))) ∧
    ((σ.1 125 x1.toNatClampNeg) = 0 →
      vp_in x2 60 ∧ (
        ∀ σ_8 : tzS, σ_8 = tz_st σ (128 + x1.toNatClampNeg) x2.toNatClampNeg x3.toInt8.toInt32 →
        Q σ_8)))
set_option maxRecDepth 20000 in
set_option maxHeartbeats 4000000 in
theorem m_X7_keep (G : tzG) (hG : tz_ok G) {x1 : Int32} {x2 : Int32} {x3 : Int32}  {σ : tzS} {Q : tzS → Prop} (h : vc_X7_keep x1 x2 x3 σ Q) : tz_M G yX7_keep cX7_keep 4 (none) 0 0 [.ref 124, .int x1, .int x2, .int x3] σ (tz_Qv G Q) := by
  unfold vc_X7_keep at h
  refine tz_startv hG RX7 [(0, .ref 124), (1, .int x1), (2, .int x2), (3, .int x3)] (by decide) rfl (Nat.le_of_ble_eq_true rfl) rfl (fun E C hret => ?_)
  refine tz_aload_n 0 0 C dX7_keep_0 rfl rfl ?_
  refine tz_getR C dX7_keep_1 fl_RX7_20 (by decide) rfl rfl ?_
  refine tz_iload_n 1 1 C dX7_keep_4 rfl rfl ?_
  obtain ⟨hin_1, h⟩ := h
  refine tz_aald C dX7_keep_5 (by decide) rfl hin_1 ?_
  refine tz_iload_n 2 2 C dX7_keep_6 rfl rfl ?_
  refine tz_aload_n 0 0 C dX7_keep_7 rfl rfl ?_
  refine tz_getR C dX7_keep_8 fl_RX7_9 (by decide) rfl rfl ?_
  refine tz_iload_n 1 1 C dX7_keep_11 rfl rfl ?_
  refine tz_iald C dX7_keep_12 (by decide) rfl hin_1 ?_
  refine tz_if_ne 21 C dX7_keep_13 (by decide) h (fun c_2 h => ?_) (fun c_2 h => ?_)
  · refine tz_aload_n 0 0 C dX7_keep_21 rfl rfl ?_
    refine tz_getR C dX7_keep_22 fl_RX7_9 (by decide) rfl rfl ?_
    refine tz_iload_n 1 1 C dX7_keep_25 rfl rfl ?_
    refine tz_iald C dX7_keep_26 (by decide) rfl hin_1 ?_
    refine tz_iconst 1 (by decide) C dX7_keep_27 ?_
    refine tz_icmp_ne 36 C dX7_keep_28 (by decide) h (fun c_3 h => ?_) (fun c_3 h => ?_)
    · refine tz_iload_n 3 3 C dX7_keep_36 rfl rfl ?_
      have hin_5 := h.1
      refine tz_iast C dX7_keep_37 (tz_rowlt hin_1 (by decide)) (tz_rows hin_1 (by decide)) h (fun σ_4 h => ?_)
      exact hret _ _ _ dX7_keep_38 h
    · refine tz_iload_n 3 3 C dX7_keep_31 rfl rfl ?_
      refine tz_i2s C dX7_keep_32 ?_
      refine tz_goto 37 C dX7_keep_33 (by decide) ?_
      have hin_7 := h.1
      refine tz_iast C dX7_keep_37 (tz_rowlt hin_1 (by decide)) (tz_rows hin_1 (by decide)) h (fun σ_6 h => ?_)
      exact hret _ _ _ dX7_keep_38 h
  · refine tz_iload_n 3 3 C dX7_keep_16 rfl rfl ?_
    refine tz_i2b C dX7_keep_17 ?_
    refine tz_goto 37 C dX7_keep_18 (by decide) ?_
    have hin_9 := h.1
    refine tz_iast C dX7_keep_37 (tz_rowlt hin_1 (by decide)) (tz_rows hin_1 (by decide)) h (fun σ_8 h => ?_)
    exact hret _ _ _ dX7_keep_38 h

def vc_X7_move (x1 : Int32) (x2 : Int32) (x3 : Int32) (x4 : Int32) (x5 : Int32) (σ : tzS) (Q : tzS → Prop) : Prop :=
  vp_in x1 4 ∧ (
    vp_in x3 4 ∧ (
      (¬ x2 < 0 ∧ ¬ x4 < 0 ∧ ¬ x5 < 0 ∧ x2.toNatClampNeg + x5.toNatClampNeg ≤ 60 ∧ x4.toNatClampNeg + x5.toNatClampNeg ≤ 60) ∧ ∀ σ_3 : tzS, σ_3 = tz_cp σ (128 + x1.toNatClampNeg) (128 + x3.toNatClampNeg) x2.toNatClampNeg x4.toNatClampNeg x5.toNatClampNeg →
      Q σ_3))
set_option maxRecDepth 20000 in
set_option maxHeartbeats 4000000 in
theorem m_X7_move (G : tzG) (hG : tz_ok G) {x1 : Int32} {x2 : Int32} {x3 : Int32} {x4 : Int32} {x5 : Int32}  {σ : tzS} {Q : tzS → Prop} (h : vc_X7_move x1 x2 x3 x4 x5 σ Q) : tz_M G yX7_move cX7_move 6 (none) 1 60 [.ref 124, .int x1, .int x2, .int x3, .int x4, .int x5] σ (tz_Qv G Q) := by
  unfold vc_X7_move at h
  refine tz_startv hG RX7 [(0, .ref 124), (1, .int x1), (2, .int x2), (3, .int x3), (4, .int x4), (5, .int x5)] (by decide) rfl (Nat.le_of_ble_eq_true rfl) rfl (fun E C hret => ?_)
  refine tz_aload_n 0 0 C dX7_move_0 rfl rfl ?_
  refine tz_getR C dX7_move_1 fl_RX7_20 (by decide) rfl rfl ?_
  refine tz_iload_n 1 1 C dX7_move_4 rfl rfl ?_
  obtain ⟨hin_1, h⟩ := h
  refine tz_aald C dX7_move_5 (by decide) rfl hin_1 ?_
  refine tz_iload_n 2 2 C dX7_move_6 rfl rfl ?_
  refine tz_aload_n 0 0 C dX7_move_7 rfl rfl ?_
  refine tz_getR C dX7_move_8 fl_RX7_20 (by decide) rfl rfl ?_
  refine tz_iload_n 3 3 C dX7_move_11 rfl rfl ?_
  obtain ⟨hin_2, h⟩ := h
  refine tz_aald C dX7_move_12 (by decide) rfl hin_2 ?_
  refine tz_iload 4 C dX7_move_13 rfl ?_
  refine tz_iload 5 C dX7_move_15 rfl ?_
  refine tz_copy C dX7_move_17 sk_RX7_27 sk_na sk_st sk_ini ⟨Nat.le_of_ble_eq_true rfl, Nat.le_of_ble_eq_true rfl⟩ (tz_rowlt hin_1 (by decide)) (tz_rows hin_1 (by decide)) (tz_rowlt hin_2 (by decide)) (tz_rows hin_2 (by decide)) h (fun σ_3 h => ?_)
  exact hret _ _ _ dX7_move_20 h

def vc_X8_add (x1 : Int32) (σ : tzS) (Q : tzS → Prop) : Prop :=
  ((σ.1 1 1) < 0 →
    Q σ) ∧
  (¬ (σ.1 1 1) < 0 →
    ((σ.1 1 1) < 200 →
      vp_in (σ.1 1 1) 200 ∧ (
        ∀ σ_3 : tzS, σ_3 = tz_st σ 2 (σ.1 1 1).toNatClampNeg x1 →
        ∀ σ_5 : tzS, σ_5 = tz_st σ_3 1 1 ((σ_3.1 1 1) + 1) →
        Q σ_5)) ∧
    (¬ (σ.1 1 1) < 200 →
      Q σ))
set_option maxRecDepth 20000 in
set_option maxHeartbeats 4000000 in
theorem m_X8_add (G : tzG) (hG : tz_ok G) {x1 : Int32}  {σ : tzS} {Q : tzS → Prop} (h : vc_X8_add x1 σ Q) : tz_M G yX8_add cX8_add 2 (none) 0 0 [.ref 1, .int x1] σ (tz_Qv G Q) := by
  unfold vc_X8_add at h
  refine tz_startv hG RX8 [(0, .ref 1), (1, .int x1)] (by decide) rfl (Nat.le_of_ble_eq_true rfl) rfl (fun E C hret => ?_)
  refine tz_aload_n 0 0 C dX8_add_0 rfl rfl ?_
  refine tz_getI C dX8_add_1 fl_RX8_15 (by decide) rfl rfl ?_
  refine tz_if_lt 17 C dX8_add_4 (by decide) h (fun c_1 h => ?_) (fun c_1 h => ?_)
  · exact hret _ _ _ dX8_add_17 h
  · refine tz_aload_n 0 0 C dX8_add_7 rfl rfl ?_
    refine tz_getI C dX8_add_8 fl_RX8_15 (by decide) rfl rfl ?_
    refine tz_sipush 200 (by decide) C dX8_add_11 ?_
    refine tz_icmp_lt 18 C dX8_add_14 (by decide) h (fun c_2 h => ?_) (fun c_2 h => ?_)
    · refine tz_aload_n 0 0 C dX8_add_18 rfl rfl ?_
      refine tz_getR C dX8_add_19 fl_RX8_9 (by decide) rfl rfl ?_
      refine tz_aload_n 0 0 C dX8_add_22 rfl rfl ?_
      refine tz_getI C dX8_add_23 fl_RX8_15 (by decide) rfl rfl ?_
      refine tz_iload_n 1 1 C dX8_add_26 rfl rfl ?_
      have hin_4 := h.1
      refine tz_iast C dX8_add_27 (by decide) rfl h (fun σ_3 h => ?_)
      refine tz_aload_n 0 0 C dX8_add_28 rfl rfl ?_
      refine tz_dup C dX8_add_29 rfl ?_
      refine tz_getI C dX8_add_30 fl_RX8_15 (by decide) rfl rfl ?_
      refine tz_iconst 1 (by decide) C dX8_add_33 ?_
      refine tz_iadd C dX8_add_34 ?_
      refine tz_put C dX8_add_35 fp_RX8_15 (by decide) rfl rfl rfl rfl h (fun σ_5 h => ?_)
      exact hret _ _ _ dX8_add_38 h
    · exact hret _ _ _ dX8_add_17 h

def vc_X9_noByte (x0 : Int32) (σ : tzS) (Q : Int32 → tzS → Prop) : Prop :=
  (x0 < 0 →
    Q 1 σ) ∧
  (¬ x0 < 0 →
    (x0 ≤ 255 →
      Q 0 σ) ∧
    (¬ x0 ≤ 255 →
      Q 1 σ))
set_option maxRecDepth 20000 in
set_option maxHeartbeats 4000000 in
theorem m_X9_noByte (G : tzG) (hG : tz_ok G) {x0 : Int32}  {σ : tzS} {Q : Int32 → tzS → Prop} (h : vc_X9_noByte x0 σ Q) : tz_M G yX9_noByte cX9_noByte 1 (some .boolean) 0 0 [.int x0] σ (tz_Qi G Q) := by
  unfold vc_X9_noByte at h
  refine tz_startz hG RX9 [(0, .int x0)] (by decide) rfl (Nat.le_of_ble_eq_true rfl) rfl (fun E C hret => ?_)
  refine tz_iload_n 0 0 C dX9_noByte_0 rfl rfl ?_
  refine tz_if_lt 11 C dX9_noByte_1 (by decide) h (fun c_1 h => ?_) (fun c_1 h => ?_)
  · refine tz_iconst 1 (by decide) C dX9_noByte_11 ?_
    refine tz_goto 16 C dX9_noByte_12 (by decide) ?_
    exact hret _ _ _ _ dX9_noByte_16 rfl h
  · refine tz_iload_n 0 0 C dX9_noByte_4 rfl rfl ?_
    refine tz_sipush 255 (by decide) C dX9_noByte_5 ?_
    refine tz_icmp_le 15 C dX9_noByte_8 (by decide) h (fun c_2 h => ?_) (fun c_2 h => ?_)
    · refine tz_iconst 0 (by decide) C dX9_noByte_15 ?_
      exact hret _ _ _ _ dX9_noByte_16 rfl h
    · refine tz_iconst 1 (by decide) C dX9_noByte_11 ?_
      refine tz_goto 16 C dX9_noByte_12 (by decide) ?_
      exact hret _ _ _ _ dX9_noByte_16 rfl h

def vc_X9_forgetText  (σ : tzS) (Q : tzS → Prop) : Prop :=
  ∀ σ_1 : tzS, σ_1 = tz_st σ 0 12 0 →
  ∀ σ_2 : tzS, σ_2 = tz_st σ_1 0 13 0 →
  ∀ σ_3 : tzS, σ_3 = tz_st σ_2 0 14 0 →
  ∀ σ_4 : tzS, σ_4 = tz_st σ_3 0 15 0 →
  ∀ σ_5 : tzS, σ_5 = tz_st σ_4 0 16 0 →
  Q σ_5
set_option maxRecDepth 20000 in
set_option maxHeartbeats 4000000 in
theorem m_X9_forgetText (G : tzG) (hG : tz_ok G)   {σ : tzS} {Q : tzS → Prop} (h : vc_X9_forgetText  σ Q) : tz_M G yX9_forgetText cX9_forgetText 1 (none) 0 0 [.ref 0] σ (tz_Qv G Q) := by
  unfold vc_X9_forgetText at h
  refine tz_startv hG RX9 [(0, .ref 0)] (by decide) rfl (Nat.le_of_ble_eq_true rfl) rfl (fun E C hret => ?_)
  refine tz_aload_n 0 0 C dX9_forgetText_0 rfl rfl ?_
  refine tz_iconst 0 (by decide) C dX9_forgetText_1 ?_
  refine tz_put C dX9_forgetText_2 fp_RX9_83 (by decide) rfl rfl rfl rfl h (fun σ_1 h => ?_)
  refine tz_aload_n 0 0 C dX9_forgetText_5 rfl rfl ?_
  refine tz_iconst 0 (by decide) C dX9_forgetText_6 ?_
  refine tz_put C dX9_forgetText_7 fp_RX9_87 (by decide) rfl rfl rfl rfl h (fun σ_2 h => ?_)
  refine tz_aload_n 0 0 C dX9_forgetText_10 rfl rfl ?_
  refine tz_iconst 0 (by decide) C dX9_forgetText_11 ?_
  refine tz_put C dX9_forgetText_12 fp_RX9_90 (by decide) rfl rfl rfl rfl h (fun σ_3 h => ?_)
  refine tz_aload_n 0 0 C dX9_forgetText_15 rfl rfl ?_
  refine tz_iconst 0 (by decide) C dX9_forgetText_16 ?_
  refine tz_put C dX9_forgetText_17 fp_RX9_93 (by decide) rfl rfl rfl rfl h (fun σ_4 h => ?_)
  refine tz_aload_n 0 0 C dX9_forgetText_20 rfl rfl ?_
  refine tz_iconst 0 (by decide) C dX9_forgetText_21 ?_
  refine tz_put C dX9_forgetText_22 fp_RX9_96 (by decide) rfl rfl rfl rfl h (fun σ_5 h => ?_)
  exact hret _ _ _ dX9_forgetText_25 h

def vc_X9_type (x1 : Int32) (σ : tzS) (Q : Int32 → tzS → Prop) : Prop :=
  vc_X9_noByte x1 σ (fun (r_2 : Int32) (σ_1 : tzS) =>
    (r_2 = 0 →
      ((σ_1.1 1 1) < 200 →
        vc_X8_add x1 σ_1 (fun (σ_5 : tzS) =>
          vc_X9_forgetText  σ_5 (fun (σ_6 : tzS) =>
            Q (σ_6.1 1 1) σ_6))) ∧
      (¬ (σ_1.1 1 1) < 200 →
        Q (-4) σ_1)) ∧
    (¬ r_2 = 0 →
      Q (-2) σ_1))
set_option maxRecDepth 20000 in
set_option maxHeartbeats 4000000 in
theorem m_X9_type (G : tzG) (hG : tz_ok G) {x1 : Int32}  {σ : tzS} {Q : Int32 → tzS → Prop} (h : vc_X9_type x1 σ Q) : tz_M G yX9_type cX9_type 2 (some .int) 1 21 [.ref 0, .int x1] σ (tz_Qi G Q) := by
  unfold vc_X9_type at h
  refine tz_starti hG RX9 [(0, .ref 0), (1, .int x1)] (by decide) rfl (Nat.le_of_ble_eq_true rfl) rfl (fun E C hret => ?_)
  refine tz_iload_n 1 1 C dX9_type_0 rfl rfl ?_
  refine tz_callis C dX9_type_1 lk_RX9_99 (m_X9_noByte G hG  h) rfl ⟨Nat.le_of_ble_eq_true rfl, Nat.le_of_ble_eq_true rfl⟩ (Nat.le_of_ble_eq_true rfl) rfl (fun r_2 σ_1 h => ?_)
  refine tz_if_eq 10 C dX9_type_4 (by decide) h (fun c_3 h => ?_) (fun c_3 h => ?_)
  · refine tz_aload_n 0 0 C dX9_type_10 rfl rfl ?_
    refine tz_getR C dX9_type_11 fl_RX9_12 (by decide) rfl rfl ?_
    refine tz_getI C dX9_type_14 fl_RX9_103 (by decide) rfl rfl ?_
    refine tz_sipush 200 (by decide) C dX9_type_17 ?_
    refine tz_icmp_lt 26 C dX9_type_20 (by decide) h (fun c_4 h => ?_) (fun c_4 h => ?_)
    · refine tz_aload_n 0 0 C dX9_type_26 rfl rfl ?_
      refine tz_getR C dX9_type_27 fl_RX9_12 (by decide) rfl rfl ?_
      refine tz_iload_n 1 1 C dX9_type_30 rfl rfl ?_
      refine tz_callvv C dX9_type_31 lk_RX9_106 (m_X8_add G hG  h) (by decide) rfl rfl rfl rfl ⟨Nat.le_of_ble_eq_true rfl, Nat.le_of_ble_eq_true rfl⟩ (Nat.le_of_ble_eq_true rfl) rfl (fun σ_5 h => ?_)
      refine tz_aload_n 0 0 C dX9_type_34 rfl rfl ?_
      refine tz_callvv C dX9_type_35 lk_RX9_110 (m_X9_forgetText G hG  h) (by decide) rfl rfl rfl rfl ⟨Nat.le_of_ble_eq_true rfl, Nat.le_of_ble_eq_true rfl⟩ (Nat.le_of_ble_eq_true rfl) rfl (fun σ_6 h => ?_)
      refine tz_aload_n 0 0 C dX9_type_38 rfl rfl ?_
      refine tz_getR C dX9_type_39 fl_RX9_12 (by decide) rfl rfl ?_
      refine tz_getI C dX9_type_42 fl_RX9_103 (by decide) rfl rfl ?_
      exact hret _ _ _ _ dX9_type_45 h
    · refine tz_bipush (-4) (by decide) C dX9_type_23 ?_
      exact hret _ _ _ _ dX9_type_25 h
  · refine tz_bipush (-2) (by decide) C dX9_type_7 ?_
    exact hret _ _ _ _ dX9_type_9 h

def vc_X9_wipe  (σ : tzS) (Q : Int32 → tzS → Prop) : Prop :=
  ∀ x1_1 : Int32, x1_1 = (σ.1 1 1) →
  ∀ σ_2 : tzS, σ_2 = tz_st σ 1 1 0 →
  vc_X9_forgetText  σ_2 (fun (σ_3 : tzS) =>
    Q x1_1 σ_3)
set_option maxRecDepth 20000 in
set_option maxHeartbeats 4000000 in
theorem m_X9_wipe (G : tzG) (hG : tz_ok G)   {σ : tzS} {Q : Int32 → tzS → Prop} (h : vc_X9_wipe  σ Q) : tz_M G yX9_wipe cX9_wipe 2 (some .int) 1 20 [.ref 0] σ (tz_Qi G Q) := by
  unfold vc_X9_wipe at h
  refine tz_starti hG RX9 [(0, .ref 0)] (by decide) rfl (Nat.le_of_ble_eq_true rfl) rfl (fun E C hret => ?_)
  refine tz_aload_n 0 0 C dX9_wipe_0 rfl rfl ?_
  refine tz_getR C dX9_wipe_1 fl_RX9_12 (by decide) rfl rfl ?_
  refine tz_getI C dX9_wipe_4 fl_RX9_103 (by decide) rfl rfl ?_
  refine tz_istore_n 1 [(0, .ref 0)] C dX9_wipe_7 rfl (Nat.le_of_ble_eq_true rfl) rfl h (fun x1_1 h => ?_)
  refine tz_aload_n 0 1 C dX9_wipe_8 rfl rfl ?_
  refine tz_getR C dX9_wipe_9 fl_RX9_12 (by decide) rfl rfl ?_
  refine tz_iconst 0 (by decide) C dX9_wipe_12 ?_
  refine tz_put C dX9_wipe_13 fp_RX9_103 (by decide) rfl rfl rfl rfl h (fun σ_2 h => ?_)
  refine tz_aload_n 0 1 C dX9_wipe_16 rfl rfl ?_
  refine tz_callvv C dX9_wipe_17 lk_RX9_110 (m_X9_forgetText G hG  h) (by decide) rfl rfl rfl rfl ⟨Nat.le_of_ble_eq_true rfl, Nat.le_of_ble_eq_true rfl⟩ (Nat.le_of_ble_eq_true rfl) rfl (fun σ_3 h => ?_)
  refine tz_iload_n 1 0 C dX9_wipe_20 rfl rfl ?_
  exact hret _ _ _ _ dX9_wipe_21 h

def vc_X9_undo  (σ : tzS) (Q : Int32 → tzS → Prop) : Prop :=
  ((0 : Int32) < (σ.1 1 1) →
    ∀ σ_2 : tzS, σ_2 = tz_st σ 1 1 ((σ.1 1 1) - 1) →
    vc_X9_forgetText  σ_2 (fun (σ_3 : tzS) =>
      Q (σ_3.1 1 1) σ_3)) ∧
  (¬ (0 : Int32) < (σ.1 1 1) →
    Q (-3) σ)
set_option maxRecDepth 20000 in
set_option maxHeartbeats 4000000 in
theorem m_X9_undo (G : tzG) (hG : tz_ok G)   {σ : tzS} {Q : Int32 → tzS → Prop} (h : vc_X9_undo  σ Q) : tz_M G yX9_undo cX9_undo 1 (some .int) 1 20 [.ref 0] σ (tz_Qi G Q) := by
  unfold vc_X9_undo at h
  refine tz_starti hG RX9 [(0, .ref 0)] (by decide) rfl (Nat.le_of_ble_eq_true rfl) rfl (fun E C hret => ?_)
  refine tz_aload_n 0 0 C dX9_undo_0 rfl rfl ?_
  refine tz_getR C dX9_undo_1 fl_RX9_12 (by decide) rfl rfl ?_
  refine tz_getI C dX9_undo_4 fl_RX9_103 (by decide) rfl rfl ?_
  refine tz_if_gt 13 C dX9_undo_7 (by decide) h (fun c_1 h => ?_) (fun c_1 h => ?_)
  · refine tz_aload_n 0 0 C dX9_undo_13 rfl rfl ?_
    refine tz_getR C dX9_undo_14 fl_RX9_12 (by decide) rfl rfl ?_
    refine tz_dup C dX9_undo_17 rfl ?_
    refine tz_getI C dX9_undo_18 fl_RX9_103 (by decide) rfl rfl ?_
    refine tz_iconst 1 (by decide) C dX9_undo_21 ?_
    refine tz_isub C dX9_undo_22 ?_
    refine tz_put C dX9_undo_23 fp_RX9_103 (by decide) rfl rfl rfl rfl h (fun σ_2 h => ?_)
    refine tz_aload_n 0 0 C dX9_undo_26 rfl rfl ?_
    refine tz_callvv C dX9_undo_27 lk_RX9_110 (m_X9_forgetText G hG  h) (by decide) rfl rfl rfl rfl ⟨Nat.le_of_ble_eq_true rfl, Nat.le_of_ble_eq_true rfl⟩ (Nat.le_of_ble_eq_true rfl) rfl (fun σ_3 h => ?_)
    refine tz_aload_n 0 0 C dX9_undo_30 rfl rfl ?_
    refine tz_getR C dX9_undo_31 fl_RX9_12 (by decide) rfl rfl ?_
    refine tz_getI C dX9_undo_34 fl_RX9_103 (by decide) rfl rfl ?_
    exact hret _ _ _ _ dX9_undo_37 h
  · refine tz_bipush (-3) (by decide) C dX9_undo_10 ?_
    exact hret _ _ _ _ dX9_undo_12 h

def vc_X9_readText  (σ : tzS) (Q : tzS → Prop) : Prop :=
  ((σ.1 0 12) = 0 →
    vc_X3_seek  σ (fun (σ_2 : tzS) =>
      (¬ (σ_2.1 3 1) = (-1) →
        vc_X6_fill 0 σ_2 (fun (σ_4 : tzS) =>
          ∀ σ_5 : tzS, σ_5 = tz_st σ_4 0 12 1 →
          Q σ_5)) ∧
      ((σ_2.1 3 1) = (-1) →
        vc_X6_fill 1 σ_2 (fun (σ_6 : tzS) =>
          ∀ σ_7 : tzS, σ_7 = tz_st σ_6 0 12 1 →
          Q σ_7)))) ∧
  (¬ (σ.1 0 12) = 0 →
    Q σ)
set_option maxRecDepth 20000 in
set_option maxHeartbeats 4000000 in
theorem m_X9_readText (G : tzG) (hG : tz_ok G)   {σ : tzS} {Q : tzS → Prop} (h : vc_X9_readText  σ Q) : tz_M G yX9_readText cX9_readText 1 (none) 3 79 [.ref 0] σ (tz_Qv G Q) := by
  unfold vc_X9_readText at h
  refine tz_startv hG RX9 [(0, .ref 0)] (by decide) rfl (Nat.le_of_ble_eq_true rfl) rfl (fun E C hret => ?_)
  refine tz_aload_n 0 0 C dX9_readText_0 rfl rfl ?_
  refine tz_getI C dX9_readText_1 fl_RX9_83 (by decide) rfl rfl ?_
  refine tz_if_eq 8 C dX9_readText_4 (by decide) h (fun c_1 h => ?_) (fun c_1 h => ?_)
  · refine tz_aload_n 0 0 C dX9_readText_8 rfl rfl ?_
    refine tz_getR C dX9_readText_9 fl_RX9_19 (by decide) rfl rfl ?_
    refine tz_aload_n 0 0 C dX9_readText_12 rfl rfl ?_
    refine tz_getR C dX9_readText_13 fl_RX9_12 (by decide) rfl rfl ?_
    refine tz_callvv C dX9_readText_16 lk_RX9_366 (m_X3_seek G hG  h) (by decide) rfl rfl rfl rfl ⟨Nat.le_of_ble_eq_true rfl, Nat.le_of_ble_eq_true rfl⟩ (Nat.le_of_ble_eq_true rfl) rfl (fun σ_2 h => ?_)
    refine tz_aload_n 0 0 C dX9_readText_19 rfl rfl ?_
    refine tz_getR C dX9_readText_20 fl_RX9_26 (by decide) rfl rfl ?_
    refine tz_aload_n 0 0 C dX9_readText_23 rfl rfl ?_
    refine tz_getR C dX9_readText_24 fl_RX9_12 (by decide) rfl rfl ?_
    refine tz_aload_n 0 0 C dX9_readText_27 rfl rfl ?_
    refine tz_getR C dX9_readText_28 fl_RX9_19 (by decide) rfl rfl ?_
    refine tz_getI C dX9_readText_31 fl_RX9_119 (by decide) rfl rfl ?_
    refine tz_iconst (-1) (by decide) C dX9_readText_34 ?_
    refine tz_icmp_ne 42 C dX9_readText_35 (by decide) h (fun c_3 h => ?_) (fun c_3 h => ?_)
    · refine tz_iconst 0 (by decide) C dX9_readText_42 ?_
      refine tz_callvv C dX9_readText_43 lk_RX9_370 (m_X6_fill G hG  h) (by decide) rfl rfl rfl rfl ⟨Nat.le_of_ble_eq_true rfl, Nat.le_of_ble_eq_true rfl⟩ (Nat.le_of_ble_eq_true rfl) rfl (fun σ_4 h => ?_)
      refine tz_aload_n 0 0 C dX9_readText_46 rfl rfl ?_
      refine tz_iconst 1 (by decide) C dX9_readText_47 ?_
      refine tz_put C dX9_readText_48 fp_RX9_83 (by decide) rfl rfl rfl rfl h (fun σ_5 h => ?_)
      exact hret _ _ _ dX9_readText_51 h
    · refine tz_iconst 1 (by decide) C dX9_readText_38 ?_
      refine tz_goto 43 C dX9_readText_39 (by decide) ?_
      refine tz_callvv C dX9_readText_43 lk_RX9_370 (m_X6_fill G hG  h) (by decide) rfl rfl rfl rfl ⟨Nat.le_of_ble_eq_true rfl, Nat.le_of_ble_eq_true rfl⟩ (Nat.le_of_ble_eq_true rfl) rfl (fun σ_6 h => ?_)
      refine tz_aload_n 0 0 C dX9_readText_46 rfl rfl ?_
      refine tz_iconst 1 (by decide) C dX9_readText_47 ?_
      refine tz_put C dX9_readText_48 fp_RX9_83 (by decide) rfl rfl rfl rfl h (fun σ_7 h => ?_)
      exact hret _ _ _ dX9_readText_51 h
  · exact hret _ _ _ dX9_readText_7 h

def vc_X9_fault (x1 : Int32) (σ : tzS) (Q : Int32 → tzS → Prop) : Prop :=
  (x1 < 0 →
    Q (-2) σ) ∧
  (¬ x1 < 0 →
    (x1 ≤ 2 →
      vc_X9_readText  σ (fun (σ_3 : tzS) =>
        (¬ x1 = 0 →
          (¬ x1 = 1 →
            Q (σ_3.1 3 2) σ_3) ∧
          (x1 = 1 →
            Q (σ_3.1 3 1) σ_3)) ∧
        (x1 = 0 →
          Q (σ_3.1 3 0) σ_3))) ∧
    (¬ x1 ≤ 2 →
      Q (-2) σ))
set_option maxRecDepth 20000 in
set_option maxHeartbeats 4000000 in
theorem m_X9_fault (G : tzG) (hG : tz_ok G) {x1 : Int32}  {σ : tzS} {Q : Int32 → tzS → Prop} (h : vc_X9_fault x1 σ Q) : tz_M G yX9_fault cX9_fault 2 (some .int) 4 99 [.ref 0, .int x1] σ (tz_Qi G Q) := by
  unfold vc_X9_fault at h
  refine tz_starti hG RX9 [(0, .ref 0), (1, .int x1)] (by decide) rfl (Nat.le_of_ble_eq_true rfl) rfl (fun E C hret => ?_)
  refine tz_iload_n 1 1 C dX9_fault_0 rfl rfl ?_
  refine tz_if_lt 9 C dX9_fault_1 (by decide) h (fun c_1 h => ?_) (fun c_1 h => ?_)
  · refine tz_bipush (-2) (by decide) C dX9_fault_9 ?_
    exact hret _ _ _ _ dX9_fault_11 h
  · refine tz_iload_n 1 1 C dX9_fault_4 rfl rfl ?_
    refine tz_iconst 2 (by decide) C dX9_fault_5 ?_
    refine tz_icmp_le 12 C dX9_fault_6 (by decide) h (fun c_2 h => ?_) (fun c_2 h => ?_)
    · refine tz_aload_n 0 0 C dX9_fault_12 rfl rfl ?_
      refine tz_callvv C dX9_fault_13 lk_RX9_113 (m_X9_readText G hG  h) (by decide) rfl rfl rfl rfl ⟨Nat.le_of_ble_eq_true rfl, Nat.le_of_ble_eq_true rfl⟩ (Nat.le_of_ble_eq_true rfl) rfl (fun σ_3 h => ?_)
      refine tz_iload_n 1 1 C dX9_fault_16 rfl rfl ?_
      refine tz_if_ne 28 C dX9_fault_17 (by decide) h (fun c_4 h => ?_) (fun c_4 h => ?_)
      · refine tz_iload_n 1 1 C dX9_fault_28 rfl rfl ?_
        refine tz_iconst 1 (by decide) C dX9_fault_29 ?_
        refine tz_icmp_ne 43 C dX9_fault_30 (by decide) h (fun c_5 h => ?_) (fun c_5 h => ?_)
        · refine tz_aload_n 0 0 C dX9_fault_43 rfl rfl ?_
          refine tz_getR C dX9_fault_44 fl_RX9_19 (by decide) rfl rfl ?_
          refine tz_getI C dX9_fault_47 fl_RX9_122 (by decide) rfl rfl ?_
          exact hret _ _ _ _ dX9_fault_50 h
        · refine tz_aload_n 0 0 C dX9_fault_33 rfl rfl ?_
          refine tz_getR C dX9_fault_34 fl_RX9_19 (by decide) rfl rfl ?_
          refine tz_getI C dX9_fault_37 fl_RX9_119 (by decide) rfl rfl ?_
          refine tz_goto 50 C dX9_fault_40 (by decide) ?_
          exact hret _ _ _ _ dX9_fault_50 h
      · refine tz_aload_n 0 0 C dX9_fault_20 rfl rfl ?_
        refine tz_getR C dX9_fault_21 fl_RX9_19 (by decide) rfl rfl ?_
        refine tz_getI C dX9_fault_24 fl_RX9_116 (by decide) rfl rfl ?_
        exact hret _ _ _ _ dX9_fault_27 h
    · refine tz_bipush (-2) (by decide) C dX9_fault_9 ?_
      exact hret _ _ _ _ dX9_fault_11 h

def vc_X9_set (x1 : Int32) (x2 : Int32) (σ : tzS) (Q : Int32 → tzS → Prop) : Prop :=
  (x1 < 0 →
    Q (-2) σ) ∧
  (¬ x1 < 0 →
    (x1 ≤ 3 →
      vp_in x1 4 ∧ (
        (x2 < (tz_least x1.toNatClampNeg) →
          Q (-2) σ) ∧
        (¬ x2 < (tz_least x1.toNatClampNeg) →
          (x2 ≤ (tz_most x1.toNatClampNeg) →
            ∀ x3_6 : Int32, x3_6 = (σ.1 132 x1.toNatClampNeg) →
            ∀ σ_7 : tzS, σ_7 = tz_st σ 132 x1.toNatClampNeg x2 →
            (¬ x1 = 2 →
              (¬ x1 = 3 →
                ∀ σ_10 : tzS, σ_10 = tz_st σ_7 0 14 0 →
                ∀ σ_11 : tzS, σ_11 = tz_st σ_10 0 15 0 →
                Q x3_6 σ_11) ∧
              (x1 = 3 →
                ∀ σ_12 : tzS, σ_12 = tz_st σ_7 0 16 0 →
                Q x3_6 σ_12)) ∧
            (x1 = 2 →
              ∀ σ_13 : tzS, σ_13 = tz_st σ_7 0 13 0 →
              Q x3_6 σ_13)) ∧
          (¬ x2 ≤ (tz_most x1.toNatClampNeg) →
            Q (-2) σ)))) ∧
    (¬ x1 ≤ 3 →
      Q (-2) σ))
set_option maxRecDepth 20000 in
set_option maxHeartbeats 4000000 in
theorem m_X9_set (G : tzG) (hG : tz_ok G) {x1 : Int32} {x2 : Int32}  {σ : tzS} {Q : Int32 → tzS → Prop} (h : vc_X9_set x1 x2 σ Q) : tz_M G yX9_set cX9_set 4 (some .int) 0 0 [.ref 0, .int x1, .int x2] σ (tz_Qi G Q) := by
  unfold vc_X9_set at h
  refine tz_starti hG RX9 [(0, .ref 0), (1, .int x1), (2, .int x2)] (by decide) rfl (Nat.le_of_ble_eq_true rfl) rfl (fun E C hret => ?_)
  refine tz_iload_n 1 1 C dX9_set_0 rfl rfl ?_
  refine tz_if_lt 9 C dX9_set_1 (by decide) h (fun c_1 h => ?_) (fun c_1 h => ?_)
  · refine tz_bipush (-2) (by decide) C dX9_set_9 ?_
    exact hret _ _ _ _ dX9_set_11 h
  · refine tz_iload_n 1 1 C dX9_set_4 rfl rfl ?_
    refine tz_iconst 3 (by decide) C dX9_set_5 ?_
    refine tz_icmp_le 12 C dX9_set_6 (by decide) h (fun c_2 h => ?_) (fun c_2 h => ?_)
    · refine tz_iload_n 2 2 C dX9_set_12 rfl rfl ?_
      refine tz_getsL C dX9_set_13 gs_RX9_125 ?_
      refine tz_iload_n 1 1 C dX9_set_16 rfl rfl ?_
      obtain ⟨hin_3, h⟩ := h
      refine tz_tldL C dX9_set_17 hin_3 ?_
      refine tz_icmp_lt 30 C dX9_set_18 (by decide) h (fun c_4 h => ?_) (fun c_4 h => ?_)
      · refine tz_bipush (-2) (by decide) C dX9_set_30 ?_
        exact hret _ _ _ _ dX9_set_32 h
      · refine tz_iload_n 2 2 C dX9_set_21 rfl rfl ?_
        refine tz_getsM C dX9_set_22 gs_RX9_128 ?_
        refine tz_iload_n 1 1 C dX9_set_25 rfl rfl ?_
        refine tz_tldM C dX9_set_26 hin_3 ?_
        refine tz_icmp_le 33 C dX9_set_27 (by decide) h (fun c_5 h => ?_) (fun c_5 h => ?_)
        · refine tz_aload_n 0 0 C dX9_set_33 rfl rfl ?_
          refine tz_getR C dX9_set_34 fl_RX9_72 (by decide) rfl rfl ?_
          refine tz_iload_n 1 1 C dX9_set_37 rfl rfl ?_
          refine tz_iald C dX9_set_38 (by decide) rfl hin_3 ?_
          refine tz_istore_n 3 [(0, .ref 0), (1, .int x1), (2, .int x2)] C dX9_set_39 rfl (Nat.le_of_ble_eq_true rfl) rfl h (fun x3_6 h => ?_)
          refine tz_aload_n 0 1 C dX9_set_40 rfl rfl ?_
          refine tz_getR C dX9_set_41 fl_RX9_72 (by decide) rfl rfl ?_
          refine tz_iload_n 1 2 C dX9_set_44 rfl rfl ?_
          refine tz_iload_n 2 3 C dX9_set_45 rfl rfl ?_
          refine tz_iast_c _ C dX9_set_46 (by decide) rfl hin_3 rfl h (fun σ_7 h => ?_)
          refine tz_iload_n 1 2 C dX9_set_47 rfl rfl ?_
          refine tz_iconst 2 (by decide) C dX9_set_48 ?_
          refine tz_icmp_ne 60 C dX9_set_49 (by decide) h (fun c_8 h => ?_) (fun c_8 h => ?_)
          · refine tz_iload_n 1 2 C dX9_set_60 rfl rfl ?_
            refine tz_iconst 3 (by decide) C dX9_set_61 ?_
            refine tz_icmp_ne 73 C dX9_set_62 (by decide) h (fun c_9 h => ?_) (fun c_9 h => ?_)
            · refine tz_aload_n 0 1 C dX9_set_73 rfl rfl ?_
              refine tz_iconst 0 (by decide) C dX9_set_74 ?_
              refine tz_put C dX9_set_75 fp_RX9_90 (by decide) rfl rfl rfl rfl h (fun σ_10 h => ?_)
              refine tz_aload_n 0 1 C dX9_set_78 rfl rfl ?_
              refine tz_iconst 0 (by decide) C dX9_set_79 ?_
              refine tz_put C dX9_set_80 fp_RX9_93 (by decide) rfl rfl rfl rfl h (fun σ_11 h => ?_)
              refine tz_iload_n 3 0 C dX9_set_83 rfl rfl ?_
              exact hret _ _ _ _ dX9_set_84 h
            · refine tz_aload_n 0 1 C dX9_set_65 rfl rfl ?_
              refine tz_iconst 0 (by decide) C dX9_set_66 ?_
              refine tz_put C dX9_set_67 fp_RX9_96 (by decide) rfl rfl rfl rfl h (fun σ_12 h => ?_)
              refine tz_goto 83 C dX9_set_70 (by decide) ?_
              refine tz_iload_n 3 0 C dX9_set_83 rfl rfl ?_
              exact hret _ _ _ _ dX9_set_84 h
          · refine tz_aload_n 0 1 C dX9_set_52 rfl rfl ?_
            refine tz_iconst 0 (by decide) C dX9_set_53 ?_
            refine tz_put C dX9_set_54 fp_RX9_87 (by decide) rfl rfl rfl rfl h (fun σ_13 h => ?_)
            refine tz_goto 83 C dX9_set_57 (by decide) ?_
            refine tz_iload_n 3 0 C dX9_set_83 rfl rfl ?_
            exact hret _ _ _ _ dX9_set_84 h
        · refine tz_bipush (-2) (by decide) C dX9_set_30 ?_
          exact hret _ _ _ _ dX9_set_32 h
    · refine tz_bipush (-2) (by decide) C dX9_set_9 ?_
      exact hret _ _ _ _ dX9_set_11 h

def vc_X9_tell (x1 : Int32) (σ : tzS) (Q : Int32 → tzS → Prop) : Prop :=
  ((x1 &&& (-4095)) = 0 →
    ∀ x2_2 : Int32, x2_2 = (σ.1 0 10) →
    ∀ σ_3 : tzS, σ_3 = tz_st σ 0 10 x1 →
    Q x2_2 σ_3) ∧
  (¬ (x1 &&& (-4095)) = 0 →
    Q (-2) σ)
set_option maxRecDepth 20000 in
set_option maxHeartbeats 4000000 in
theorem m_X9_tell (G : tzG) (hG : tz_ok G) {x1 : Int32}  {σ : tzS} {Q : Int32 → tzS → Prop} (h : vc_X9_tell x1 σ Q) : tz_M G yX9_tell cX9_tell 3 (some .int) 0 0 [.ref 0, .int x1] σ (tz_Qi G Q) := by
  unfold vc_X9_tell at h
  refine tz_starti hG RX9 [(0, .ref 0), (1, .int x1)] (by decide) rfl (Nat.le_of_ble_eq_true rfl) rfl (fun E C hret => ?_)
  refine tz_iload_n 1 1 C dX9_tell_0 rfl rfl ?_
  refine tz_sipush (-4095) (by decide) C dX9_tell_1 ?_
  refine tz_iand C dX9_tell_4 ?_
  refine tz_if_eq 11 C dX9_tell_5 (by decide) h (fun c_1 h => ?_) (fun c_1 h => ?_)
  · refine tz_aload_n 0 0 C dX9_tell_11 rfl rfl ?_
    refine tz_getI C dX9_tell_12 fl_RX9_76 (by decide) rfl rfl ?_
    refine tz_istore_n 2 [(0, .ref 0), (1, .int x1)] C dX9_tell_15 rfl (Nat.le_of_ble_eq_true rfl) rfl h (fun x2_2 h => ?_)
    refine tz_aload_n 0 1 C dX9_tell_16 rfl rfl ?_
    refine tz_iload_n 1 2 C dX9_tell_17 rfl rfl ?_
    refine tz_put C dX9_tell_18 fp_RX9_76 (by decide) rfl rfl rfl rfl h (fun σ_3 h => ?_)
    refine tz_iload_n 2 0 C dX9_tell_21 rfl rfl ?_
    exact hret _ _ _ _ dX9_tell_22 h
  · refine tz_bipush (-2) (by decide) C dX9_tell_8 ?_
    exact hret _ _ _ _ dX9_tell_10 h

def vc_X9_noSheet (x0 : Int32) (σ : tzS) (Q : Int32 → tzS → Prop) : Prop :=
  (x0 < 0 →
    Q 1 σ) ∧
  (¬ x0 < 0 →
    (x0 < 4 →
      Q 0 σ) ∧
    (¬ x0 < 4 →
      Q 1 σ))
set_option maxRecDepth 20000 in
set_option maxHeartbeats 4000000 in
theorem m_X9_noSheet (G : tzG) (hG : tz_ok G) {x0 : Int32}  {σ : tzS} {Q : Int32 → tzS → Prop} (h : vc_X9_noSheet x0 σ Q) : tz_M G yX9_noSheet cX9_noSheet 1 (some .boolean) 0 0 [.int x0] σ (tz_Qi G Q) := by
  unfold vc_X9_noSheet at h
  refine tz_startz hG RX9 [(0, .int x0)] (by decide) rfl (Nat.le_of_ble_eq_true rfl) rfl (fun E C hret => ?_)
  refine tz_iload_n 0 0 C dX9_noSheet_0 rfl rfl ?_
  refine tz_if_lt 9 C dX9_noSheet_1 (by decide) h (fun c_1 h => ?_) (fun c_1 h => ?_)
  · refine tz_iconst 1 (by decide) C dX9_noSheet_9 ?_
    refine tz_goto 14 C dX9_noSheet_10 (by decide) ?_
    exact hret _ _ _ _ dX9_noSheet_14 rfl h
  · refine tz_iload_n 0 0 C dX9_noSheet_4 rfl rfl ?_
    refine tz_iconst 4 (by decide) C dX9_noSheet_5 ?_
    refine tz_icmp_lt 13 C dX9_noSheet_6 (by decide) h (fun c_2 h => ?_) (fun c_2 h => ?_)
    · refine tz_iconst 0 (by decide) C dX9_noSheet_13 ?_
      exact hret _ _ _ _ dX9_noSheet_14 rfl h
    · refine tz_iconst 1 (by decide) C dX9_noSheet_9 ?_
      refine tz_goto 14 C dX9_noSheet_10 (by decide) ?_
      exact hret _ _ _ _ dX9_noSheet_14 rfl h

def vc_X9_leadingBytes (x1 : Int32) (σ : tzS) (Q : Int32 → tzS → Prop) : Prop :=
  tz_loop1 (fun (x2_3 : Int32) (σ_2 : tzS) (ag_1 : Int32 → tzS → Prop) =>
    vp_in x1 4 ∧ (
      ((σ_2.1 126 x1.toNatClampNeg) ≤ x2_3 →
        Q x2_3 σ_2) ∧
      (¬ (σ_2.1 126 x1.toNatClampNeg) ≤ x2_3 →
        vc_X7_item x1 x2_3 σ_2 (fun (r_7 : Int32) (σ_6 : tzS) =>
          vc_X9_noByte r_7 σ_6 (fun (r_9 : Int32) (σ_8 : tzS) =>
            (¬ r_9 = 0 →
              Q x2_3 σ_8) ∧
            (r_9 = 0 →
              ∀ x2_11 : Int32, x2_11 = x2_3 + 1 →
              ag_1 x2_11 σ_8)))))) (0 : Int32) σ
set_option maxRecDepth 20000 in
set_option maxHeartbeats 4000000 in
theorem m_X9_leadingBytes (G : tzG) (hG : tz_ok G) {x1 : Int32}  {σ : tzS} {Q : Int32 → tzS → Prop} (h : vc_X9_leadingBytes x1 σ Q) : tz_M G yX9_leadingBytes cX9_leadingBytes 3 (some .int) 1 22 [.ref 0, .int x1] σ (tz_Qi G Q) := by
  unfold vc_X9_leadingBytes at h
  refine tz_starti hG RX9 [(0, .ref 0), (1, .int x1)] (by decide) rfl (Nat.le_of_ble_eq_true rfl) rfl (fun E C hret => ?_)
  refine tz_iconst 0 (by decide) C dX9_leadingBytes_0 ?_
  refine tz_istore_n_k 2 [(0, .ref 0), (1, .int x1)] C dX9_leadingBytes_1 rfl (Nat.le_of_ble_eq_true rfl) rfl ?_
  refine tz_sub (L := [(0, .ref 0), (1, .int x1), (2, .int 0)]) ?_ [1, 2, 0] rfl
  refine tz_loop1_w (V := fun (x2_3 : Int32) (σ_2 : tzS) => tz_V G E 2 [(0, .ref 0), (1, .int x1), (2, .int x2_3)] [] σ_2) h (fun ag_1 ihag_1 x2_3 σ_2 h => ?_)
  refine tz_iload_n 2 2 C dX9_leadingBytes_2 rfl rfl ?_
  refine tz_aload_n 0 0 C dX9_leadingBytes_3 rfl rfl ?_
  refine tz_getR C dX9_leadingBytes_4 fl_RX9_68 (by decide) rfl rfl ?_
  refine tz_getR C dX9_leadingBytes_7 fl_RX9_276 (by decide) rfl rfl ?_
  refine tz_iload_n 1 1 C dX9_leadingBytes_10 rfl rfl ?_
  obtain ⟨hin_4, h⟩ := h
  refine tz_iald C dX9_leadingBytes_11 (by decide) rfl hin_4 ?_
  refine tz_icmp_ge 36 C dX9_leadingBytes_12 (by decide) h (fun c_5 h => ?_) (fun c_5 h => ?_)
  · refine tz_iload_n 2 2 C dX9_leadingBytes_36 rfl rfl ?_
    exact hret _ _ _ _ dX9_leadingBytes_37 h
  · refine tz_aload_n 0 0 C dX9_leadingBytes_15 rfl rfl ?_
    refine tz_getR C dX9_leadingBytes_16 fl_RX9_68 (by decide) rfl rfl ?_
    refine tz_iload_n 1 1 C dX9_leadingBytes_19 rfl rfl ?_
    refine tz_iload_n 2 2 C dX9_leadingBytes_20 rfl rfl ?_
    refine tz_calliv C dX9_leadingBytes_21 lk_RX9_150 (m_X7_item G hG  h) (by decide) rfl rfl rfl rfl ⟨Nat.le_of_ble_eq_true rfl, Nat.le_of_ble_eq_true rfl⟩ (Nat.le_of_ble_eq_true rfl) rfl (fun r_7 σ_6 h => ?_)
    refine tz_callis C dX9_leadingBytes_24 lk_RX9_99 (m_X9_noByte G hG  h) rfl ⟨Nat.le_of_ble_eq_true rfl, Nat.le_of_ble_eq_true rfl⟩ (Nat.le_of_ble_eq_true rfl) rfl (fun r_9 σ_8 h => ?_)
    refine tz_if_ne 36 C dX9_leadingBytes_27 (by decide) h (fun c_10 h => ?_) (fun c_10 h => ?_)
    · refine tz_iload_n 2 2 C dX9_leadingBytes_36 rfl rfl ?_
      exact hret _ _ _ _ dX9_leadingBytes_37 h
    · refine tz_iinc 2 [(0, .ref 0), (1, .int x1)] 1 C dX9_leadingBytes_30 (by decide) rfl (Nat.le_of_ble_eq_true rfl) rfl h (fun x2_11 h => ?_)
      refine tz_goto 2 C dX9_leadingBytes_33 (by decide) ?_
      exact tz_sub (ihag_1 _ _ h) [1, 2, 0] rfl

def vc_X9_finding (x1 : Int32) (σ : tzS) (Q : Int32 → tzS → Prop) : Prop :=
  ∀ σ_1 : tzS, σ_1 = tz_st σ 0 11 x1 →
  Q ((-10) - x1) σ_1
set_option maxRecDepth 20000 in
set_option maxHeartbeats 4000000 in
theorem m_X9_finding (G : tzG) (hG : tz_ok G) {x1 : Int32}  {σ : tzS} {Q : Int32 → tzS → Prop} (h : vc_X9_finding x1 σ Q) : tz_M G yX9_finding cX9_finding 2 (some .int) 0 0 [.ref 0, .int x1] σ (tz_Qi G Q) := by
  unfold vc_X9_finding at h
  refine tz_starti hG RX9 [(0, .ref 0), (1, .int x1)] (by decide) rfl (Nat.le_of_ble_eq_true rfl) rfl (fun E C hret => ?_)
  refine tz_aload_n 0 0 C dX9_finding_0 rfl rfl ?_
  refine tz_iload_n 1 1 C dX9_finding_1 rfl rfl ?_
  refine tz_put C dX9_finding_2 fp_RX9_80 (by decide) rfl rfl rfl rfl h (fun σ_1 h => ?_)
  refine tz_bipush (-10) (by decide) C dX9_finding_5 ?_
  refine tz_iload_n 1 1 C dX9_finding_7 rfl rfl ?_
  refine tz_isub C dX9_finding_8 ?_
  exact hret _ _ _ _ dX9_finding_9 h

def vc_X9_read (x1 : Int32) (σ : tzS) (Q : Int32 → tzS → Prop) : Prop :=
  vc_X9_noSheet x1 σ (fun (r_2 : Int32) (σ_1 : tzS) =>
    (r_2 = 0 →
      vc_X7_isLost x1 σ_1 (fun (r_5 : Int32) (σ_4 : tzS) =>
        (r_5 = 0 →
          vc_X9_leadingBytes x1 σ_4 (fun (r_8 : Int32) (σ_7 : tzS) =>
            ∀ x2_9 : Int32, x2_9 = (if (200 - (σ_7.1 1 1)) < r_8 then (200 - (σ_7.1 1 1)) else r_8) →
            tz_loop1 (fun (x3_12 : Int32) (σ_11 : tzS) (ag_10 : Int32 → tzS → Prop) =>
              (x2_9 ≤ x3_12 →
                vc_X9_forgetText  σ_11 (fun (σ_14 : tzS) =>
                  Q x2_9 σ_14)) ∧
              (¬ x2_9 ≤ x3_12 →
                vc_X7_item x1 x3_12 σ_11 (fun (r_16 : Int32) (σ_15 : tzS) =>
                  vc_X8_add r_16 σ_15 (fun (σ_17 : tzS) =>
                    ∀ x3_18 : Int32, x3_18 = x3_12 + 1 →
                    ag_10 x3_18 σ_17)))) (0 : Int32) σ_7)) ∧
        (¬ r_5 = 0 →
          vc_X9_finding 1 σ_4 (fun (r_20 : Int32) (σ_19 : tzS) =>
            Q r_20 σ_19)))) ∧
    (¬ r_2 = 0 →
      Q (-2) σ_1))
set_option maxRecDepth 20000 in
set_option maxHeartbeats 4000000 in
theorem m_X9_read (G : tzG) (hG : tz_ok G) {x1 : Int32}  {σ : tzS} {Q : Int32 → tzS → Prop} (h : vc_X9_read x1 σ Q) : tz_M G yX9_read cX9_read 4 (some .int) 2 44 [.ref 0, .int x1] σ (tz_Qi G Q) := by
  unfold vc_X9_read at h
  refine tz_starti hG RX9 [(0, .ref 0), (1, .int x1)] (by decide) rfl (Nat.le_of_ble_eq_true rfl) rfl (fun E C hret => ?_)
  refine tz_iload_n 1 1 C dX9_read_0 rfl rfl ?_
  refine tz_callis C dX9_read_1 lk_RX9_131 (m_X9_noSheet G hG  h) rfl ⟨Nat.le_of_ble_eq_true rfl, Nat.le_of_ble_eq_true rfl⟩ (Nat.le_of_ble_eq_true rfl) rfl (fun r_2 σ_1 h => ?_)
  refine tz_if_eq 10 C dX9_read_4 (by decide) h (fun c_3 h => ?_) (fun c_3 h => ?_)
  · refine tz_aload_n 0 0 C dX9_read_10 rfl rfl ?_
    refine tz_getR C dX9_read_11 fl_RX9_68 (by decide) rfl rfl ?_
    refine tz_iload_n 1 1 C dX9_read_14 rfl rfl ?_
    refine tz_calliv C dX9_read_15 lk_RX9_134 (m_X7_isLost G hG  h) (by decide) rfl rfl rfl rfl ⟨Nat.le_of_ble_eq_true rfl, Nat.le_of_ble_eq_true rfl⟩ (Nat.le_of_ble_eq_true rfl) rfl (fun r_5 σ_4 h => ?_)
    refine tz_if_eq 27 C dX9_read_18 (by decide) h (fun c_6 h => ?_) (fun c_6 h => ?_)
    · refine tz_aload_n 0 0 C dX9_read_27 rfl rfl ?_
      refine tz_iload_n 1 1 C dX9_read_28 rfl rfl ?_
      refine tz_calliv C dX9_read_29 lk_RX9_141 (m_X9_leadingBytes G hG  h) (by decide) rfl rfl rfl rfl ⟨Nat.le_of_ble_eq_true rfl, Nat.le_of_ble_eq_true rfl⟩ (Nat.le_of_ble_eq_true rfl) rfl (fun r_8 σ_7 h => ?_)
      refine tz_sipush 200 (by decide) C dX9_read_32 ?_
      refine tz_aload_n 0 0 C dX9_read_35 rfl rfl ?_
      refine tz_getR C dX9_read_36 fl_RX9_12 (by decide) rfl rfl ?_
      refine tz_getI C dX9_read_39 fl_RX9_103 (by decide) rfl rfl ?_
      refine tz_isub C dX9_read_42 ?_
      refine tz_mmin C dX9_read_43 mk_RX9_144 mk_st_min mk_ini mk_co_min ⟨Nat.le_of_ble_eq_true rfl, Nat.le_of_ble_eq_true rfl⟩ ?_
      refine tz_istore_n 2 [(0, .ref 0), (1, .int x1)] C dX9_read_46 rfl (Nat.le_of_ble_eq_true rfl) rfl h (fun x2_9 h => ?_)
      refine tz_iconst 0 (by decide) C dX9_read_47 ?_
      refine tz_istore_n_k 3 [(2, .int x2_9), (0, .ref 0), (1, .int x1)] C dX9_read_48 rfl (Nat.le_of_ble_eq_true rfl) rfl ?_
      refine tz_sub (L := [(0, .ref 0), (1, .int x1), (2, .int x2_9), (3, .int 0)]) ?_ [2, 3, 1, 0] rfl
      refine tz_loop1_w (V := fun (x3_12 : Int32) (σ_11 : tzS) => tz_V G E 49 [(0, .ref 0), (1, .int x1), (2, .int x2_9), (3, .int x3_12)] [] σ_11) h (fun ag_10 ihag_10 x3_12 σ_11 h => ?_)
      refine tz_iload_n 3 3 C dX9_read_49 rfl rfl ?_
      refine tz_iload_n 2 2 C dX9_read_50 rfl rfl ?_
      refine tz_icmp_ge 76 C dX9_read_51 (by decide) h (fun c_13 h => ?_) (fun c_13 h => ?_)
      · refine tz_aload_n 0 0 C dX9_read_76 rfl rfl ?_
        refine tz_callvv C dX9_read_77 lk_RX9_110 (m_X9_forgetText G hG  h) (by decide) rfl rfl rfl rfl ⟨Nat.le_of_ble_eq_true rfl, Nat.le_of_ble_eq_true rfl⟩ (Nat.le_of_ble_eq_true rfl) rfl (fun σ_14 h => ?_)
        refine tz_iload_n 2 2 C dX9_read_80 rfl rfl ?_
        exact hret _ _ _ _ dX9_read_81 h
      · refine tz_aload_n 0 0 C dX9_read_54 rfl rfl ?_
        refine tz_getR C dX9_read_55 fl_RX9_12 (by decide) rfl rfl ?_
        refine tz_aload_n 0 0 C dX9_read_58 rfl rfl ?_
        refine tz_getR C dX9_read_59 fl_RX9_68 (by decide) rfl rfl ?_
        refine tz_iload_n 1 1 C dX9_read_62 rfl rfl ?_
        refine tz_iload_n 3 3 C dX9_read_63 rfl rfl ?_
        refine tz_calliv C dX9_read_64 lk_RX9_150 (m_X7_item G hG  h) (by decide) rfl rfl rfl rfl ⟨Nat.le_of_ble_eq_true rfl, Nat.le_of_ble_eq_true rfl⟩ (Nat.le_of_ble_eq_true rfl) rfl (fun r_16 σ_15 h => ?_)
        refine tz_callvv C dX9_read_67 lk_RX9_106 (m_X8_add G hG  h) (by decide) rfl rfl rfl rfl ⟨Nat.le_of_ble_eq_true rfl, Nat.le_of_ble_eq_true rfl⟩ (Nat.le_of_ble_eq_true rfl) rfl (fun σ_17 h => ?_)
        refine tz_iinc 3 [(0, .ref 0), (1, .int x1), (2, .int x2_9)] 1 C dX9_read_70 (by decide) rfl (Nat.le_of_ble_eq_true rfl) rfl h (fun x3_18 h => ?_)
        refine tz_goto 49 C dX9_read_73 (by decide) ?_
        exact tz_sub (ihag_10 _ _ h) [1, 2, 3, 0] rfl
    · refine tz_aload_n 0 0 C dX9_read_21 rfl rfl ?_
      refine tz_iconst 1 (by decide) C dX9_read_22 ?_
      refine tz_calliv C dX9_read_23 lk_RX9_137 (m_X9_finding G hG  h) (by decide) rfl rfl rfl rfl ⟨Nat.le_of_ble_eq_true rfl, Nat.le_of_ble_eq_true rfl⟩ (Nat.le_of_ble_eq_true rfl) rfl (fun r_20 σ_19 h => ?_)
      exact hret _ _ _ _ dX9_read_26 h
  · refine tz_bipush (-2) (by decide) C dX9_read_7 ?_
    exact hret _ _ _ _ dX9_read_9 h

def vc_X9_noSentence (x1 : Int32) (σ : tzS) (Q : Int32 → tzS → Prop) : Prop :=
  (x1 < 0 →
    Q 1 σ) ∧
  (¬ x1 < 0 →
    (x1 < (σ.1 4 0) →
      Q 0 σ) ∧
    (¬ x1 < (σ.1 4 0) →
      Q 1 σ))
set_option maxRecDepth 20000 in
set_option maxHeartbeats 4000000 in
theorem m_X9_noSentence (G : tzG) (hG : tz_ok G) {x1 : Int32}  {σ : tzS} {Q : Int32 → tzS → Prop} (h : vc_X9_noSentence x1 σ Q) : tz_M G yX9_noSentence cX9_noSentence 2 (some .boolean) 0 0 [.ref 0, .int x1] σ (tz_Qi G Q) := by
  unfold vc_X9_noSentence at h
  refine tz_startz hG RX9 [(0, .ref 0), (1, .int x1)] (by decide) rfl (Nat.le_of_ble_eq_true rfl) rfl (fun E C hret => ?_)
  refine tz_iload_n 1 1 C dX9_noSentence_0 rfl rfl ?_
  refine tz_if_lt 15 C dX9_noSentence_1 (by decide) h (fun c_1 h => ?_) (fun c_1 h => ?_)
  · refine tz_iconst 1 (by decide) C dX9_noSentence_15 ?_
    refine tz_goto 20 C dX9_noSentence_16 (by decide) ?_
    exact hret _ _ _ _ dX9_noSentence_20 rfl h
  · refine tz_iload_n 1 1 C dX9_noSentence_4 rfl rfl ?_
    refine tz_aload_n 0 0 C dX9_noSentence_5 rfl rfl ?_
    refine tz_getR C dX9_noSentence_6 fl_RX9_26 (by decide) rfl rfl ?_
    refine tz_getI C dX9_noSentence_9 fl_RX9_214 (by decide) rfl rfl ?_
    refine tz_icmp_lt 19 C dX9_noSentence_12 (by decide) h (fun c_2 h => ?_) (fun c_2 h => ?_)
    · refine tz_iconst 0 (by decide) C dX9_noSentence_19 ?_
      exact hret _ _ _ _ dX9_noSentence_20 rfl h
    · refine tz_iconst 1 (by decide) C dX9_noSentence_15 ?_
      refine tz_goto 20 C dX9_noSentence_16 (by decide) ?_
      exact hret _ _ _ _ dX9_noSentence_20 rfl h

def vc_X9_sentence (x1 : Int32) (x2 : Int32) (σ : tzS) (Q : Int32 → tzS → Prop) : Prop :=
  vc_X9_readText  σ (fun (σ_1 : tzS) =>
    vc_X9_noSentence x1 σ_1 (fun (r_3 : Int32) (σ_2 : tzS) =>
      (¬ r_3 = 0 →
        Q (-2) σ_2) ∧
      (r_3 = 0 →
        (x2 < 0 →
          Q (-2) σ_2) ∧
        (¬ x2 < 0 →
          (x2 ≤ 3 →
            (¬ x2 = 0 →
              (¬ x2 = 1 →
                (¬ x2 = 2 →
                  vp_in x1 12 ∧ (
                    Q (σ_2.1 5 x1.toNatClampNeg) σ_2)) ∧
                (x2 = 2 →
                  vc_X6_onceIn x1 σ_2 (fun (r_12 : Int32) (σ_11 : tzS) =>
                    Q r_12 σ_11))) ∧
              (x2 = 1 →
                vc_X6_unlikeIn x1 σ_2 (fun (r_14 : Int32) (σ_13 : tzS) =>
                  Q r_14 σ_13))) ∧
            (x2 = 0 →
              vp_in x1 12 ∧ (
                Q (σ_2.1 6 x1.toNatClampNeg) σ_2))) ∧
          (¬ x2 ≤ 3 →
            Q (-2) σ_2)))))
set_option maxRecDepth 20000 in
set_option maxHeartbeats 4000000 in
theorem m_X9_sentence (G : tzG) (hG : tz_ok G) {x1 : Int32} {x2 : Int32}  {σ : tzS} {Q : Int32 → tzS → Prop} (h : vc_X9_sentence x1 x2 σ Q) : tz_M G yX9_sentence cX9_sentence 3 (some .int) 4 99 [.ref 0, .int x1, .int x2] σ (tz_Qi G Q) := by
  unfold vc_X9_sentence at h
  refine tz_starti hG RX9 [(0, .ref 0), (1, .int x1), (2, .int x2)] (by decide) rfl (Nat.le_of_ble_eq_true rfl) rfl (fun E C hret => ?_)
  refine tz_aload_n 0 0 C dX9_sentence_0 rfl rfl ?_
  refine tz_callvv C dX9_sentence_1 lk_RX9_113 (m_X9_readText G hG  h) (by decide) rfl rfl rfl rfl ⟨Nat.le_of_ble_eq_true rfl, Nat.le_of_ble_eq_true rfl⟩ (Nat.le_of_ble_eq_true rfl) rfl (fun σ_1 h => ?_)
  refine tz_aload_n 0 0 C dX9_sentence_4 rfl rfl ?_
  refine tz_iload_n 1 1 C dX9_sentence_5 rfl rfl ?_
  refine tz_calliv C dX9_sentence_6 lk_RX9_153 (m_X9_noSentence G hG  h) (by decide) rfl rfl rfl rfl ⟨Nat.le_of_ble_eq_true rfl, Nat.le_of_ble_eq_true rfl⟩ (Nat.le_of_ble_eq_true rfl) rfl (fun r_3 σ_2 h => ?_)
  refine tz_if_ne 21 C dX9_sentence_9 (by decide) h (fun c_4 h => ?_) (fun c_4 h => ?_)
  · refine tz_bipush (-2) (by decide) C dX9_sentence_21 ?_
    exact hret _ _ _ _ dX9_sentence_23 h
  · refine tz_iload_n 2 2 C dX9_sentence_12 rfl rfl ?_
    refine tz_if_lt 21 C dX9_sentence_13 (by decide) h (fun c_5 h => ?_) (fun c_5 h => ?_)
    · refine tz_bipush (-2) (by decide) C dX9_sentence_21 ?_
      exact hret _ _ _ _ dX9_sentence_23 h
    · refine tz_iload_n 2 2 C dX9_sentence_16 rfl rfl ?_
      refine tz_iconst 3 (by decide) C dX9_sentence_17 ?_
      refine tz_icmp_le 24 C dX9_sentence_18 (by decide) h (fun c_6 h => ?_) (fun c_6 h => ?_)
      · refine tz_iload_n 2 2 C dX9_sentence_24 rfl rfl ?_
        refine tz_if_ne 38 C dX9_sentence_25 (by decide) h (fun c_7 h => ?_) (fun c_7 h => ?_)
        · refine tz_iload_n 2 2 C dX9_sentence_38 rfl rfl ?_
          refine tz_iconst 1 (by decide) C dX9_sentence_39 ?_
          refine tz_icmp_ne 52 C dX9_sentence_40 (by decide) h (fun c_8 h => ?_) (fun c_8 h => ?_)
          · refine tz_iload_n 2 2 C dX9_sentence_52 rfl rfl ?_
            refine tz_iconst 2 (by decide) C dX9_sentence_53 ?_
            refine tz_icmp_ne 68 C dX9_sentence_54 (by decide) h (fun c_9 h => ?_) (fun c_9 h => ?_)
            · refine tz_aload_n 0 0 C dX9_sentence_68 rfl rfl ?_
              refine tz_getR C dX9_sentence_69 fl_RX9_26 (by decide) rfl rfl ?_
              refine tz_getR C dX9_sentence_72 fl_RX9_165 (by decide) rfl rfl ?_
              refine tz_iload_n 1 1 C dX9_sentence_75 rfl rfl ?_
              obtain ⟨hin_10, h⟩ := h
              refine tz_iald C dX9_sentence_76 (by decide) rfl hin_10 ?_
              exact hret _ _ _ _ dX9_sentence_77 h
            · refine tz_aload_n 0 0 C dX9_sentence_57 rfl rfl ?_
              refine tz_getR C dX9_sentence_58 fl_RX9_26 (by decide) rfl rfl ?_
              refine tz_iload_n 1 1 C dX9_sentence_61 rfl rfl ?_
              refine tz_calliv C dX9_sentence_62 lk_RX9_162 (m_X6_onceIn G hG  h) (by decide) rfl rfl rfl rfl ⟨Nat.le_of_ble_eq_true rfl, Nat.le_of_ble_eq_true rfl⟩ (Nat.le_of_ble_eq_true rfl) rfl (fun r_12 σ_11 h => ?_)
              refine tz_goto 77 C dX9_sentence_65 (by decide) ?_
              exact hret _ _ _ _ dX9_sentence_77 h
          · refine tz_aload_n 0 0 C dX9_sentence_43 rfl rfl ?_
            refine tz_getR C dX9_sentence_44 fl_RX9_26 (by decide) rfl rfl ?_
            refine tz_iload_n 1 1 C dX9_sentence_47 rfl rfl ?_
            refine tz_calliv C dX9_sentence_48 lk_RX9_159 (m_X6_unlikeIn G hG  h) (by decide) rfl rfl rfl rfl ⟨Nat.le_of_ble_eq_true rfl, Nat.le_of_ble_eq_true rfl⟩ (Nat.le_of_ble_eq_true rfl) rfl (fun r_14 σ_13 h => ?_)
            exact hret _ _ _ _ dX9_sentence_51 h
        · refine tz_aload_n 0 0 C dX9_sentence_28 rfl rfl ?_
          refine tz_getR C dX9_sentence_29 fl_RX9_26 (by decide) rfl rfl ?_
          refine tz_getR C dX9_sentence_32 fl_RX9_156 (by decide) rfl rfl ?_
          refine tz_iload_n 1 1 C dX9_sentence_35 rfl rfl ?_
          obtain ⟨hin_15, h⟩ := h
          refine tz_iald C dX9_sentence_36 (by decide) rfl hin_15 ?_
          exact hret _ _ _ _ dX9_sentence_37 h
      · refine tz_bipush (-2) (by decide) C dX9_sentence_21 ?_
        exact hret _ _ _ _ dX9_sentence_23 h

def vc_X9_word (x1 : Int32) (x2 : Int32) (σ : tzS) (Q : Int32 → tzS → Prop) : Prop :=
  vc_X9_readText  σ (fun (σ_1 : tzS) =>
    vc_X9_noSentence x1 σ_1 (fun (r_3 : Int32) (σ_2 : tzS) =>
      (r_3 = 0 →
        (x2 < 0 →
          Q (-2) σ_2) ∧
        (¬ x2 < 0 →
          vp_in x1 12 ∧ (
            (x2 < (σ_2.1 6 x1.toNatClampNeg) →
              vp_in x2 9 ∧ (
                Q (σ_2.1 (8 + x1.toNatClampNeg) x2.toNatClampNeg) σ_2)) ∧
            (¬ x2 < (σ_2.1 6 x1.toNatClampNeg) →
              Q (-2) σ_2)))) ∧
      (¬ r_3 = 0 →
        Q (-2) σ_2)))
set_option maxRecDepth 20000 in
set_option maxHeartbeats 4000000 in
theorem m_X9_word (G : tzG) (hG : tz_ok G) {x1 : Int32} {x2 : Int32}  {σ : tzS} {Q : Int32 → tzS → Prop} (h : vc_X9_word x1 x2 σ Q) : tz_M G yX9_word cX9_word 3 (some .int) 4 99 [.ref 0, .int x1, .int x2] σ (tz_Qi G Q) := by
  unfold vc_X9_word at h
  refine tz_starti hG RX9 [(0, .ref 0), (1, .int x1), (2, .int x2)] (by decide) rfl (Nat.le_of_ble_eq_true rfl) rfl (fun E C hret => ?_)
  refine tz_aload_n 0 0 C dX9_word_0 rfl rfl ?_
  refine tz_callvv C dX9_word_1 lk_RX9_113 (m_X9_readText G hG  h) (by decide) rfl rfl rfl rfl ⟨Nat.le_of_ble_eq_true rfl, Nat.le_of_ble_eq_true rfl⟩ (Nat.le_of_ble_eq_true rfl) rfl (fun σ_1 h => ?_)
  refine tz_aload_n 0 0 C dX9_word_4 rfl rfl ?_
  refine tz_iload_n 1 1 C dX9_word_5 rfl rfl ?_
  refine tz_calliv C dX9_word_6 lk_RX9_153 (m_X9_noSentence G hG  h) (by decide) rfl rfl rfl rfl ⟨Nat.le_of_ble_eq_true rfl, Nat.le_of_ble_eq_true rfl⟩ (Nat.le_of_ble_eq_true rfl) rfl (fun r_3 σ_2 h => ?_)
  refine tz_if_eq 15 C dX9_word_9 (by decide) h (fun c_4 h => ?_) (fun c_4 h => ?_)
  · refine tz_iload_n 2 2 C dX9_word_15 rfl rfl ?_
    refine tz_if_lt 32 C dX9_word_16 (by decide) h (fun c_5 h => ?_) (fun c_5 h => ?_)
    · refine tz_bipush (-2) (by decide) C dX9_word_32 ?_
      exact hret _ _ _ _ dX9_word_34 h
    · refine tz_iload_n 2 2 C dX9_word_19 rfl rfl ?_
      refine tz_aload_n 0 0 C dX9_word_20 rfl rfl ?_
      refine tz_getR C dX9_word_21 fl_RX9_26 (by decide) rfl rfl ?_
      refine tz_getR C dX9_word_24 fl_RX9_156 (by decide) rfl rfl ?_
      refine tz_iload_n 1 1 C dX9_word_27 rfl rfl ?_
      obtain ⟨hin_6, h⟩ := h
      refine tz_iald C dX9_word_28 (by decide) rfl hin_6 ?_
      refine tz_icmp_lt 35 C dX9_word_29 (by decide) h (fun c_7 h => ?_) (fun c_7 h => ?_)
      · refine tz_aload_n 0 0 C dX9_word_35 rfl rfl ?_
        refine tz_getR C dX9_word_36 fl_RX9_26 (by decide) rfl rfl ?_
        refine tz_getR C dX9_word_39 fl_RX9_168 (by decide) rfl rfl ?_
        refine tz_iload_n 1 1 C dX9_word_42 rfl rfl ?_
        refine tz_aald C dX9_word_43 (by decide) rfl hin_6 ?_
        refine tz_iload_n 2 2 C dX9_word_44 rfl rfl ?_
        obtain ⟨hin_9, h⟩ := h
        refine tz_iald C dX9_word_45 (tz_rowlt hin_6 (by decide)) (tz_rows hin_6 (by decide)) hin_9 ?_
        exact hret _ _ _ _ dX9_word_46 h
      · refine tz_bipush (-2) (by decide) C dX9_word_32 ?_
        exact hret _ _ _ _ dX9_word_34 h
  · refine tz_bipush (-2) (by decide) C dX9_word_12 ?_
    exact hret _ _ _ _ dX9_word_14 h

def vc_X9_noStem (x1 : Int32) (σ : tzS) (Q : Int32 → tzS → Prop) : Prop :=
  (x1 < 0 →
    Q 1 σ) ∧
  (¬ x1 < 0 →
    (x1 < (σ.1 4 2) →
      Q 0 σ) ∧
    (¬ x1 < (σ.1 4 2) →
      Q 1 σ))
set_option maxRecDepth 20000 in
set_option maxHeartbeats 4000000 in
theorem m_X9_noStem (G : tzG) (hG : tz_ok G) {x1 : Int32}  {σ : tzS} {Q : Int32 → tzS → Prop} (h : vc_X9_noStem x1 σ Q) : tz_M G yX9_noStem cX9_noStem 2 (some .boolean) 0 0 [.ref 0, .int x1] σ (tz_Qi G Q) := by
  unfold vc_X9_noStem at h
  refine tz_startz hG RX9 [(0, .ref 0), (1, .int x1)] (by decide) rfl (Nat.le_of_ble_eq_true rfl) rfl (fun E C hret => ?_)
  refine tz_iload_n 1 1 C dX9_noStem_0 rfl rfl ?_
  refine tz_if_lt 15 C dX9_noStem_1 (by decide) h (fun c_1 h => ?_) (fun c_1 h => ?_)
  · refine tz_iconst 1 (by decide) C dX9_noStem_15 ?_
    refine tz_goto 20 C dX9_noStem_16 (by decide) ?_
    exact hret _ _ _ _ dX9_noStem_20 rfl h
  · refine tz_iload_n 1 1 C dX9_noStem_4 rfl rfl ?_
    refine tz_aload_n 0 0 C dX9_noStem_5 rfl rfl ?_
    refine tz_getR C dX9_noStem_6 fl_RX9_26 (by decide) rfl rfl ?_
    refine tz_getI C dX9_noStem_9 fl_RX9_297 (by decide) rfl rfl ?_
    refine tz_icmp_lt 19 C dX9_noStem_12 (by decide) h (fun c_2 h => ?_) (fun c_2 h => ?_)
    · refine tz_iconst 0 (by decide) C dX9_noStem_19 ?_
      exact hret _ _ _ _ dX9_noStem_20 rfl h
    · refine tz_iconst 1 (by decide) C dX9_noStem_15 ?_
      refine tz_goto 20 C dX9_noStem_16 (by decide) ?_
      exact hret _ _ _ _ dX9_noStem_20 rfl h
