def vc_X10_over (x1 : Int32) (x2 : Int32) (σ : tzS) (Q : Int32 → tzS → Prop) : Prop :=
  vc_X10_isGap x1 σ (fun (r_2 : Int32) (σ_1 : tzS) =>
    (r_2 = 0 →
      Q (-2) σ_1) ∧
    (¬ r_2 = 0 →
      vc_X10_isTwo x2 σ_1 (fun (r_5 : Int32) (σ_4 : tzS) =>
        (r_5 = 0 →
          Q (-2) σ_4) ∧
        (¬ r_5 = 0 →
          vc_X10_overOf x1 x2 σ_4 (fun (r_8 : Int32) (σ_7 : tzS) =>
            Q r_8 σ_7)))))
set_option maxRecDepth 20000 in
set_option maxHeartbeats 4000000 in
theorem m_X10_over (G : tzG) (hG : tz_ok G) {x1 : Int32} {x2 : Int32}  {σ : tzS} {Q : Int32 → tzS → Prop} (h : vc_X10_over x1 x2 σ Q) : tz_M G yX10_over cX10_over 3 (some .int) 6 147 [.ref 133, .int x1, .int x2] σ (tz_Qi G Q) := by
  unfold vc_X10_over at h
  refine tz_starti hG RX10 [(0, .ref 133), (1, .int x1), (2, .int x2)] (by decide) rfl (Nat.le_of_ble_eq_true rfl) rfl (fun E C hret => ?_)
  refine tz_aload_n 0 0 C dX10_over_0 rfl rfl ?_
  refine tz_iload_n 1 1 C dX10_over_1 rfl rfl ?_
  refine tz_calliv C dX10_over_2 lk_RX10_204 (m_X10_isGap G hG  h) (by decide) rfl rfl rfl rfl ⟨Nat.le_of_ble_eq_true rfl, Nat.le_of_ble_eq_true rfl⟩ (Nat.le_of_ble_eq_true rfl) rfl (fun r_2 σ_1 h => ?_)
  refine tz_if_eq 24 C dX10_over_5 (by decide) h (fun c_3 h => ?_) (fun c_3 h => ?_)
  · refine tz_bipush (-2) (by decide) C dX10_over_24 ?_
    exact hret _ _ _ _ dX10_over_26 h
  · refine tz_iload_n 2 2 C dX10_over_8 rfl rfl ?_
    refine tz_callis C dX10_over_9 lk_RX10_207 (m_X10_isTwo G hG  h) rfl ⟨Nat.le_of_ble_eq_true rfl, Nat.le_of_ble_eq_true rfl⟩ (Nat.le_of_ble_eq_true rfl) rfl (fun r_5 σ_4 h => ?_)
    refine tz_if_eq 24 C dX10_over_12 (by decide) h (fun c_6 h => ?_) (fun c_6 h => ?_)
    · refine tz_bipush (-2) (by decide) C dX10_over_24 ?_
      exact hret _ _ _ _ dX10_over_26 h
    · refine tz_aload_n 0 0 C dX10_over_15 rfl rfl ?_
      refine tz_iload_n 1 1 C dX10_over_16 rfl rfl ?_
      refine tz_iload_n 2 2 C dX10_over_17 rfl rfl ?_
      refine tz_calliv C dX10_over_18 lk_RX10_210 (m_X10_overOf G hG  h) (by decide) rfl rfl rfl rfl ⟨Nat.le_of_ble_eq_true rfl, Nat.le_of_ble_eq_true rfl⟩ (Nat.le_of_ble_eq_true rfl) rfl (fun r_8 σ_7 h => ?_)
      refine tz_goto 26 C dX10_over_21 (by decide) ?_
      exact hret _ _ _ _ dX10_over_26 h

def vc_X10_costNow (x1 : Int32) (x2 : Int32) (σ : tzS) (Q : Int32 → tzS → Prop) : Prop :=
  vc_X10_looksOver x1 x2 σ (fun (σ_1 : tzS) =>
    ∀ x3_2 : Int32, x3_2 = ((σ_1.1 133 19) - (σ_1.1 133 20)) →
    ∀ x4_3 : Int32, x4_3 = ((4 * (σ_1.1 133 20)) - x3_2) →
    ((σ_1.1 135 0) = 0 →
      ∀ x4_4 : Int32, x4_4 = (2 * (σ_1.1 133 20)) →
      Q (x4_4 + (σ_1.1 135 1)) σ_1) ∧
    ((σ_1.1 135 0) = 1 →
      ∀ x4_5 : Int32, x4_5 = ((σ_1.1 133 20) * (σ_1.1 133 20)) →
      Q (x4_5 + (σ_1.1 135 1)) σ_1) ∧
    ((σ_1.1 135 0) = 2 →
      ∀ x4_6 : Int32, x4_6 = ((3 * (σ_1.1 133 21)) + (σ_1.1 133 19)) →
      Q (x4_6 + (σ_1.1 135 1)) σ_1) ∧
    (¬ (σ_1.1 135 0) = 0 → ¬ (σ_1.1 135 0) = 1 → ¬ (σ_1.1 135 0) = 2 →
      ((0 : Int32) ≤ x4_3 →
        Q (x4_3 + (σ_1.1 135 1)) σ_1) ∧
      (¬ (0 : Int32) ≤ x4_3 →
        Q (0 + (σ_1.1 135 1)) σ_1)))
set_option maxRecDepth 20000 in
set_option maxHeartbeats 4000000 in
theorem m_X10_costNow (G : tzG) (hG : tz_ok G) {x1 : Int32} {x2 : Int32}  {σ : tzS} {Q : Int32 → tzS → Prop} (h : vc_X10_costNow x1 x2 σ Q) : tz_M G yX10_costNow cX10_costNow 5 (some .int) 1 25 [.ref 133, .int x1, .int x2] σ (tz_Qi G Q) := by
  unfold vc_X10_costNow at h
  refine tz_starti hG RX10 [(0, .ref 133), (1, .int x1), (2, .int x2)] (by decide) rfl (Nat.le_of_ble_eq_true rfl) rfl (fun E C hret => ?_)
  refine tz_aload_n 0 0 C dX10_costNow_0 rfl rfl ?_
  refine tz_iload_n 1 1 C dX10_costNow_1 rfl rfl ?_
  refine tz_iload_n 2 2 C dX10_costNow_2 rfl rfl ?_
  refine tz_callvv C dX10_costNow_3 lk_RX10_162 (m_X10_looksOver G hG  h) (by decide) rfl rfl rfl rfl ⟨Nat.le_of_ble_eq_true rfl, Nat.le_of_ble_eq_true rfl⟩ (Nat.le_of_ble_eq_true rfl) rfl (fun σ_1 h => ?_)
  refine tz_aload_n 0 0 C dX10_costNow_6 rfl rfl ?_
  refine tz_getI C dX10_costNow_7 fl_RX10_153 (by decide) rfl rfl ?_
  refine tz_aload_n 0 0 C dX10_costNow_10 rfl rfl ?_
  refine tz_getI C dX10_costNow_11 fl_RX10_156 (by decide) rfl rfl ?_
  refine tz_isub C dX10_costNow_14 ?_
  refine tz_istore_n 3 [(0, .ref 133), (1, .int x1), (2, .int x2)] C dX10_costNow_15 rfl (Nat.le_of_ble_eq_true rfl) rfl h (fun x3_2 h => ?_)
  refine tz_iconst 4 (by decide) C dX10_costNow_16 ?_
  refine tz_aload_n 0 1 C dX10_costNow_17 rfl rfl ?_
  refine tz_getI C dX10_costNow_18 fl_RX10_156 (by decide) rfl rfl ?_
  refine tz_imul C dX10_costNow_21 ?_
  refine tz_iload_n 3 0 C dX10_costNow_22 rfl rfl ?_
  refine tz_isub C dX10_costNow_23 ?_
  refine tz_istore [(3, .int x3_2), (0, .ref 133), (1, .int x1), (2, .int x2)] C dX10_costNow_24 (Nat.le_of_ble_eq_true rfl) rfl h (fun x4_3 h => ?_)
  refine tz_aload_n 0 2 C dX10_costNow_26 rfl rfl ?_
  refine tz_getR C dX10_costNow_27 fl_RX10_13 (by decide) rfl rfl ?_
  refine tz_iconst 0 (by decide) C dX10_costNow_30 ?_
  refine tz_iald_c 0 C dX10_costNow_31 (by decide) rfl (tz_inl rfl) rfl ?_
  refine tz_swc 0 (28) 60 C dX10_costNow_32 (by decide) (by decide) rfl (by decide) h (fun h => ?_) (fun e0 h => ?_)
  · refine tz_iconst 2 (by decide) C dX10_costNow_60 ?_
    refine tz_aload_n 0 2 C dX10_costNow_61 rfl rfl ?_
    refine tz_getI C dX10_costNow_62 fl_RX10_156 (by decide) rfl rfl ?_
    refine tz_imul C dX10_costNow_65 ?_
    refine tz_istore [(3, .int x3_2), (0, .ref 133), (1, .int x1), (2, .int x2)] C dX10_costNow_66 (Nat.le_of_ble_eq_true rfl) rfl h (fun x4_4 h => ?_)
    refine tz_goto 114 C dX10_costNow_68 (by decide) ?_
    refine tz_iload 0 C dX10_costNow_114 rfl ?_
    refine tz_aload_n 0 2 C dX10_costNow_116 rfl rfl ?_
    refine tz_getR C dX10_costNow_117 fl_RX10_13 (by decide) rfl rfl ?_
    refine tz_iconst 1 (by decide) C dX10_costNow_120 ?_
    refine tz_iald_c 1 C dX10_costNow_121 (by decide) rfl (tz_inl rfl) rfl ?_
    refine tz_iadd C dX10_costNow_122 ?_
    exact hret _ _ _ _ dX10_costNow_123 h
  refine tz_swc 1 (39) 71 C dX10_costNow_32 (by decide) (by decide) rfl (by decide) h (fun h => ?_) (fun e1 h => ?_)
  · refine tz_aload_n 0 2 C dX10_costNow_71 rfl rfl ?_
    refine tz_getI C dX10_costNow_72 fl_RX10_156 (by decide) rfl rfl ?_
    refine tz_aload_n 0 2 C dX10_costNow_75 rfl rfl ?_
    refine tz_getI C dX10_costNow_76 fl_RX10_156 (by decide) rfl rfl ?_
    refine tz_imul C dX10_costNow_79 ?_
    refine tz_istore [(3, .int x3_2), (0, .ref 133), (1, .int x1), (2, .int x2)] C dX10_costNow_80 (Nat.le_of_ble_eq_true rfl) rfl h (fun x4_5 h => ?_)
    refine tz_goto 114 C dX10_costNow_82 (by decide) ?_
    refine tz_iload 0 C dX10_costNow_114 rfl ?_
    refine tz_aload_n 0 2 C dX10_costNow_116 rfl rfl ?_
    refine tz_getR C dX10_costNow_117 fl_RX10_13 (by decide) rfl rfl ?_
    refine tz_iconst 1 (by decide) C dX10_costNow_120 ?_
    refine tz_iald_c 1 C dX10_costNow_121 (by decide) rfl (tz_inl rfl) rfl ?_
    refine tz_iadd C dX10_costNow_122 ?_
    exact hret _ _ _ _ dX10_costNow_123 h
  refine tz_swc 2 (53) 85 C dX10_costNow_32 (by decide) (by decide) rfl (by decide) h (fun h => ?_) (fun e2 h => ?_)
  · refine tz_iconst 3 (by decide) C dX10_costNow_85 ?_
    refine tz_aload_n 0 2 C dX10_costNow_86 rfl rfl ?_
    refine tz_getI C dX10_costNow_87 fl_RX10_159 (by decide) rfl rfl ?_
    refine tz_imul C dX10_costNow_90 ?_
    refine tz_aload_n 0 2 C dX10_costNow_91 rfl rfl ?_
    refine tz_getI C dX10_costNow_92 fl_RX10_153 (by decide) rfl rfl ?_
    refine tz_iadd C dX10_costNow_95 ?_
    refine tz_istore [(3, .int x3_2), (0, .ref 133), (1, .int x1), (2, .int x2)] C dX10_costNow_96 (Nat.le_of_ble_eq_true rfl) rfl h (fun x4_6 h => ?_)
    refine tz_goto 114 C dX10_costNow_98 (by decide) ?_
    refine tz_iload 0 C dX10_costNow_114 rfl ?_
    refine tz_aload_n 0 2 C dX10_costNow_116 rfl rfl ?_
    refine tz_getR C dX10_costNow_117 fl_RX10_13 (by decide) rfl rfl ?_
    refine tz_iconst 1 (by decide) C dX10_costNow_120 ?_
    refine tz_iald_c 1 C dX10_costNow_121 (by decide) rfl (tz_inl rfl) rfl ?_
    refine tz_iadd C dX10_costNow_122 ?_
    exact hret _ _ _ _ dX10_costNow_123 h
  replace h := h e0 e1 e2
  refine tz_tabOut 101 C dX10_costNow_32 (tz_out2 e0 e1 e2) (by decide) ?_
  refine tz_iload 0 C dX10_costNow_101 rfl ?_
  refine tz_if_ge 110 C dX10_costNow_103 (by decide) h (fun c_7 h => ?_) (fun c_7 h => ?_)
  · refine tz_iload 0 C dX10_costNow_110 rfl ?_
    refine tz_istore_k [(3, .int x3_2), (0, .ref 133), (1, .int x1), (2, .int x2)] C dX10_costNow_112 (Nat.le_of_ble_eq_true rfl) rfl ?_
    refine tz_iload 0 C dX10_costNow_114 rfl ?_
    refine tz_aload_n 0 2 C dX10_costNow_116 rfl rfl ?_
    refine tz_getR C dX10_costNow_117 fl_RX10_13 (by decide) rfl rfl ?_
    refine tz_iconst 1 (by decide) C dX10_costNow_120 ?_
    refine tz_iald_c 1 C dX10_costNow_121 (by decide) rfl (tz_inl rfl) rfl ?_
    refine tz_iadd C dX10_costNow_122 ?_
    exact hret _ _ _ _ dX10_costNow_123 h
  · refine tz_iconst 0 (by decide) C dX10_costNow_106 ?_
    refine tz_goto 112 C dX10_costNow_107 (by decide) ?_
    refine tz_istore_k [(3, .int x3_2), (0, .ref 133), (1, .int x1), (2, .int x2)] C dX10_costNow_112 (Nat.le_of_ble_eq_true rfl) rfl ?_
    refine tz_iload 0 C dX10_costNow_114 rfl ?_
    refine tz_aload_n 0 2 C dX10_costNow_116 rfl rfl ?_
    refine tz_getR C dX10_costNow_117 fl_RX10_13 (by decide) rfl rfl ?_
    refine tz_iconst 1 (by decide) C dX10_costNow_120 ?_
    refine tz_iald_c 1 C dX10_costNow_121 (by decide) rfl (tz_inl rfl) rfl ?_
    refine tz_iadd C dX10_costNow_122 ?_
    exact hret _ _ _ _ dX10_costNow_123 h

def vc_X10_costOf (x1 : Int32) (x2 : Int32) (σ : tzS) (Q : Int32 → tzS → Prop) : Prop :=
  vc_X10_reads  σ (fun (σ_1 : tzS) =>
    vc_X10_in x1 0 (σ_1.1 133 7) σ_1 (fun (r_3 : Int32) (σ_2 : tzS) =>
      (r_3 = 0 →
        Q (-2) σ_2) ∧
      (¬ r_3 = 0 →
        vc_X10_in x2 0 (σ_2.1 133 7) σ_2 (fun (r_6 : Int32) (σ_5 : tzS) =>
          (¬ r_6 = 0 →
            (x2 ≤ x1 →
              Q (-3) σ_5) ∧
            (¬ x2 ≤ x1 →
              vc_X10_costNow x1 x2 σ_5 (fun (r_10 : Int32) (σ_9 : tzS) =>
                Q r_10 σ_9))) ∧
          (r_6 = 0 →
            Q (-2) σ_5)))))
set_option maxRecDepth 20000 in
set_option maxHeartbeats 4000000 in
theorem m_X10_costOf (G : tzG) (hG : tz_ok G) {x1 : Int32} {x2 : Int32}  {σ : tzS} {Q : Int32 → tzS → Prop} (h : vc_X10_costOf x1 x2 σ Q) : tz_M G yX10_costOf cX10_costOf 3 (some .int) 4 95 [.ref 133, .int x1, .int x2] σ (tz_Qi G Q) := by
  unfold vc_X10_costOf at h
  refine tz_starti hG RX10 [(0, .ref 133), (1, .int x1), (2, .int x2)] (by decide) rfl (Nat.le_of_ble_eq_true rfl) rfl (fun E C hret => ?_)
  refine tz_aload_n 0 0 C dX10_costOf_0 rfl rfl ?_
  refine tz_callvv C dX10_costOf_1 lk_RX10_147 (m_X10_reads G hG  h) (by decide) rfl rfl rfl rfl ⟨Nat.le_of_ble_eq_true rfl, Nat.le_of_ble_eq_true rfl⟩ (Nat.le_of_ble_eq_true rfl) rfl (fun σ_1 h => ?_)
  refine tz_iload_n 1 1 C dX10_costOf_4 rfl rfl ?_
  refine tz_iconst 0 (by decide) C dX10_costOf_5 ?_
  refine tz_aload_n 0 0 C dX10_costOf_6 rfl rfl ?_
  refine tz_getI C dX10_costOf_7 fl_RX10_109 (by decide) rfl rfl ?_
  refine tz_callis C dX10_costOf_10 lk_RX10_77 (m_X10_in G hG  h) rfl ⟨Nat.le_of_ble_eq_true rfl, Nat.le_of_ble_eq_true rfl⟩ (Nat.le_of_ble_eq_true rfl) rfl (fun r_3 σ_2 h => ?_)
  refine tz_if_eq 28 C dX10_costOf_13 (by decide) h (fun c_4 h => ?_) (fun c_4 h => ?_)
  · refine tz_bipush (-2) (by decide) C dX10_costOf_28 ?_
    exact hret _ _ _ _ dX10_costOf_30 h
  · refine tz_iload_n 2 2 C dX10_costOf_16 rfl rfl ?_
    refine tz_iconst 0 (by decide) C dX10_costOf_17 ?_
    refine tz_aload_n 0 0 C dX10_costOf_18 rfl rfl ?_
    refine tz_getI C dX10_costOf_19 fl_RX10_109 (by decide) rfl rfl ?_
    refine tz_callis C dX10_costOf_22 lk_RX10_77 (m_X10_in G hG  h) rfl ⟨Nat.le_of_ble_eq_true rfl, Nat.le_of_ble_eq_true rfl⟩ (Nat.le_of_ble_eq_true rfl) rfl (fun r_6 σ_5 h => ?_)
    refine tz_if_ne 31 C dX10_costOf_25 (by decide) h (fun c_7 h => ?_) (fun c_7 h => ?_)
    · refine tz_iload_n 2 2 C dX10_costOf_31 rfl rfl ?_
      refine tz_iload_n 1 1 C dX10_costOf_32 rfl rfl ?_
      refine tz_icmp_le 45 C dX10_costOf_33 (by decide) h (fun c_8 h => ?_) (fun c_8 h => ?_)
      · refine tz_bipush (-3) (by decide) C dX10_costOf_45 ?_
        exact hret _ _ _ _ dX10_costOf_47 h
      · refine tz_aload_n 0 0 C dX10_costOf_36 rfl rfl ?_
        refine tz_iload_n 1 1 C dX10_costOf_37 rfl rfl ?_
        refine tz_iload_n 2 2 C dX10_costOf_38 rfl rfl ?_
        refine tz_calliv C dX10_costOf_39 lk_RX10_213 (m_X10_costNow G hG  h) (by decide) rfl rfl rfl rfl ⟨Nat.le_of_ble_eq_true rfl, Nat.le_of_ble_eq_true rfl⟩ (Nat.le_of_ble_eq_true rfl) rfl (fun r_10 σ_9 h => ?_)
        refine tz_goto 47 C dX10_costOf_42 (by decide) ?_
        exact hret _ _ _ _ dX10_costOf_47 h
    · refine tz_bipush (-2) (by decide) C dX10_costOf_28 ?_
      exact hret _ _ _ _ dX10_costOf_30 h

def vc_X10_cost (x1 : Int32) (x2 : Int32) (σ : tzS) (Q : Int32 → tzS → Prop) : Prop :=
  vc_X10_costOf x1 x2 σ (fun (r_2 : Int32) (σ_1 : tzS) =>
    Q r_2 σ_1)
set_option maxRecDepth 20000 in
set_option maxHeartbeats 4000000 in
theorem m_X10_cost (G : tzG) (hG : tz_ok G) {x1 : Int32} {x2 : Int32}  {σ : tzS} {Q : Int32 → tzS → Prop} (h : vc_X10_cost x1 x2 σ Q) : tz_M G yX10_cost cX10_cost 3 (some .int) 5 117 [.ref 133, .int x1, .int x2] σ (tz_Qi G Q) := by
  unfold vc_X10_cost at h
  refine tz_starti hG RX10 [(0, .ref 133), (1, .int x1), (2, .int x2)] (by decide) rfl (Nat.le_of_ble_eq_true rfl) rfl (fun E C hret => ?_)
  refine tz_aload_n 0 0 C dX10_cost_0 rfl rfl ?_
  refine tz_iload_n 1 1 C dX10_cost_1 rfl rfl ?_
  refine tz_iload_n 2 2 C dX10_cost_2 rfl rfl ?_
  refine tz_calliv C dX10_cost_3 lk_RX10_216 (m_X10_costOf G hG  h) (by decide) rfl rfl rfl rfl ⟨Nat.le_of_ble_eq_true rfl, Nat.le_of_ble_eq_true rfl⟩ (Nat.le_of_ble_eq_true rfl) rfl (fun r_2 σ_1 h => ?_)
  exact hret _ _ _ _ dX10_cost_6 h

def vc_X10_placeOf (x1 : Int32) (σ : tzS) (Q : Int32 → tzS → Prop) : Prop :=
  ((σ.1 133 18) = (-1) →
    Q x1 σ) ∧
  (¬ (σ.1 133 18) = (-1) →
    (x1 ≤ (σ.1 133 18) →
      Q x1 σ) ∧
    (¬ x1 ≤ (σ.1 133 18) →
      Q (x1 + 1) σ))
set_option maxRecDepth 20000 in
set_option maxHeartbeats 4000000 in
theorem m_X10_placeOf (G : tzG) (hG : tz_ok G) {x1 : Int32}  {σ : tzS} {Q : Int32 → tzS → Prop} (h : vc_X10_placeOf x1 σ Q) : tz_M G yX10_placeOf cX10_placeOf 2 (some .int) 0 0 [.ref 133, .int x1] σ (tz_Qi G Q) := by
  unfold vc_X10_placeOf at h
  refine tz_starti hG RX10 [(0, .ref 133), (1, .int x1)] (by decide) rfl (Nat.le_of_ble_eq_true rfl) rfl (fun E C hret => ?_)
  refine tz_aload_n 0 0 C dX10_placeOf_0 rfl rfl ?_
  refine tz_getI C dX10_placeOf_1 fl_RX10_144 (by decide) rfl rfl ?_
  refine tz_iconst (-1) (by decide) C dX10_placeOf_4 ?_
  refine tz_icmp_eq 22 C dX10_placeOf_5 (by decide) h (fun c_1 h => ?_) (fun c_1 h => ?_)
  · refine tz_iload_n 1 1 C dX10_placeOf_22 rfl rfl ?_
    exact hret _ _ _ _ dX10_placeOf_23 h
  · refine tz_iload_n 1 1 C dX10_placeOf_8 rfl rfl ?_
    refine tz_aload_n 0 0 C dX10_placeOf_9 rfl rfl ?_
    refine tz_getI C dX10_placeOf_10 fl_RX10_144 (by decide) rfl rfl ?_
    refine tz_icmp_le 22 C dX10_placeOf_13 (by decide) h (fun c_2 h => ?_) (fun c_2 h => ?_)
    · refine tz_iload_n 1 1 C dX10_placeOf_22 rfl rfl ?_
      exact hret _ _ _ _ dX10_placeOf_23 h
    · refine tz_iload_n 1 1 C dX10_placeOf_16 rfl rfl ?_
      refine tz_iconst 1 (by decide) C dX10_placeOf_17 ?_
      refine tz_iadd C dX10_placeOf_18 ?_
      refine tz_goto 23 C dX10_placeOf_19 (by decide) ?_
      exact hret _ _ _ _ dX10_placeOf_23 h

def vc_X10_parts  (σ : tzS) (Q : tzS → Prop) : Prop :=
  tz_join1 (fun (y_3 : Int32) (σ_2 : tzS) =>
    ∀ σ_4 : tzS, σ_4 = tz_st σ_2 133 30 y_3 →
    tz_loop1 (fun (x1_7 : Int32) (σ_6 : tzS) (ag_5 : Int32 → tzS → Prop) =>
      ((σ_6.1 133 30) ≤ x1_7 →
        tz_loop1 (fun (x1_11 : Int32) (σ_10 : tzS) (ag_9 : Int32 → tzS → Prop) =>
          ((9 : Int32) ≤ x1_11 →
            Q σ_10) ∧
          (¬ (9 : Int32) ≤ x1_11 →
            tz_loop1 (fun (x2_15 : Int32) (σ_14 : tzS) (ag_13 : Int32 → tzS → Prop) =>
              ((σ_14.1 133 30) < x2_15 →
                ∀ x1_17 : Int32, x1_17 = x1_11 + 1 →
                ag_9 x1_17 σ_14) ∧
              (¬ (σ_14.1 133 30) < x2_15 →
                tz_join1 (fun (y_20 : Int32) (σ_19 : tzS) =>
                  ∀ x4_21 : Int32, x4_21 = y_20 →
                  tz_loop3 (fun (x3_24 : Int32) (x4_25 : Int32) (x5_26 : Int32) (σ_23 : tzS) (ag_22 : Int32 → Int32 → Int32 → tzS → Prop) =>
                    (x2_15 ≤ x5_26 →
                      vp_in ((13 * x1_11) + x2_15) 117 ∧ (
                        ∀ σ_28 : tzS, σ_28 = tz_st σ_23 149 ((13 * x1_11) + x2_15).toNatClampNeg x4_25 →
                        ∀ σ_30 : tzS, σ_30 = tz_st σ_28 150 ((13 * x1_11) + x2_15).toNatClampNeg x3_24 →
                        ∀ x2_31 : Int32, x2_31 = x2_15 + 1 →
                        ag_13 x2_31 σ_30)) ∧
                    (¬ x2_15 ≤ x5_26 →
                      (x1_11 ≤ 0 →
                        vp_in ((13 * x1_11) + x2_15) 117 ∧ (
                          ∀ σ_33 : tzS, σ_33 = tz_st σ_23 149 ((13 * x1_11) + x2_15).toNatClampNeg x4_25 →
                          ∀ σ_35 : tzS, σ_35 = tz_st σ_33 150 ((13 * x1_11) + x2_15).toNatClampNeg x3_24 →
                          ∀ x2_36 : Int32, x2_36 = x2_15 + 1 →
                          ag_13 x2_36 σ_35)) ∧
                      (¬ x1_11 ≤ 0 →
                        vp_in ((13 * (x1_11 - 1)) + x5_26) 117 ∧ (
                          ∀ x6_38 : Int32, x6_38 = (σ_23.1 149 ((13 * (x1_11 - 1)) + x5_26).toNatClampNeg) →
                          vp_in ((13 * x5_26) + x2_15) 169 ∧ (
                            ∀ x7_40 : Int32, x7_40 = (x6_38 + (σ_23.1 148 ((13 * x5_26) + x2_15).toNatClampNeg)) →
                            tz_join1 (fun (y_43 : Int32) (σ_42 : tzS) =>
                              ∀ x8_44 : Int32, x8_44 = y_43 →
                              (x8_44 = 0 →
                                ∀ x5_46 : Int32, x5_46 = x5_26 + 1 →
                                ag_22 x3_24 x4_25 x5_46 σ_42) ∧
                              (¬ x8_44 = 0 →
                                ∀ x5_47 : Int32, x5_47 = x5_26 + 1 →
                                ag_22 x5_26 x7_40 x5_47 σ_42)) (fun (K_41 : Int32 → tzS → Prop) =>
                              tz_join0 (fun (σ_49 : tzS) =>
                                K_41 0 σ_49) (fun (K_48 : tzS → Prop) =>
                                (x6_38 = (-1) →
                                  K_48  σ_23) ∧
                                (¬ x6_38 = (-1) →
                                  tz_join0 (fun (σ_52 : tzS) =>
                                    K_41 1 σ_52) (fun (K_51 : tzS → Prop) =>
                                    (x4_25 = (-1) →
                                      K_51  σ_23) ∧
                                    (¬ x4_25 = (-1) →
                                      (x4_25 ≤ x7_40 →
                                        K_48  σ_23) ∧
                                      (¬ x4_25 ≤ x7_40 →
                                        K_51  σ_23))))))))))) ((-1) : Int32) x4_21 (0 : Int32) σ_19) (fun (K_18 : Int32 → tzS → Prop) =>
                  tz_join0 (fun (σ_56 : tzS) =>
                    K_18 (-1) σ_56) (fun (K_55 : tzS → Prop) =>
                    (¬ x1_11 = 0 →
                      K_55  σ_14) ∧
                    (x1_11 = 0 →
                      (¬ x2_15 = 0 →
                        K_55  σ_14) ∧
                      (x2_15 = 0 →
                        K_18 0 σ_14)))))) (0 : Int32) σ_10)) (0 : Int32) σ_6) ∧
      (¬ (σ_6.1 133 30) ≤ x1_7 →
        ∀ x2_59 : Int32, x2_59 = (x1_7 + 1) →
        tz_loop1 (fun (x2_62 : Int32) (σ_61 : tzS) (ag_60 : Int32 → tzS → Prop) =>
          ((σ_61.1 133 30) < x2_62 →
            ∀ x1_64 : Int32, x1_64 = x1_7 + 1 →
            ag_5 x1_64 σ_61) ∧
          (¬ (σ_61.1 133 30) < x2_62 →
            vc_X10_placeOf x1_7 σ_61 (fun (r_66 : Int32) (σ_65 : tzS) =>
              vc_X10_placeOf x2_62 σ_65 (fun (r_68 : Int32) (σ_67 : tzS) =>
                vc_X10_costNow r_66 r_68 σ_67 (fun (r_70 : Int32) (σ_69 : tzS) =>
                  vp_in ((13 * x1_7) + x2_62) 169 ∧ (
                    ∀ σ_71 : tzS, σ_71 = tz_st σ_69 148 ((13 * x1_7) + x2_62).toNatClampNeg r_70 →
                    ∀ x2_73 : Int32, x2_73 = x2_62 + 1 →
                    ag_60 x2_73 σ_71)))))) x2_59 σ_6)) (0 : Int32) σ_4) (fun (K_1 : Int32 → tzS → Prop) =>
    (¬ (σ.1 133 18) = (-1) →
      K_1 ((σ.1 133 7) - 1) σ) ∧
    ((σ.1 133 18) = (-1) →
      K_1 (σ.1 133 7) σ))
set_option maxRecDepth 20000 in
set_option maxHeartbeats 4000000 in
theorem m_X10_parts (G : tzG) (hG : tz_ok G)   {σ : tzS} {Q : tzS → Prop} (h : vc_X10_parts  σ Q) : tz_M G yX10_parts cX10_parts 9 (none) 2 49 [.ref 133] σ (tz_Qv G Q) := by
  unfold vc_X10_parts at h
  refine tz_startv hG RX10 [(0, .ref 133)] (by decide) rfl (Nat.le_of_ble_eq_true rfl) rfl (fun E C hret => ?_)
  refine tz_aload_n 0 0 C dX10_parts_0 rfl rfl ?_
  refine tz_aload_n 0 0 C dX10_parts_1 rfl rfl ?_
  refine tz_getI C dX10_parts_2 fl_RX10_144 (by decide) rfl rfl ?_
  refine tz_iconst (-1) (by decide) C dX10_parts_5 ?_
  obtain ⟨K_1, hrK_1, h⟩ := h
  have hK_1 : ∀ (y_3 : Int32) (σ_2 : tzS), K_1 y_3 σ_2 → tz_V G E 22 [(0, .ref 133)] [.int y_3, .ref 133] σ_2 := by
    intro y_3 σ_2 h
    replace h := hrK_1 y_3 σ_2 h
    refine tz_put C dX10_parts_22 fp_RX10_219 (by decide) rfl rfl rfl rfl h (fun σ_4 h => ?_)
    refine tz_iconst 0 (by decide) C dX10_parts_25 ?_
    refine tz_istore_n_k 1 [(0, .ref 133)] C dX10_parts_26 rfl (Nat.le_of_ble_eq_true rfl) rfl ?_
    refine tz_sub (L := [(0, .ref 133), (1, .int 0)]) ?_ [1, 0] rfl
    refine tz_loop1_w (V := fun (x1_7 : Int32) (σ_6 : tzS) => tz_V G E 27 [(0, .ref 133), (1, .int x1_7)] [] σ_6) h (fun ag_5 ihag_5 x1_7 σ_6 h => ?_)
    refine tz_iload_n 1 1 C dX10_parts_27 rfl rfl ?_
    refine tz_aload_n 0 0 C dX10_parts_28 rfl rfl ?_
    refine tz_getI C dX10_parts_29 fl_RX10_219 (by decide) rfl rfl ?_
    refine tz_icmp_ge 84 C dX10_parts_32 (by decide) h (fun c_8 h => ?_) (fun c_8 h => ?_)
    · refine tz_iconst 0 (by decide) C dX10_parts_84 ?_
      refine tz_istore_n_k 1 [(0, .ref 133)] C dX10_parts_85 rfl (Nat.le_of_ble_eq_true rfl) rfl ?_
      refine tz_sub (L := [(0, .ref 133), (1, .int 0)]) ?_ [1, 0] rfl
      refine tz_loop1_w (V := fun (x1_11 : Int32) (σ_10 : tzS) => tz_V G E 86 [(0, .ref 133), (1, .int x1_11)] [] σ_10) h (fun ag_9 ihag_9 x1_11 σ_10 h => ?_)
      refine tz_iload_n 1 1 C dX10_parts_86 rfl rfl ?_
      refine tz_bipush 9 (by decide) C dX10_parts_87 ?_
      refine tz_icmp_ge 260 C dX10_parts_89 (by decide) h (fun c_12 h => ?_) (fun c_12 h => ?_)
      · exact hret _ _ _ dX10_parts_260 h
      · refine tz_iconst 0 (by decide) C dX10_parts_92 ?_
        refine tz_istore_n_k 2 [(0, .ref 133), (1, .int x1_11)] C dX10_parts_93 rfl (Nat.le_of_ble_eq_true rfl) rfl ?_
        refine tz_sub (L := [(0, .ref 133), (1, .int x1_11), (2, .int 0)]) ?_ [1, 2, 0] rfl
        refine tz_loop1_w (V := fun (x2_15 : Int32) (σ_14 : tzS) => tz_V G E 94 [(0, .ref 133), (1, .int x1_11), (2, .int x2_15)] [] σ_14) h (fun ag_13 ihag_13 x2_15 σ_14 h => ?_)
        refine tz_iload_n 2 2 C dX10_parts_94 rfl rfl ?_
        refine tz_aload_n 0 0 C dX10_parts_95 rfl rfl ?_
        refine tz_getI C dX10_parts_96 fl_RX10_219 (by decide) rfl rfl ?_
        refine tz_icmp_gt 254 C dX10_parts_99 (by decide) h (fun c_16 h => ?_) (fun c_16 h => ?_)
        · refine tz_iinc 1 [(0, .ref 133), (2, .int x2_15)] 1 C dX10_parts_254 (by decide) rfl (Nat.le_of_ble_eq_true rfl) rfl h (fun x1_17 h => ?_)
          refine tz_goto 86 C dX10_parts_257 (by decide) ?_
          exact tz_sub (ihag_9 _ _ h) [1, 0] rfl
        · refine tz_iconst (-1) (by decide) C dX10_parts_102 ?_
          refine tz_istore_n_k 3 [(0, .ref 133), (1, .int x1_11), (2, .int x2_15)] C dX10_parts_103 rfl (Nat.le_of_ble_eq_true rfl) rfl ?_
          refine tz_iload_n 1 2 C dX10_parts_104 rfl rfl ?_
          obtain ⟨K_18, hrK_18, h⟩ := h
          have hK_18 : ∀ (y_20 : Int32) (σ_19 : tzS), K_18 y_20 σ_19 → tz_V G E 117 [(0, .ref 133), (1, .int x1_11), (2, .int x2_15), (3, .int (-1))] [.int y_20] σ_19 := by
            intro y_20 σ_19 h
            replace h := hrK_18 y_20 σ_19 h
            refine tz_istore [(0, .ref 133), (1, .int x1_11), (2, .int x2_15), (3, .int (-1))] C dX10_parts_117 (Nat.le_of_ble_eq_true rfl) rfl h (fun x4_21 h => ?_)
            refine tz_iconst 0 (by decide) C dX10_parts_119 ?_
            refine tz_istore_k [(4, .int x4_21), (0, .ref 133), (1, .int x1_11), (2, .int x2_15), (3, .int (-1))] C dX10_parts_120 (Nat.le_of_ble_eq_true rfl) rfl ?_
            refine tz_sub (L := [(0, .ref 133), (1, .int x1_11), (2, .int x2_15), (3, .int (-1)), (4, .int x4_21), (5, .int 0)]) ?_ [2, 3, 4, 5, 1, 0] rfl
            refine tz_loop3_w (V := fun (x3_24 : Int32) (x4_25 : Int32) (x5_26 : Int32) (σ_23 : tzS) => tz_V G E 122 [(0, .ref 133), (1, .int x1_11), (2, .int x2_15), (3, .int x3_24), (4, .int x4_25), (5, .int x5_26)] [] σ_23) h (fun ag_22 ihag_22 x3_24 x4_25 x5_26 σ_23 h => ?_)
            refine tz_iload 5 C dX10_parts_122 rfl ?_
            refine tz_iload_n 2 2 C dX10_parts_124 rfl rfl ?_
            refine tz_icmp_ge 223 C dX10_parts_125 (by decide) h (fun c_27 h => ?_) (fun c_27 h => ?_)
            · refine tz_aload_n 0 0 C dX10_parts_223 rfl rfl ?_
              refine tz_getR C dX10_parts_224 fl_RX10_55 (by decide) rfl rfl ?_
              refine tz_bipush 13 (by decide) C dX10_parts_227 ?_
              refine tz_iload_n 1 1 C dX10_parts_229 rfl rfl ?_
              refine tz_imul C dX10_parts_230 ?_
              refine tz_iload_n 2 2 C dX10_parts_231 rfl rfl ?_
              refine tz_iadd C dX10_parts_232 ?_
              refine tz_iload 4 C dX10_parts_233 rfl ?_
              have hin_29 := h.1
              refine tz_iast C dX10_parts_235 (by decide) rfl h (fun σ_28 h => ?_)
              refine tz_aload_n 0 0 C dX10_parts_236 rfl rfl ?_
              refine tz_getR C dX10_parts_237 fl_RX10_58 (by decide) rfl rfl ?_
              refine tz_bipush 13 (by decide) C dX10_parts_240 ?_
              refine tz_iload_n 1 1 C dX10_parts_242 rfl rfl ?_
              refine tz_imul C dX10_parts_243 ?_
              refine tz_iload_n 2 2 C dX10_parts_244 rfl rfl ?_
              refine tz_iadd C dX10_parts_245 ?_
              refine tz_iload_n 3 3 C dX10_parts_246 rfl rfl ?_
              refine tz_iast_c _ C dX10_parts_247 (by decide) rfl hin_29 rfl h (fun σ_30 h => ?_)
              refine tz_iinc 2 [(0, .ref 133), (1, .int x1_11), (3, .int x3_24), (4, .int x4_25), (5, .int x5_26)] 1 C dX10_parts_248 (by decide) rfl (Nat.le_of_ble_eq_true rfl) rfl h (fun x2_31 h => ?_)
              refine tz_goto 94 C dX10_parts_251 (by decide) ?_
              exact tz_sub (ihag_13 _ _ h) [1, 2, 0] rfl
            · refine tz_iload_n 1 1 C dX10_parts_128 rfl rfl ?_
              refine tz_if_le 223 C dX10_parts_129 (by decide) h (fun c_32 h => ?_) (fun c_32 h => ?_)
              · refine tz_aload_n 0 0 C dX10_parts_223 rfl rfl ?_
                refine tz_getR C dX10_parts_224 fl_RX10_55 (by decide) rfl rfl ?_
                refine tz_bipush 13 (by decide) C dX10_parts_227 ?_
                refine tz_iload_n 1 1 C dX10_parts_229 rfl rfl ?_
                refine tz_imul C dX10_parts_230 ?_
                refine tz_iload_n 2 2 C dX10_parts_231 rfl rfl ?_
                refine tz_iadd C dX10_parts_232 ?_
                refine tz_iload 4 C dX10_parts_233 rfl ?_
                have hin_34 := h.1
                refine tz_iast C dX10_parts_235 (by decide) rfl h (fun σ_33 h => ?_)
                refine tz_aload_n 0 0 C dX10_parts_236 rfl rfl ?_
                refine tz_getR C dX10_parts_237 fl_RX10_58 (by decide) rfl rfl ?_
                refine tz_bipush 13 (by decide) C dX10_parts_240 ?_
                refine tz_iload_n 1 1 C dX10_parts_242 rfl rfl ?_
                refine tz_imul C dX10_parts_243 ?_
                refine tz_iload_n 2 2 C dX10_parts_244 rfl rfl ?_
                refine tz_iadd C dX10_parts_245 ?_
                refine tz_iload_n 3 3 C dX10_parts_246 rfl rfl ?_
                refine tz_iast_c _ C dX10_parts_247 (by decide) rfl hin_34 rfl h (fun σ_35 h => ?_)
                refine tz_iinc 2 [(0, .ref 133), (1, .int x1_11), (3, .int x3_24), (4, .int x4_25), (5, .int x5_26)] 1 C dX10_parts_248 (by decide) rfl (Nat.le_of_ble_eq_true rfl) rfl h (fun x2_36 h => ?_)
                refine tz_goto 94 C dX10_parts_251 (by decide) ?_
                exact tz_sub (ihag_13 _ _ h) [1, 2, 0] rfl
              · refine tz_aload_n 0 0 C dX10_parts_132 rfl rfl ?_
                refine tz_getR C dX10_parts_133 fl_RX10_55 (by decide) rfl rfl ?_
                refine tz_bipush 13 (by decide) C dX10_parts_136 ?_
                refine tz_iload_n 1 1 C dX10_parts_138 rfl rfl ?_
                refine tz_iconst 1 (by decide) C dX10_parts_139 ?_
                refine tz_isub C dX10_parts_140 ?_
                refine tz_imul C dX10_parts_141 ?_
                refine tz_iload 5 C dX10_parts_142 rfl ?_
                refine tz_iadd C dX10_parts_144 ?_
                obtain ⟨hin_37, h⟩ := h
                refine tz_iald C dX10_parts_145 (by decide) rfl hin_37 ?_
                refine tz_istore [(0, .ref 133), (1, .int x1_11), (2, .int x2_15), (3, .int x3_24), (4, .int x4_25), (5, .int x5_26)] C dX10_parts_146 (Nat.le_of_ble_eq_true rfl) rfl h (fun x6_38 h => ?_)
                refine tz_iload 0 C dX10_parts_148 rfl ?_
                refine tz_aload_n 0 1 C dX10_parts_150 rfl rfl ?_
                refine tz_getR C dX10_parts_151 fl_RX10_52 (by decide) rfl rfl ?_
                refine tz_bipush 13 (by decide) C dX10_parts_154 ?_
                refine tz_iload 6 C dX10_parts_156 rfl ?_
                refine tz_imul C dX10_parts_158 ?_
                refine tz_iload_n 2 3 C dX10_parts_159 rfl rfl ?_
                refine tz_iadd C dX10_parts_160 ?_
                obtain ⟨hin_39, h⟩ := h
                refine tz_iald C dX10_parts_161 (by decide) rfl hin_39 ?_
                refine tz_iadd C dX10_parts_162 ?_
                refine tz_istore [(6, .int x6_38), (0, .ref 133), (1, .int x1_11), (2, .int x2_15), (3, .int x3_24), (4, .int x4_25), (5, .int x5_26)] C dX10_parts_163 (Nat.le_of_ble_eq_true rfl) rfl h (fun x7_40 h => ?_)
                refine tz_iload 1 C dX10_parts_165 rfl ?_
                refine tz_iconst (-1) (by decide) C dX10_parts_167 ?_
                obtain ⟨K_41, hrK_41, h⟩ := h
                have hK_41 : ∀ (y_43 : Int32) (σ_42 : tzS), K_41 y_43 σ_42 → tz_V G E 189 [(0, .ref 133), (1, .int x1_11), (2, .int x2_15), (3, .int x3_24), (4, .int x4_25), (5, .int x5_26), (7, .int x7_40)] [.int y_43] σ_42 := by
                  intro y_43 σ_42 h
                  replace h := hrK_41 y_43 σ_42 h
                  refine tz_istore [(0, .ref 133), (1, .int x1_11), (2, .int x2_15), (3, .int x3_24), (4, .int x4_25), (5, .int x5_26), (7, .int x7_40)] C dX10_parts_189 (Nat.le_of_ble_eq_true rfl) rfl h (fun x8_44 h => ?_)
                  refine tz_iload 0 C dX10_parts_191 rfl ?_
                  refine tz_if_eq 201 C dX10_parts_193 (by decide) h (fun c_45 h => ?_) (fun c_45 h => ?_)
                  · refine tz_iload_n 3 4 C dX10_parts_201 rfl rfl ?_
                    refine tz_istore_n_k 3 [(8, .int x8_44), (0, .ref 133), (1, .int x1_11), (2, .int x2_15), (4, .int x4_25), (5, .int x5_26), (7, .int x7_40)] C dX10_parts_202 rfl (Nat.le_of_ble_eq_true rfl) rfl ?_
                    refine tz_iload 1 C dX10_parts_203 rfl ?_
                    refine tz_if_eq_t 213 C dX10_parts_205 (by decide) c_45 ?_
                    refine tz_iload 5 C dX10_parts_213 rfl ?_
                    refine tz_istore_k [(3, .int x3_24), (8, .int x8_44), (0, .ref 133), (1, .int x1_11), (2, .int x2_15), (5, .int x5_26), (7, .int x7_40)] C dX10_parts_215 (Nat.le_of_ble_eq_true rfl) rfl ?_
                    refine tz_iinc 6 [(4, .int x4_25), (3, .int x3_24), (8, .int x8_44), (0, .ref 133), (1, .int x1_11), (2, .int x2_15), (7, .int x7_40)] 1 C dX10_parts_217 (by decide) rfl (Nat.le_of_ble_eq_true rfl) rfl h (fun x5_46 h => ?_)
                    refine tz_goto 122 C dX10_parts_220 (by decide) ?_
                    exact tz_sub (ihag_22 _ _ _ _ h) [4, 5, 6, 2, 1, 0] rfl
                  · refine tz_iload 6 C dX10_parts_196 rfl ?_
                    refine tz_goto 202 C dX10_parts_198 (by decide) ?_
                    refine tz_istore_n_k 3 [(8, .int x8_44), (0, .ref 133), (1, .int x1_11), (2, .int x2_15), (4, .int x4_25), (5, .int x5_26), (7, .int x7_40)] C dX10_parts_202 rfl (Nat.le_of_ble_eq_true rfl) rfl ?_
                    refine tz_iload 1 C dX10_parts_203 rfl ?_
                    refine tz_if_eq_f 213 C dX10_parts_205 (by decide) c_45 ?_
                    refine tz_iload 7 C dX10_parts_208 rfl ?_
                    refine tz_goto 215 C dX10_parts_210 (by decide) ?_
                    refine tz_istore_k [(3, .int x5_26), (8, .int x8_44), (0, .ref 133), (1, .int x1_11), (2, .int x2_15), (5, .int x5_26), (7, .int x7_40)] C dX10_parts_215 (Nat.le_of_ble_eq_true rfl) rfl ?_
                    refine tz_iinc 6 [(4, .int x7_40), (3, .int x5_26), (8, .int x8_44), (0, .ref 133), (1, .int x1_11), (2, .int x2_15), (7, .int x7_40)] 1 C dX10_parts_217 (by decide) rfl (Nat.le_of_ble_eq_true rfl) rfl h (fun x5_47 h => ?_)
                    refine tz_goto 122 C dX10_parts_220 (by decide) ?_
                    exact tz_sub (ihag_22 _ _ _ _ h) [4, 5, 6, 2, 1, 0] rfl
                obtain ⟨K_48, hrK_48, h⟩ := h
                have hK_48 : ∀ (σ_49 : tzS), K_48  σ_49 → tz_V G E 188 [(0, .ref 133), (1, .int x1_11), (2, .int x2_15), (3, .int x3_24), (4, .int x4_25), (5, .int x5_26), (7, .int x7_40)] [] σ_49 := by
                  intro σ_49 h
                  replace h := hrK_48 σ_49 h
                  refine tz_iconst 0 (by decide) C dX10_parts_188 ?_
                  exact tz_sub (hK_41 _ _ h) [0, 1, 2, 3, 4, 5, 6] rfl
                refine tz_icmp_eq 188 C dX10_parts_168 (by decide) h (fun c_50 h => ?_) (fun c_50 h => ?_)
                · exact tz_sub (hK_48 _ h) [2, 3, 4, 5, 6, 7, 0] rfl
                · refine tz_iload 6 C dX10_parts_171 rfl ?_
                  refine tz_iconst (-1) (by decide) C dX10_parts_173 ?_
                  obtain ⟨K_51, hrK_51, h⟩ := h
                  have hK_51 : ∀ (σ_52 : tzS), K_51  σ_52 → tz_V G E 184 [(0, .ref 133), (1, .int x1_11), (2, .int x2_15), (3, .int x3_24), (4, .int x4_25), (5, .int x5_26), (7, .int x7_40)] [] σ_52 := by
                    intro σ_52 h
                    replace h := hrK_51 σ_52 h
                    refine tz_iconst 1 (by decide) C dX10_parts_184 ?_
                    refine tz_goto 189 C dX10_parts_185 (by decide) ?_
                    exact tz_sub (hK_41 _ _ h) [0, 1, 2, 3, 4, 5, 6] rfl
                  refine tz_icmp_eq 184 C dX10_parts_174 (by decide) h (fun c_53 h => ?_) (fun c_53 h => ?_)
                  · exact tz_sub (hK_51 _ h) [2, 3, 4, 5, 6, 7, 0] rfl
                  · refine tz_iload 0 C dX10_parts_177 rfl ?_
                    refine tz_iload 6 C dX10_parts_179 rfl ?_
                    refine tz_icmp_ge 188 C dX10_parts_181 (by decide) h (fun c_54 h => ?_) (fun c_54 h => ?_)
                    · exact tz_sub (hK_48 _ h) [2, 3, 4, 5, 6, 7, 0] rfl
                    · exact tz_sub (hK_51 _ h) [2, 3, 4, 5, 6, 7, 0] rfl
          obtain ⟨K_55, hrK_55, h⟩ := h
          have hK_55 : ∀ (σ_56 : tzS), K_55  σ_56 → tz_V G E 116 [(0, .ref 133), (1, .int x1_11), (2, .int x2_15), (3, .int (-1))] [] σ_56 := by
            intro σ_56 h
            replace h := hrK_55 σ_56 h
            refine tz_iconst (-1) (by decide) C dX10_parts_116 ?_
            exact tz_sub (hK_18 _ _ h) [0, 1, 2, 3] rfl
          refine tz_if_ne 116 C dX10_parts_105 (by decide) h (fun c_57 h => ?_) (fun c_57 h => ?_)
          · exact tz_sub (hK_55 _ h) [1, 2, 3, 0] rfl
          · refine tz_iload_n 2 3 C dX10_parts_108 rfl rfl ?_
            refine tz_if_ne 116 C dX10_parts_109 (by decide) h (fun c_58 h => ?_) (fun c_58 h => ?_)
            · exact tz_sub (hK_55 _ h) [1, 2, 3, 0] rfl
            · refine tz_iconst 0 (by decide) C dX10_parts_112 ?_
              refine tz_goto 117 C dX10_parts_113 (by decide) ?_
              exact tz_sub (hK_18 _ _ h) [1, 2, 3, 0] rfl
    · refine tz_iload_n 1 1 C dX10_parts_35 rfl rfl ?_
      refine tz_iconst 1 (by decide) C dX10_parts_36 ?_
      refine tz_iadd C dX10_parts_37 ?_
      refine tz_istore_n 2 [(0, .ref 133), (1, .int x1_7)] C dX10_parts_38 rfl (Nat.le_of_ble_eq_true rfl) rfl h (fun x2_59 h => ?_)
      refine tz_sub (L := [(0, .ref 133), (1, .int x1_7), (2, .int x2_59)]) ?_ [1, 2, 0] rfl
      refine tz_loop1_w (V := fun (x2_62 : Int32) (σ_61 : tzS) => tz_V G E 39 [(0, .ref 133), (1, .int x1_7), (2, .int x2_62)] [] σ_61) h (fun ag_60 ihag_60 x2_62 σ_61 h => ?_)
      refine tz_iload_n 2 2 C dX10_parts_39 rfl rfl ?_
      refine tz_aload_n 0 0 C dX10_parts_40 rfl rfl ?_
      refine tz_getI C dX10_parts_41 fl_RX10_219 (by decide) rfl rfl ?_
      refine tz_icmp_gt 78 C dX10_parts_44 (by decide) h (fun c_63 h => ?_) (fun c_63 h => ?_)
      · refine tz_iinc 1 [(0, .ref 133), (2, .int x2_62)] 1 C dX10_parts_78 (by decide) rfl (Nat.le_of_ble_eq_true rfl) rfl h (fun x1_64 h => ?_)
        refine tz_goto 27 C dX10_parts_81 (by decide) ?_
        exact tz_sub (ihag_5 _ _ h) [1, 0] rfl
      · refine tz_aload_n 0 0 C dX10_parts_47 rfl rfl ?_
        refine tz_getR C dX10_parts_48 fl_RX10_52 (by decide) rfl rfl ?_
        refine tz_bipush 13 (by decide) C dX10_parts_51 ?_
        refine tz_iload_n 1 1 C dX10_parts_53 rfl rfl ?_
        refine tz_imul C dX10_parts_54 ?_
        refine tz_iload_n 2 2 C dX10_parts_55 rfl rfl ?_
        refine tz_iadd C dX10_parts_56 ?_
        refine tz_aload_n 0 0 C dX10_parts_57 rfl rfl ?_
        refine tz_aload_n 0 0 C dX10_parts_58 rfl rfl ?_
        refine tz_iload_n 1 1 C dX10_parts_59 rfl rfl ?_
        refine tz_calliv C dX10_parts_60 lk_RX10_222 (m_X10_placeOf G hG  h) (by decide) rfl rfl rfl rfl ⟨Nat.le_of_ble_eq_true rfl, Nat.le_of_ble_eq_true rfl⟩ (Nat.le_of_ble_eq_true rfl) rfl (fun r_66 σ_65 h => ?_)
        refine tz_aload_n 0 0 C dX10_parts_63 rfl rfl ?_
        refine tz_iload_n 2 2 C dX10_parts_64 rfl rfl ?_
        refine tz_calliv C dX10_parts_65 lk_RX10_222 (m_X10_placeOf G hG  h) (by decide) rfl rfl rfl rfl ⟨Nat.le_of_ble_eq_true rfl, Nat.le_of_ble_eq_true rfl⟩ (Nat.le_of_ble_eq_true rfl) rfl (fun r_68 σ_67 h => ?_)
        refine tz_calliv C dX10_parts_68 lk_RX10_213 (m_X10_costNow G hG  h) (by decide) rfl rfl rfl rfl ⟨Nat.le_of_ble_eq_true rfl, Nat.le_of_ble_eq_true rfl⟩ (Nat.le_of_ble_eq_true rfl) rfl (fun r_70 σ_69 h => ?_)
        have hin_72 := h.1
        refine tz_iast C dX10_parts_71 (by decide) rfl h (fun σ_71 h => ?_)
        refine tz_iinc 2 [(0, .ref 133), (1, .int x1_7)] 1 C dX10_parts_72 (by decide) rfl (Nat.le_of_ble_eq_true rfl) rfl h (fun x2_73 h => ?_)
        refine tz_goto 39 C dX10_parts_75 (by decide) ?_
        exact tz_sub (ihag_60 _ _ h) [1, 2, 0] rfl
  refine tz_icmp_ne 16 C dX10_parts_6 (by decide) h (fun c_74 h => ?_) (fun c_74 h => ?_)
  · refine tz_aload_n 0 0 C dX10_parts_16 rfl rfl ?_
    refine tz_getI C dX10_parts_17 fl_RX10_109 (by decide) rfl rfl ?_
    refine tz_iconst 1 (by decide) C dX10_parts_20 ?_
    refine tz_isub C dX10_parts_21 ?_
    exact tz_sub (hK_1 _ _ h) [0] rfl
  · refine tz_aload_n 0 0 C dX10_parts_9 rfl rfl ?_
    refine tz_getI C dX10_parts_10 fl_RX10_109 (by decide) rfl rfl ?_
    refine tz_goto 22 C dX10_parts_13 (by decide) ?_
    exact tz_sub (hK_1 _ _ h) [0] rfl

def vc_X10_totalNow (x1 : Int32) (σ : tzS) (Q : Int32 → tzS → Prop) : Prop :=
  vp_in ((13 * x1) + (σ.1 133 30)) 117 ∧ (
    Q (σ.1 149 ((13 * x1) + (σ.1 133 30)).toNatClampNeg) σ)
set_option maxRecDepth 20000 in
set_option maxHeartbeats 4000000 in
theorem m_X10_totalNow (G : tzG) (hG : tz_ok G) {x1 : Int32}  {σ : tzS} {Q : Int32 → tzS → Prop} (h : vc_X10_totalNow x1 σ Q) : tz_M G yX10_totalNow cX10_totalNow 2 (some .int) 0 0 [.ref 133, .int x1] σ (tz_Qi G Q) := by
  unfold vc_X10_totalNow at h
  refine tz_starti hG RX10 [(0, .ref 133), (1, .int x1)] (by decide) rfl (Nat.le_of_ble_eq_true rfl) rfl (fun E C hret => ?_)
  refine tz_aload_n 0 0 C dX10_totalNow_0 rfl rfl ?_
  refine tz_getR C dX10_totalNow_1 fl_RX10_55 (by decide) rfl rfl ?_
  refine tz_bipush 13 (by decide) C dX10_totalNow_4 ?_
  refine tz_iload_n 1 1 C dX10_totalNow_6 rfl rfl ?_
  refine tz_imul C dX10_totalNow_7 ?_
  refine tz_aload_n 0 0 C dX10_totalNow_8 rfl rfl ?_
  refine tz_getI C dX10_totalNow_9 fl_RX10_219 (by decide) rfl rfl ?_
  refine tz_iadd C dX10_totalNow_12 ?_
  obtain ⟨hin_1, h⟩ := h
  refine tz_iald C dX10_totalNow_13 (by decide) rfl hin_1 ?_
  exact hret _ _ _ _ dX10_totalNow_14 h

def vc_X10_partsTold  (σ : tzS) (Q : tzS → Prop) : Prop :=
  vc_X10_reads  σ (fun (σ_1 : tzS) =>
    vc_X10_parts  σ_1 (fun (σ_2 : tzS) =>
      Q σ_2))
set_option maxRecDepth 20000 in
set_option maxHeartbeats 4000000 in
theorem m_X10_partsTold (G : tzG) (hG : tz_ok G)   {σ : tzS} {Q : tzS → Prop} (h : vc_X10_partsTold  σ Q) : tz_M G yX10_partsTold cX10_partsTold 1 (none) 4 95 [.ref 133] σ (tz_Qv G Q) := by
  unfold vc_X10_partsTold at h
  refine tz_startv hG RX10 [(0, .ref 133)] (by decide) rfl (Nat.le_of_ble_eq_true rfl) rfl (fun E C hret => ?_)
  refine tz_aload_n 0 0 C dX10_partsTold_0 rfl rfl ?_
  refine tz_callvv C dX10_partsTold_1 lk_RX10_147 (m_X10_reads G hG  h) (by decide) rfl rfl rfl rfl ⟨Nat.le_of_ble_eq_true rfl, Nat.le_of_ble_eq_true rfl⟩ (Nat.le_of_ble_eq_true rfl) rfl (fun σ_1 h => ?_)
  refine tz_aload_n 0 0 C dX10_partsTold_4 rfl rfl ?_
  refine tz_callvv C dX10_partsTold_5 lk_RX10_225 (m_X10_parts G hG  h) (by decide) rfl rfl rfl rfl ⟨Nat.le_of_ble_eq_true rfl, Nat.le_of_ble_eq_true rfl⟩ (Nat.le_of_ble_eq_true rfl) rfl (fun σ_2 h => ?_)
  exact hret _ _ _ dX10_partsTold_8 h

def vc_X10_isParts (x0 : Int32) (σ : tzS) (Q : Int32 → tzS → Prop) : Prop :=
  vc_X10_in x0 1 8 σ (fun (r_2 : Int32) (σ_1 : tzS) =>
    tz_bool r_2 ∧ Q r_2 σ_1)
set_option maxRecDepth 20000 in
set_option maxHeartbeats 4000000 in
theorem m_X10_isParts (G : tzG) (hG : tz_ok G) {x0 : Int32}  {σ : tzS} {Q : Int32 → tzS → Prop} (h : vc_X10_isParts x0 σ Q) : tz_M G yX10_isParts cX10_isParts 1 (some .boolean) 1 22 [.int x0] σ (tz_Qi G Q) := by
  unfold vc_X10_isParts at h
  refine tz_startz hG RX10 [(0, .int x0)] (by decide) rfl (Nat.le_of_ble_eq_true rfl) rfl (fun E C hret => ?_)
  refine tz_iload_n 0 0 C dX10_isParts_0 rfl rfl ?_
  refine tz_iconst 1 (by decide) C dX10_isParts_1 ?_
  refine tz_bipush 8 (by decide) C dX10_isParts_2 ?_
  refine tz_callis C dX10_isParts_4 lk_RX10_77 (m_X10_in G hG  h) rfl ⟨Nat.le_of_ble_eq_true rfl, Nat.le_of_ble_eq_true rfl⟩ (Nat.le_of_ble_eq_true rfl) rfl (fun r_2 σ_1 h => ?_)
  exact hret _ _ _ _ dX10_isParts_7 (tz_narz h.1) h.2

def vc_X10_bestOf (x1 : Int32) (σ : tzS) (Q : Int32 → tzS → Prop) : Prop :=
  vc_X10_partsTold  σ (fun (σ_1 : tzS) =>
    vc_X10_totalNow x1 σ_1 (fun (r_3 : Int32) (σ_2 : tzS) =>
      Q r_3 σ_2))
set_option maxRecDepth 20000 in
set_option maxHeartbeats 4000000 in
theorem m_X10_bestOf (G : tzG) (hG : tz_ok G) {x1 : Int32}  {σ : tzS} {Q : Int32 → tzS → Prop} (h : vc_X10_bestOf x1 σ Q) : tz_M G yX10_bestOf cX10_bestOf 2 (some .int) 5 115 [.ref 133, .int x1] σ (tz_Qi G Q) := by
  unfold vc_X10_bestOf at h
  refine tz_starti hG RX10 [(0, .ref 133), (1, .int x1)] (by decide) rfl (Nat.le_of_ble_eq_true rfl) rfl (fun E C hret => ?_)
  refine tz_aload_n 0 0 C dX10_bestOf_0 rfl rfl ?_
  refine tz_callvv C dX10_bestOf_1 lk_RX10_228 (m_X10_partsTold G hG  h) (by decide) rfl rfl rfl rfl ⟨Nat.le_of_ble_eq_true rfl, Nat.le_of_ble_eq_true rfl⟩ (Nat.le_of_ble_eq_true rfl) rfl (fun σ_1 h => ?_)
  refine tz_aload_n 0 0 C dX10_bestOf_4 rfl rfl ?_
  refine tz_iload_n 1 1 C dX10_bestOf_5 rfl rfl ?_
  refine tz_calliv C dX10_bestOf_6 lk_RX10_231 (m_X10_totalNow G hG  h) (by decide) rfl rfl rfl rfl ⟨Nat.le_of_ble_eq_true rfl, Nat.le_of_ble_eq_true rfl⟩ (Nat.le_of_ble_eq_true rfl) rfl (fun r_3 σ_2 h => ?_)
  exact hret _ _ _ _ dX10_bestOf_9 h

def vc_X10_best (x1 : Int32) (σ : tzS) (Q : Int32 → tzS → Prop) : Prop :=
  vc_X10_isParts x1 σ (fun (r_2 : Int32) (σ_1 : tzS) =>
    (r_2 = 0 →
      Q (-2) σ_1) ∧
    (¬ r_2 = 0 →
      vc_X10_bestOf x1 σ_1 (fun (r_5 : Int32) (σ_4 : tzS) =>
        Q r_5 σ_4)))
set_option maxRecDepth 20000 in
set_option maxHeartbeats 4000000 in
theorem m_X10_best (G : tzG) (hG : tz_ok G) {x1 : Int32}  {σ : tzS} {Q : Int32 → tzS → Prop} (h : vc_X10_best x1 σ Q) : tz_M G yX10_best cX10_best 2 (some .int) 6 136 [.ref 133, .int x1] σ (tz_Qi G Q) := by
  unfold vc_X10_best at h
  refine tz_starti hG RX10 [(0, .ref 133), (1, .int x1)] (by decide) rfl (Nat.le_of_ble_eq_true rfl) rfl (fun E C hret => ?_)
  refine tz_iload_n 1 1 C dX10_best_0 rfl rfl ?_
  refine tz_callis C dX10_best_1 lk_RX10_234 (m_X10_isParts G hG  h) rfl ⟨Nat.le_of_ble_eq_true rfl, Nat.le_of_ble_eq_true rfl⟩ (Nat.le_of_ble_eq_true rfl) rfl (fun r_2 σ_1 h => ?_)
  refine tz_if_eq 15 C dX10_best_4 (by decide) h (fun c_3 h => ?_) (fun c_3 h => ?_)
  · refine tz_bipush (-2) (by decide) C dX10_best_15 ?_
    exact hret _ _ _ _ dX10_best_17 h
  · refine tz_aload_n 0 0 C dX10_best_7 rfl rfl ?_
    refine tz_iload_n 1 1 C dX10_best_8 rfl rfl ?_
    refine tz_calliv C dX10_best_9 lk_RX10_237 (m_X10_bestOf G hG  h) (by decide) rfl rfl rfl rfl ⟨Nat.le_of_ble_eq_true rfl, Nat.le_of_ble_eq_true rfl⟩ (Nat.le_of_ble_eq_true rfl) rfl (fun r_5 σ_4 h => ?_)
    refine tz_goto 17 C dX10_best_12 (by decide) ?_
    exact hret _ _ _ _ dX10_best_17 h

def vc_X10_seamNow (x1 : Int32) (x2 : Int32) (σ : tzS) (Q : Int32 → tzS → Prop) : Prop :=
  ∀ x3_1 : Int32, x3_1 = (σ.1 133 30) →
  tz_loop2 (fun (x3_4 : Int32) (x4_5 : Int32) (σ_3 : tzS) (ag_2 : Int32 → Int32 → tzS → Prop) =>
    (x4_5 ≤ x2 →
      Q x3_4 σ_3) ∧
    (¬ x4_5 ≤ x2 →
      vp_in ((13 * x4_5) + x3_4) 117 ∧ (
        ∀ x3_8 : Int32, x3_8 = (σ_3.1 150 ((13 * x4_5) + x3_4).toNatClampNeg) →
        ∀ x4_9 : Int32, x4_9 = x4_5 + (-1) →
        ag_2 x3_8 x4_9 σ_3))) x3_1 x1 σ
set_option maxRecDepth 20000 in
set_option maxHeartbeats 4000000 in
theorem m_X10_seamNow (G : tzG) (hG : tz_ok G) {x1 : Int32} {x2 : Int32}  {σ : tzS} {Q : Int32 → tzS → Prop} (h : vc_X10_seamNow x1 x2 σ Q) : tz_M G yX10_seamNow cX10_seamNow 5 (some .int) 0 0 [.ref 133, .int x1, .int x2] σ (tz_Qi G Q) := by
  unfold vc_X10_seamNow at h
  refine tz_starti hG RX10 [(0, .ref 133), (1, .int x1), (2, .int x2)] (by decide) rfl (Nat.le_of_ble_eq_true rfl) rfl (fun E C hret => ?_)
  refine tz_aload_n 0 0 C dX10_seamNow_0 rfl rfl ?_
  refine tz_getI C dX10_seamNow_1 fl_RX10_219 (by decide) rfl rfl ?_
  refine tz_istore_n 3 [(0, .ref 133), (1, .int x1), (2, .int x2)] C dX10_seamNow_4 rfl (Nat.le_of_ble_eq_true rfl) rfl h (fun x3_1 h => ?_)
  refine tz_iload_n 1 2 C dX10_seamNow_5 rfl rfl ?_
  refine tz_istore_k [(3, .int x3_1), (0, .ref 133), (1, .int x1), (2, .int x2)] C dX10_seamNow_6 (Nat.le_of_ble_eq_true rfl) rfl ?_
  refine tz_sub (L := [(0, .ref 133), (2, .int x2), (3, .int x3_1), (4, .int x1)]) ?_ [2, 4, 1, 0] rfl
  refine tz_loop2_w (V := fun (x3_4 : Int32) (x4_5 : Int32) (σ_3 : tzS) => tz_V G E 8 [(0, .ref 133), (2, .int x2), (3, .int x3_4), (4, .int x4_5)] [] σ_3) h (fun ag_2 ihag_2 x3_4 x4_5 σ_3 h => ?_)
  refine tz_iload 3 C dX10_seamNow_8 rfl ?_
  refine tz_iload_n 2 1 C dX10_seamNow_10 rfl rfl ?_
  refine tz_icmp_le 33 C dX10_seamNow_11 (by decide) h (fun c_6 h => ?_) (fun c_6 h => ?_)
  · refine tz_iload_n 3 2 C dX10_seamNow_33 rfl rfl ?_
    exact hret _ _ _ _ dX10_seamNow_34 h
  · refine tz_aload_n 0 0 C dX10_seamNow_14 rfl rfl ?_
    refine tz_getR C dX10_seamNow_15 fl_RX10_58 (by decide) rfl rfl ?_
    refine tz_bipush 13 (by decide) C dX10_seamNow_18 ?_
    refine tz_iload 3 C dX10_seamNow_20 rfl ?_
    refine tz_imul C dX10_seamNow_22 ?_
    refine tz_iload_n 3 2 C dX10_seamNow_23 rfl rfl ?_
    refine tz_iadd C dX10_seamNow_24 ?_
    obtain ⟨hin_7, h⟩ := h
    refine tz_iald C dX10_seamNow_25 (by decide) rfl hin_7 ?_
    refine tz_istore_n 3 [(0, .ref 133), (2, .int x2), (4, .int x4_5)] C dX10_seamNow_26 rfl (Nat.le_of_ble_eq_true rfl) rfl h (fun x3_8 h => ?_)
    refine tz_iinc 3 [(3, .int x3_8), (0, .ref 133), (2, .int x2)] (-1) C dX10_seamNow_27 (by decide) rfl (Nat.le_of_ble_eq_true rfl) rfl h (fun x4_9 h => ?_)
    refine tz_goto 8 C dX10_seamNow_30 (by decide) ?_
    exact tz_sub (ihag_2 _ _ _ h) [2, 3, 1, 0] rfl

def vc_X10_seamOf (x1 : Int32) (x2 : Int32) (σ : tzS) (Q : Int32 → tzS → Prop) : Prop :=
  vc_X10_partsTold  σ (fun (σ_1 : tzS) =>
    vc_X10_totalNow x1 σ_1 (fun (r_3 : Int32) (σ_2 : tzS) =>
      (r_3 = (-1) →
        Q (-1) σ_2) ∧
      (¬ r_3 = (-1) →
        (x2 < x1 →
          vc_X10_seamNow x1 x2 σ_2 (fun (r_7 : Int32) (σ_6 : tzS) =>
            Q r_7 σ_6)) ∧
        (¬ x2 < x1 →
          Q (-1) σ_2))))
set_option maxRecDepth 20000 in
set_option maxHeartbeats 4000000 in
theorem m_X10_seamOf (G : tzG) (hG : tz_ok G) {x1 : Int32} {x2 : Int32}  {σ : tzS} {Q : Int32 → tzS → Prop} (h : vc_X10_seamOf x1 x2 σ Q) : tz_M G yX10_seamOf cX10_seamOf 3 (some .int) 5 115 [.ref 133, .int x1, .int x2] σ (tz_Qi G Q) := by
  unfold vc_X10_seamOf at h
  refine tz_starti hG RX10 [(0, .ref 133), (1, .int x1), (2, .int x2)] (by decide) rfl (Nat.le_of_ble_eq_true rfl) rfl (fun E C hret => ?_)
  refine tz_aload_n 0 0 C dX10_seamOf_0 rfl rfl ?_
  refine tz_callvv C dX10_seamOf_1 lk_RX10_228 (m_X10_partsTold G hG  h) (by decide) rfl rfl rfl rfl ⟨Nat.le_of_ble_eq_true rfl, Nat.le_of_ble_eq_true rfl⟩ (Nat.le_of_ble_eq_true rfl) rfl (fun σ_1 h => ?_)
  refine tz_aload_n 0 0 C dX10_seamOf_4 rfl rfl ?_
  refine tz_iload_n 1 1 C dX10_seamOf_5 rfl rfl ?_
  refine tz_calliv C dX10_seamOf_6 lk_RX10_231 (m_X10_totalNow G hG  h) (by decide) rfl rfl rfl rfl ⟨Nat.le_of_ble_eq_true rfl, Nat.le_of_ble_eq_true rfl⟩ (Nat.le_of_ble_eq_true rfl) rfl (fun r_3 σ_2 h => ?_)
  refine tz_iconst (-1) (by decide) C dX10_seamOf_9 ?_
  refine tz_icmp_eq 18 C dX10_seamOf_10 (by decide) h (fun c_4 h => ?_) (fun c_4 h => ?_)
  · refine tz_iconst (-1) (by decide) C dX10_seamOf_18 ?_
    refine tz_goto 28 C dX10_seamOf_19 (by decide) ?_
    exact hret _ _ _ _ dX10_seamOf_28 h
  · refine tz_iload_n 2 2 C dX10_seamOf_13 rfl rfl ?_
    refine tz_iload_n 1 1 C dX10_seamOf_14 rfl rfl ?_
    refine tz_icmp_lt 22 C dX10_seamOf_15 (by decide) h (fun c_5 h => ?_) (fun c_5 h => ?_)
    · refine tz_aload_n 0 0 C dX10_seamOf_22 rfl rfl ?_
      refine tz_iload_n 1 1 C dX10_seamOf_23 rfl rfl ?_
      refine tz_iload_n 2 2 C dX10_seamOf_24 rfl rfl ?_
      refine tz_calliv C dX10_seamOf_25 lk_RX10_240 (m_X10_seamNow G hG  h) (by decide) rfl rfl rfl rfl ⟨Nat.le_of_ble_eq_true rfl, Nat.le_of_ble_eq_true rfl⟩ (Nat.le_of_ble_eq_true rfl) rfl (fun r_7 σ_6 h => ?_)
      exact hret _ _ _ _ dX10_seamOf_28 h
    · refine tz_iconst (-1) (by decide) C dX10_seamOf_18 ?_
      refine tz_goto 28 C dX10_seamOf_19 (by decide) ?_
      exact hret _ _ _ _ dX10_seamOf_28 h

def vc_X10_seam (x1 : Int32) (x2 : Int32) (σ : tzS) (Q : Int32 → tzS → Prop) : Prop :=
  vc_X10_isParts x1 σ (fun (r_2 : Int32) (σ_1 : tzS) =>
    (r_2 = 0 →
      Q (-2) σ_1) ∧
    (¬ r_2 = 0 →
      vc_X10_in x2 0 7 σ_1 (fun (r_5 : Int32) (σ_4 : tzS) =>
        (r_5 = 0 →
          Q (-2) σ_4) ∧
        (¬ r_5 = 0 →
          vc_X10_seamOf x1 x2 σ_4 (fun (r_8 : Int32) (σ_7 : tzS) =>
            Q r_8 σ_7)))))
set_option maxRecDepth 20000 in
set_option maxHeartbeats 4000000 in
theorem m_X10_seam (G : tzG) (hG : tz_ok G) {x1 : Int32} {x2 : Int32}  {σ : tzS} {Q : Int32 → tzS → Prop} (h : vc_X10_seam x1 x2 σ Q) : tz_M G yX10_seam cX10_seam 3 (some .int) 6 137 [.ref 133, .int x1, .int x2] σ (tz_Qi G Q) := by
  unfold vc_X10_seam at h
  refine tz_starti hG RX10 [(0, .ref 133), (1, .int x1), (2, .int x2)] (by decide) rfl (Nat.le_of_ble_eq_true rfl) rfl (fun E C hret => ?_)
  refine tz_iload_n 1 1 C dX10_seam_0 rfl rfl ?_
  refine tz_callis C dX10_seam_1 lk_RX10_234 (m_X10_isParts G hG  h) rfl ⟨Nat.le_of_ble_eq_true rfl, Nat.le_of_ble_eq_true rfl⟩ (Nat.le_of_ble_eq_true rfl) rfl (fun r_2 σ_1 h => ?_)
  refine tz_if_eq 26 C dX10_seam_4 (by decide) h (fun c_3 h => ?_) (fun c_3 h => ?_)
  · refine tz_bipush (-2) (by decide) C dX10_seam_26 ?_
    exact hret _ _ _ _ dX10_seam_28 h
  · refine tz_iload_n 2 2 C dX10_seam_7 rfl rfl ?_
    refine tz_iconst 0 (by decide) C dX10_seam_8 ?_
    refine tz_bipush 7 (by decide) C dX10_seam_9 ?_
    refine tz_callis C dX10_seam_11 lk_RX10_77 (m_X10_in G hG  h) rfl ⟨Nat.le_of_ble_eq_true rfl, Nat.le_of_ble_eq_true rfl⟩ (Nat.le_of_ble_eq_true rfl) rfl (fun r_5 σ_4 h => ?_)
    refine tz_if_eq 26 C dX10_seam_14 (by decide) h (fun c_6 h => ?_) (fun c_6 h => ?_)
    · refine tz_bipush (-2) (by decide) C dX10_seam_26 ?_
      exact hret _ _ _ _ dX10_seam_28 h
    · refine tz_aload_n 0 0 C dX10_seam_17 rfl rfl ?_
      refine tz_iload_n 1 1 C dX10_seam_18 rfl rfl ?_
      refine tz_iload_n 2 2 C dX10_seam_19 rfl rfl ?_
      refine tz_calliv C dX10_seam_20 lk_RX10_243 (m_X10_seamOf G hG  h) (by decide) rfl rfl rfl rfl ⟨Nat.le_of_ble_eq_true rfl, Nat.le_of_ble_eq_true rfl⟩ (Nat.le_of_ble_eq_true rfl) rfl (fun r_8 σ_7 h => ?_)
      refine tz_goto 28 C dX10_seam_23 (by decide) ?_
      exact hret _ _ _ _ dX10_seam_28 h

def vc_X10_bentOf  (σ : tzS) (Q : Int32 → tzS → Prop) : Prop :=
  vc_X10_partsTold  σ (fun (σ_1 : tzS) =>
    tz_loop2 (fun (x1_4 : Int32) (x2_5 : Int32) (σ_3 : tzS) (ag_2 : Int32 → Int32 → tzS → Prop) =>
      ((8 : Int32) ≤ x2_5 →
        Q x1_4 σ_3) ∧
      (¬ (8 : Int32) ≤ x2_5 →
        vc_X10_totalNow x2_5 σ_3 (fun (r_8 : Int32) (σ_7 : tzS) =>
          tz_join1 (fun (y_11 : Int32) (σ_10 : tzS) =>
            ∀ x3_12 : Int32, x3_12 = y_11 →
            (x3_12 = 0 →
              ∀ x1_14 : Int32, x1_14 = (x1_4 ||| 0) →
              ∀ x2_15 : Int32, x2_15 = x2_5 + 1 →
              ag_2 x1_14 x2_15 σ_10) ∧
            (¬ x3_12 = 0 →
              vc_X10_totalNow (x2_5 - 1) σ_10 (fun (r_17 : Int32) (σ_16 : tzS) =>
                vc_X10_totalNow (x2_5 + 1) σ_16 (fun (r_19 : Int32) (σ_18 : tzS) =>
                  vc_X10_totalNow x2_5 σ_18 (fun (r_21 : Int32) (σ_20 : tzS) =>
                    ((r_17 + r_19) < (2 * r_21) →
                      ∀ x1_23 : Int32, x1_23 = (x1_4 ||| 0) →
                      ∀ x2_24 : Int32, x2_24 = x2_5 + 1 →
                      ag_2 x1_23 x2_24 σ_20) ∧
                    (¬ (r_17 + r_19) < (2 * r_21) →
                      ∀ x1_25 : Int32, x1_25 = (x1_4 ||| ((1 : Int32) <<< (x2_5 &&& 31))) →
                      ∀ x2_26 : Int32, x2_26 = x2_5 + 1 →
                      ag_2 x1_25 x2_26 σ_20)))))) (fun (K_9 : Int32 → tzS → Prop) =>
            tz_join0 (fun (σ_28 : tzS) =>
              K_9 0 σ_28) (fun (K_27 : tzS → Prop) =>
              (r_8 = (-1) →
                K_27  σ_7) ∧
              (¬ r_8 = (-1) →
                vc_X10_totalNow (x2_5 + 1) σ_7 (fun (r_31 : Int32) (σ_30 : tzS) =>
                  (r_31 = (-1) →
                    K_27  σ_30) ∧
                  (¬ r_31 = (-1) →
                    K_9 1 σ_30)))))))) (0 : Int32) (2 : Int32) σ_1)
set_option maxRecDepth 20000 in
set_option maxHeartbeats 4000000 in
theorem m_X10_bentOf (G : tzG) (hG : tz_ok G)   {σ : tzS} {Q : Int32 → tzS → Prop} (h : vc_X10_bentOf  σ Q) : tz_M G yX10_bentOf cX10_bentOf 4 (some .int) 5 115 [.ref 133] σ (tz_Qi G Q) := by
  unfold vc_X10_bentOf at h
  refine tz_starti hG RX10 [(0, .ref 133)] (by decide) rfl (Nat.le_of_ble_eq_true rfl) rfl (fun E C hret => ?_)
  refine tz_aload_n 0 0 C dX10_bentOf_0 rfl rfl ?_
  refine tz_callvv C dX10_bentOf_1 lk_RX10_228 (m_X10_partsTold G hG  h) (by decide) rfl rfl rfl rfl ⟨Nat.le_of_ble_eq_true rfl, Nat.le_of_ble_eq_true rfl⟩ (Nat.le_of_ble_eq_true rfl) rfl (fun σ_1 h => ?_)
  refine tz_iconst 0 (by decide) C dX10_bentOf_4 ?_
  refine tz_istore_n_k 1 [(0, .ref 133)] C dX10_bentOf_5 rfl (Nat.le_of_ble_eq_true rfl) rfl ?_
  refine tz_iconst 2 (by decide) C dX10_bentOf_6 ?_
  refine tz_istore_n_k 2 [(1, .int 0), (0, .ref 133)] C dX10_bentOf_7 rfl (Nat.le_of_ble_eq_true rfl) rfl ?_
  refine tz_sub (L := [(0, .ref 133), (1, .int 0), (2, .int 2)]) ?_ [2, 1, 0] rfl
  refine tz_loop2_w (V := fun (x1_4 : Int32) (x2_5 : Int32) (σ_3 : tzS) => tz_V G E 8 [(0, .ref 133), (1, .int x1_4), (2, .int x2_5)] [] σ_3) h (fun ag_2 ihag_2 x1_4 x2_5 σ_3 h => ?_)
  refine tz_iload_n 2 2 C dX10_bentOf_8 rfl rfl ?_
  refine tz_bipush 8 (by decide) C dX10_bentOf_9 ?_
  refine tz_icmp_ge 85 C dX10_bentOf_11 (by decide) h (fun c_6 h => ?_) (fun c_6 h => ?_)
  · refine tz_iload_n 1 1 C dX10_bentOf_85 rfl rfl ?_
    exact hret _ _ _ _ dX10_bentOf_86 h
  · refine tz_aload_n 0 0 C dX10_bentOf_14 rfl rfl ?_
    refine tz_iload_n 2 2 C dX10_bentOf_15 rfl rfl ?_
    refine tz_calliv C dX10_bentOf_16 lk_RX10_231 (m_X10_totalNow G hG  h) (by decide) rfl rfl rfl rfl ⟨Nat.le_of_ble_eq_true rfl, Nat.le_of_ble_eq_true rfl⟩ (Nat.le_of_ble_eq_true rfl) rfl (fun r_8 σ_7 h => ?_)
    refine tz_iconst (-1) (by decide) C dX10_bentOf_19 ?_
    obtain ⟨K_9, hrK_9, h⟩ := h
    have hK_9 : ∀ (y_11 : Int32) (σ_10 : tzS), K_9 y_11 σ_10 → tz_V G E 39 [(0, .ref 133), (1, .int x1_4), (2, .int x2_5)] [.int y_11] σ_10 := by
      intro y_11 σ_10 h
      replace h := hrK_9 y_11 σ_10 h
      refine tz_istore_n 3 [(0, .ref 133), (1, .int x1_4), (2, .int x2_5)] C dX10_bentOf_39 rfl (Nat.le_of_ble_eq_true rfl) rfl h (fun x3_12 h => ?_)
      refine tz_iload_n 1 2 C dX10_bentOf_40 rfl rfl ?_
      refine tz_iload_n 3 0 C dX10_bentOf_41 rfl rfl ?_
      refine tz_if_eq 76 C dX10_bentOf_42 (by decide) h (fun c_13 h => ?_) (fun c_13 h => ?_)
      · refine tz_iconst 0 (by decide) C dX10_bentOf_76 ?_
        refine tz_ior C dX10_bentOf_77 ?_
        refine tz_istore_n 1 [(3, .int x3_12), (0, .ref 133), (2, .int x2_5)] C dX10_bentOf_78 rfl (Nat.le_of_ble_eq_true rfl) rfl h (fun x1_14 h => ?_)
        refine tz_iinc 3 [(1, .int x1_14), (3, .int x3_12), (0, .ref 133)] 1 C dX10_bentOf_79 (by decide) rfl (Nat.le_of_ble_eq_true rfl) rfl h (fun x2_15 h => ?_)
        refine tz_goto 8 C dX10_bentOf_82 (by decide) ?_
        exact tz_sub (ihag_2 _ _ _ h) [3, 1, 0] rfl
      · refine tz_aload_n 0 1 C dX10_bentOf_45 rfl rfl ?_
        refine tz_iload_n 2 3 C dX10_bentOf_46 rfl rfl ?_
        refine tz_iconst 1 (by decide) C dX10_bentOf_47 ?_
        refine tz_isub C dX10_bentOf_48 ?_
        refine tz_calliv C dX10_bentOf_49 lk_RX10_231 (m_X10_totalNow G hG  h) (by decide) rfl rfl rfl rfl ⟨Nat.le_of_ble_eq_true rfl, Nat.le_of_ble_eq_true rfl⟩ (Nat.le_of_ble_eq_true rfl) rfl (fun r_17 σ_16 h => ?_)
        refine tz_aload_n 0 1 C dX10_bentOf_52 rfl rfl ?_
        refine tz_iload_n 2 3 C dX10_bentOf_53 rfl rfl ?_
        refine tz_iconst 1 (by decide) C dX10_bentOf_54 ?_
        refine tz_iadd C dX10_bentOf_55 ?_
        refine tz_calliv C dX10_bentOf_56 lk_RX10_231 (m_X10_totalNow G hG  h) (by decide) rfl rfl rfl rfl ⟨Nat.le_of_ble_eq_true rfl, Nat.le_of_ble_eq_true rfl⟩ (Nat.le_of_ble_eq_true rfl) rfl (fun r_19 σ_18 h => ?_)
        refine tz_iadd C dX10_bentOf_59 ?_
        refine tz_iconst 2 (by decide) C dX10_bentOf_60 ?_
        refine tz_aload_n 0 1 C dX10_bentOf_61 rfl rfl ?_
        refine tz_iload_n 2 3 C dX10_bentOf_62 rfl rfl ?_
        refine tz_calliv C dX10_bentOf_63 lk_RX10_231 (m_X10_totalNow G hG  h) (by decide) rfl rfl rfl rfl ⟨Nat.le_of_ble_eq_true rfl, Nat.le_of_ble_eq_true rfl⟩ (Nat.le_of_ble_eq_true rfl) rfl (fun r_21 σ_20 h => ?_)
        refine tz_imul C dX10_bentOf_66 ?_
        refine tz_icmp_lt 76 C dX10_bentOf_67 (by decide) h (fun c_22 h => ?_) (fun c_22 h => ?_)
        · refine tz_iconst 0 (by decide) C dX10_bentOf_76 ?_
          refine tz_ior C dX10_bentOf_77 ?_
          refine tz_istore_n 1 [(3, .int x3_12), (0, .ref 133), (2, .int x2_5)] C dX10_bentOf_78 rfl (Nat.le_of_ble_eq_true rfl) rfl h (fun x1_23 h => ?_)
          refine tz_iinc 3 [(1, .int x1_23), (3, .int x3_12), (0, .ref 133)] 1 C dX10_bentOf_79 (by decide) rfl (Nat.le_of_ble_eq_true rfl) rfl h (fun x2_24 h => ?_)
          refine tz_goto 8 C dX10_bentOf_82 (by decide) ?_
          exact tz_sub (ihag_2 _ _ _ h) [3, 1, 0] rfl
        · refine tz_iconst 1 (by decide) C dX10_bentOf_70 ?_
          refine tz_iload_n 2 3 C dX10_bentOf_71 rfl rfl ?_
          refine tz_ishl C dX10_bentOf_72 ?_
          refine tz_goto 77 C dX10_bentOf_73 (by decide) ?_
          refine tz_ior C dX10_bentOf_77 ?_
          refine tz_istore_n 1 [(3, .int x3_12), (0, .ref 133), (2, .int x2_5)] C dX10_bentOf_78 rfl (Nat.le_of_ble_eq_true rfl) rfl h (fun x1_25 h => ?_)
          refine tz_iinc 3 [(1, .int x1_25), (3, .int x3_12), (0, .ref 133)] 1 C dX10_bentOf_79 (by decide) rfl (Nat.le_of_ble_eq_true rfl) rfl h (fun x2_26 h => ?_)
          refine tz_goto 8 C dX10_bentOf_82 (by decide) ?_
          exact tz_sub (ihag_2 _ _ _ h) [3, 1, 0] rfl
    obtain ⟨K_27, hrK_27, h⟩ := h
    have hK_27 : ∀ (σ_28 : tzS), K_27  σ_28 → tz_V G E 38 [(0, .ref 133), (1, .int x1_4), (2, .int x2_5)] [] σ_28 := by
      intro σ_28 h
      replace h := hrK_27 σ_28 h
      refine tz_iconst 0 (by decide) C dX10_bentOf_38 ?_
      exact tz_sub (hK_9 _ _ h) [0, 1, 2] rfl
    refine tz_icmp_eq 38 C dX10_bentOf_20 (by decide) h (fun c_29 h => ?_) (fun c_29 h => ?_)
    · exact tz_sub (hK_27 _ h) [0, 1, 2] rfl
    · refine tz_aload_n 0 0 C dX10_bentOf_23 rfl rfl ?_
      refine tz_iload_n 2 2 C dX10_bentOf_24 rfl rfl ?_
      refine tz_iconst 1 (by decide) C dX10_bentOf_25 ?_
      refine tz_iadd C dX10_bentOf_26 ?_
      refine tz_calliv C dX10_bentOf_27 lk_RX10_231 (m_X10_totalNow G hG  h) (by decide) rfl rfl rfl rfl ⟨Nat.le_of_ble_eq_true rfl, Nat.le_of_ble_eq_true rfl⟩ (Nat.le_of_ble_eq_true rfl) rfl (fun r_31 σ_30 h => ?_)
      refine tz_iconst (-1) (by decide) C dX10_bentOf_30 ?_
      refine tz_icmp_eq 38 C dX10_bentOf_31 (by decide) h (fun c_32 h => ?_) (fun c_32 h => ?_)
      · exact tz_sub (hK_27 _ h) [0, 1, 2] rfl
      · refine tz_iconst 1 (by decide) C dX10_bentOf_34 ?_
        refine tz_goto 39 C dX10_bentOf_35 (by decide) ?_
        exact tz_sub (hK_9 _ _ h) [0, 1, 2] rfl

def vc_X10_bent  (σ : tzS) (Q : Int32 → tzS → Prop) : Prop :=
  vc_X10_bentOf  σ (fun (r_2 : Int32) (σ_1 : tzS) =>
    Q r_2 σ_1)
set_option maxRecDepth 20000 in
set_option maxHeartbeats 4000000 in
theorem m_X10_bent (G : tzG) (hG : tz_ok G)   {σ : tzS} {Q : Int32 → tzS → Prop} (h : vc_X10_bent  σ Q) : tz_M G yX10_bent cX10_bent 1 (some .int) 6 138 [.ref 133] σ (tz_Qi G Q) := by
  unfold vc_X10_bent at h
  refine tz_starti hG RX10 [(0, .ref 133)] (by decide) rfl (Nat.le_of_ble_eq_true rfl) rfl (fun E C hret => ?_)
  refine tz_aload_n 0 0 C dX10_bent_0 rfl rfl ?_
  refine tz_calliv C dX10_bent_1 lk_RX10_246 (m_X10_bentOf G hG  h) (by decide) rfl rfl rfl rfl ⟨Nat.le_of_ble_eq_true rfl, Nat.le_of_ble_eq_true rfl⟩ (Nat.le_of_ble_eq_true rfl) rfl (fun r_2 σ_1 h => ?_)
  exact hret _ _ _ _ dX10_bent_4 h

def vc_X10_dropOf (x1 : Int32) (x2 : Int32) (σ : tzS) (Q : Int32 → tzS → Prop) : Prop :=
  vc_X10_reads  σ (fun (σ_1 : tzS) =>
    tz_loop3 (fun (x3_4 : Int32) (x4_5 : Int32) (x5_6 : Int32) (σ_3 : tzS) (ag_2 : Int32 → Int32 → Int32 → tzS → Prop) =>
      ((σ_3.1 133 7) ≤ x5_6 →
        ∀ σ_8 : tzS, σ_8 = tz_st σ_3 133 18 (-1) →
        (¬ x2 = 0 →
          Q x4_5 σ_8) ∧
        (x2 = 0 →
          Q x3_4 σ_8)) ∧
      (¬ (σ_3.1 133 7) ≤ x5_6 →
        ∀ σ_10 : tzS, σ_10 = tz_st σ_3 133 18 x5_6 →
        vc_X10_parts  σ_10 (fun (σ_11 : tzS) =>
          vc_X10_totalNow x1 σ_11 (fun (r_13 : Int32) (σ_12 : tzS) =>
            tz_join1 (fun (y_16 : Int32) (σ_15 : tzS) =>
              ∀ x7_17 : Int32, x7_17 = y_16 →
              (x7_17 = 0 →
                ∀ x5_19 : Int32, x5_19 = x5_6 + 1 →
                ag_2 x3_4 x4_5 x5_19 σ_15) ∧
              (¬ x7_17 = 0 →
                ∀ x5_20 : Int32, x5_20 = x5_6 + 1 →
                ag_2 x5_6 r_13 x5_20 σ_15)) (fun (K_14 : Int32 → tzS → Prop) =>
              tz_join0 (fun (σ_22 : tzS) =>
                K_14 0 σ_22) (fun (K_21 : tzS → Prop) =>
                (r_13 = (-1) →
                  K_21  σ_12) ∧
                (¬ r_13 = (-1) →
                  tz_join0 (fun (σ_25 : tzS) =>
                    K_14 1 σ_25) (fun (K_24 : tzS → Prop) =>
                    (x3_4 = (-1) →
                      K_24  σ_12) ∧
                    (¬ x3_4 = (-1) →
                      (x4_5 ≤ r_13 →
                        K_21  σ_12) ∧
                      (¬ x4_5 ≤ r_13 →
                        K_24  σ_12)))))))))) ((-1) : Int32) ((-1) : Int32) (0 : Int32) σ_1)
set_option maxRecDepth 20000 in
set_option maxHeartbeats 4000000 in
theorem m_X10_dropOf (G : tzG) (hG : tz_ok G) {x1 : Int32} {x2 : Int32}  {σ : tzS} {Q : Int32 → tzS → Prop} (h : vc_X10_dropOf x1 x2 σ Q) : tz_M G yX10_dropOf cX10_dropOf 8 (some .int) 4 95 [.ref 133, .int x1, .int x2] σ (tz_Qi G Q) := by
  unfold vc_X10_dropOf at h
  refine tz_starti hG RX10 [(0, .ref 133), (1, .int x1), (2, .int x2)] (by decide) rfl (Nat.le_of_ble_eq_true rfl) rfl (fun E C hret => ?_)
  refine tz_aload_n 0 0 C dX10_dropOf_0 rfl rfl ?_
  refine tz_callvv C dX10_dropOf_1 lk_RX10_147 (m_X10_reads G hG  h) (by decide) rfl rfl rfl rfl ⟨Nat.le_of_ble_eq_true rfl, Nat.le_of_ble_eq_true rfl⟩ (Nat.le_of_ble_eq_true rfl) rfl (fun σ_1 h => ?_)
  refine tz_iconst (-1) (by decide) C dX10_dropOf_4 ?_
  refine tz_istore_n_k 3 [(0, .ref 133), (1, .int x1), (2, .int x2)] C dX10_dropOf_5 rfl (Nat.le_of_ble_eq_true rfl) rfl ?_
  refine tz_iconst (-1) (by decide) C dX10_dropOf_6 ?_
  refine tz_istore_k [(3, .int (-1)), (0, .ref 133), (1, .int x1), (2, .int x2)] C dX10_dropOf_7 (Nat.le_of_ble_eq_true rfl) rfl ?_
  refine tz_iconst 0 (by decide) C dX10_dropOf_9 ?_
  refine tz_istore_k [(4, .int (-1)), (3, .int (-1)), (0, .ref 133), (1, .int x1), (2, .int x2)] C dX10_dropOf_10 (Nat.le_of_ble_eq_true rfl) rfl ?_
  refine tz_sub (L := [(0, .ref 133), (1, .int x1), (2, .int x2), (3, .int (-1)), (4, .int (-1)), (5, .int 0)]) ?_ [3, 4, 5, 2, 1, 0] rfl
  refine tz_loop3_w (V := fun (x3_4 : Int32) (x4_5 : Int32) (x5_6 : Int32) (σ_3 : tzS) => tz_V G E 12 [(0, .ref 133), (1, .int x1), (2, .int x2), (3, .int x3_4), (4, .int x4_5), (5, .int x5_6)] [] σ_3) h (fun ag_2 ihag_2 x3_4 x4_5 x5_6 σ_3 h => ?_)
  refine tz_iload 5 C dX10_dropOf_12 rfl ?_
  refine tz_aload_n 0 0 C dX10_dropOf_14 rfl rfl ?_
  refine tz_getI C dX10_dropOf_15 fl_RX10_109 (by decide) rfl rfl ?_
  refine tz_icmp_ge 95 C dX10_dropOf_18 (by decide) h (fun c_7 h => ?_) (fun c_7 h => ?_)
  · refine tz_aload_n 0 0 C dX10_dropOf_95 rfl rfl ?_
    refine tz_iconst (-1) (by decide) C dX10_dropOf_96 ?_
    refine tz_put C dX10_dropOf_97 fp_RX10_144 (by decide) rfl rfl rfl rfl h (fun σ_8 h => ?_)
    refine tz_iload_n 2 2 C dX10_dropOf_100 rfl rfl ?_
    refine tz_if_ne 108 C dX10_dropOf_101 (by decide) h (fun c_9 h => ?_) (fun c_9 h => ?_)
    · refine tz_iload 4 C dX10_dropOf_108 rfl ?_
      exact hret _ _ _ _ dX10_dropOf_110 h
    · refine tz_iload_n 3 3 C dX10_dropOf_104 rfl rfl ?_
      refine tz_goto 110 C dX10_dropOf_105 (by decide) ?_
      exact hret _ _ _ _ dX10_dropOf_110 h
  · refine tz_aload_n 0 0 C dX10_dropOf_21 rfl rfl ?_
    refine tz_iload 5 C dX10_dropOf_22 rfl ?_
    refine tz_put C dX10_dropOf_24 fp_RX10_144 (by decide) rfl rfl rfl rfl h (fun σ_10 h => ?_)
    refine tz_aload_n 0 0 C dX10_dropOf_27 rfl rfl ?_
    refine tz_callvv C dX10_dropOf_28 lk_RX10_225 (m_X10_parts G hG  h) (by decide) rfl rfl rfl rfl ⟨Nat.le_of_ble_eq_true rfl, Nat.le_of_ble_eq_true rfl⟩ (Nat.le_of_ble_eq_true rfl) rfl (fun σ_11 h => ?_)
    refine tz_aload_n 0 0 C dX10_dropOf_31 rfl rfl ?_
    refine tz_iload_n 1 1 C dX10_dropOf_32 rfl rfl ?_
    refine tz_calliv C dX10_dropOf_33 lk_RX10_231 (m_X10_totalNow G hG  h) (by decide) rfl rfl rfl rfl ⟨Nat.le_of_ble_eq_true rfl, Nat.le_of_ble_eq_true rfl⟩ (Nat.le_of_ble_eq_true rfl) rfl (fun r_13 σ_12 h => ?_)
    refine tz_istore_k [(0, .ref 133), (1, .int x1), (2, .int x2), (3, .int x3_4), (4, .int x4_5), (5, .int x5_6)] C dX10_dropOf_36 (Nat.le_of_ble_eq_true rfl) rfl ?_
    refine tz_iload 0 C dX10_dropOf_38 rfl ?_
    refine tz_iconst (-1) (by decide) C dX10_dropOf_40 ?_
    obtain ⟨K_14, hrK_14, h⟩ := h
    have hK_14 : ∀ (y_16 : Int32) (σ_15 : tzS), K_14 y_16 σ_15 → tz_V G E 61 [(0, .ref 133), (1, .int x1), (2, .int x2), (3, .int x3_4), (4, .int x4_5), (5, .int x5_6), (6, .int r_13)] [.int y_16] σ_15 := by
      intro y_16 σ_15 h
      replace h := hrK_14 y_16 σ_15 h
      refine tz_istore [(0, .ref 133), (1, .int x1), (2, .int x2), (3, .int x3_4), (4, .int x4_5), (5, .int x5_6), (6, .int r_13)] C dX10_dropOf_61 (Nat.le_of_ble_eq_true rfl) rfl h (fun x7_17 h => ?_)
      refine tz_iload 0 C dX10_dropOf_63 rfl ?_
      refine tz_if_eq 73 C dX10_dropOf_65 (by decide) h (fun c_18 h => ?_) (fun c_18 h => ?_)
      · refine tz_iload_n 3 4 C dX10_dropOf_73 rfl rfl ?_
        refine tz_istore_n_k 3 [(7, .int x7_17), (0, .ref 133), (1, .int x1), (2, .int x2), (4, .int x4_5), (5, .int x5_6), (6, .int r_13)] C dX10_dropOf_74 rfl (Nat.le_of_ble_eq_true rfl) rfl ?_
        refine tz_iload 1 C dX10_dropOf_75 rfl ?_
        refine tz_if_eq_t 85 C dX10_dropOf_77 (by decide) c_18 ?_
        refine tz_iload 5 C dX10_dropOf_85 rfl ?_
        refine tz_istore_k [(3, .int x3_4), (7, .int x7_17), (0, .ref 133), (1, .int x1), (2, .int x2), (5, .int x5_6), (6, .int r_13)] C dX10_dropOf_87 (Nat.le_of_ble_eq_true rfl) rfl ?_
        refine tz_iinc 6 [(4, .int x4_5), (3, .int x3_4), (7, .int x7_17), (0, .ref 133), (1, .int x1), (2, .int x2), (6, .int r_13)] 1 C dX10_dropOf_89 (by decide) rfl (Nat.le_of_ble_eq_true rfl) rfl h (fun x5_19 h => ?_)
        refine tz_goto 12 C dX10_dropOf_92 (by decide) ?_
        exact tz_sub (ihag_2 _ _ _ _ h) [4, 5, 6, 2, 1, 0] rfl
      · refine tz_iload 6 C dX10_dropOf_68 rfl ?_
        refine tz_goto 74 C dX10_dropOf_70 (by decide) ?_
        refine tz_istore_n_k 3 [(7, .int x7_17), (0, .ref 133), (1, .int x1), (2, .int x2), (4, .int x4_5), (5, .int x5_6), (6, .int r_13)] C dX10_dropOf_74 rfl (Nat.le_of_ble_eq_true rfl) rfl ?_
        refine tz_iload 1 C dX10_dropOf_75 rfl ?_
        refine tz_if_eq_f 85 C dX10_dropOf_77 (by decide) c_18 ?_
        refine tz_iload 7 C dX10_dropOf_80 rfl ?_
        refine tz_goto 87 C dX10_dropOf_82 (by decide) ?_
        refine tz_istore_k [(3, .int x5_6), (7, .int x7_17), (0, .ref 133), (1, .int x1), (2, .int x2), (5, .int x5_6), (6, .int r_13)] C dX10_dropOf_87 (Nat.le_of_ble_eq_true rfl) rfl ?_
        refine tz_iinc 6 [(4, .int r_13), (3, .int x5_6), (7, .int x7_17), (0, .ref 133), (1, .int x1), (2, .int x2), (6, .int r_13)] 1 C dX10_dropOf_89 (by decide) rfl (Nat.le_of_ble_eq_true rfl) rfl h (fun x5_20 h => ?_)
        refine tz_goto 12 C dX10_dropOf_92 (by decide) ?_
        exact tz_sub (ihag_2 _ _ _ _ h) [4, 5, 6, 2, 1, 0] rfl
    obtain ⟨K_21, hrK_21, h⟩ := h
    have hK_21 : ∀ (σ_22 : tzS), K_21  σ_22 → tz_V G E 60 [(0, .ref 133), (1, .int x1), (2, .int x2), (3, .int x3_4), (4, .int x4_5), (5, .int x5_6), (6, .int r_13)] [] σ_22 := by
      intro σ_22 h
      replace h := hrK_21 σ_22 h
      refine tz_iconst 0 (by decide) C dX10_dropOf_60 ?_
      exact tz_sub (hK_14 _ _ h) [0, 1, 2, 3, 4, 5, 6] rfl
    refine tz_icmp_eq 60 C dX10_dropOf_41 (by decide) h (fun c_23 h => ?_) (fun c_23 h => ?_)
    · exact tz_sub (hK_21 _ h) [1, 2, 3, 4, 5, 6, 0] rfl
    · refine tz_iload_n 3 4 C dX10_dropOf_44 rfl rfl ?_
      refine tz_iconst (-1) (by decide) C dX10_dropOf_45 ?_
      obtain ⟨K_24, hrK_24, h⟩ := h
      have hK_24 : ∀ (σ_25 : tzS), K_24  σ_25 → tz_V G E 56 [(0, .ref 133), (1, .int x1), (2, .int x2), (3, .int x3_4), (4, .int x4_5), (5, .int x5_6), (6, .int r_13)] [] σ_25 := by
        intro σ_25 h
        replace h := hrK_24 σ_25 h
        refine tz_iconst 1 (by decide) C dX10_dropOf_56 ?_
        refine tz_goto 61 C dX10_dropOf_57 (by decide) ?_
        exact tz_sub (hK_14 _ _ h) [0, 1, 2, 3, 4, 5, 6] rfl
      refine tz_icmp_eq 56 C dX10_dropOf_46 (by decide) h (fun c_26 h => ?_) (fun c_26 h => ?_)
      · exact tz_sub (hK_24 _ h) [1, 2, 3, 4, 5, 6, 0] rfl
      · refine tz_iload 0 C dX10_dropOf_49 rfl ?_
        refine tz_iload 5 C dX10_dropOf_51 rfl ?_
        refine tz_icmp_ge 60 C dX10_dropOf_53 (by decide) h (fun c_27 h => ?_) (fun c_27 h => ?_)
        · exact tz_sub (hK_21 _ h) [1, 2, 3, 4, 5, 6, 0] rfl
        · exact tz_sub (hK_24 _ h) [1, 2, 3, 4, 5, 6, 0] rfl

def vc_X10_drop (x1 : Int32) (x2 : Int32) (σ : tzS) (Q : Int32 → tzS → Prop) : Prop :=
  vc_X10_isParts x1 σ (fun (r_2 : Int32) (σ_1 : tzS) =>
    (r_2 = 0 →
      Q (-2) σ_1) ∧
    (¬ r_2 = 0 →
      vc_X10_isTwo x2 σ_1 (fun (r_5 : Int32) (σ_4 : tzS) =>
        (r_5 = 0 →
          Q (-2) σ_4) ∧
        (¬ r_5 = 0 →
          vc_X10_dropOf x1 x2 σ_4 (fun (r_8 : Int32) (σ_7 : tzS) =>
            Q r_8 σ_7)))))
set_option maxRecDepth 20000 in
set_option maxHeartbeats 4000000 in
theorem m_X10_drop (G : tzG) (hG : tz_ok G) {x1 : Int32} {x2 : Int32}  {σ : tzS} {Q : Int32 → tzS → Prop} (h : vc_X10_drop x1 x2 σ Q) : tz_M G yX10_drop cX10_drop 3 (some .int) 5 122 [.ref 133, .int x1, .int x2] σ (tz_Qi G Q) := by
  unfold vc_X10_drop at h
  refine tz_starti hG RX10 [(0, .ref 133), (1, .int x1), (2, .int x2)] (by decide) rfl (Nat.le_of_ble_eq_true rfl) rfl (fun E C hret => ?_)
  refine tz_iload_n 1 1 C dX10_drop_0 rfl rfl ?_
  refine tz_callis C dX10_drop_1 lk_RX10_234 (m_X10_isParts G hG  h) rfl ⟨Nat.le_of_ble_eq_true rfl, Nat.le_of_ble_eq_true rfl⟩ (Nat.le_of_ble_eq_true rfl) rfl (fun r_2 σ_1 h => ?_)
  refine tz_if_eq 23 C dX10_drop_4 (by decide) h (fun c_3 h => ?_) (fun c_3 h => ?_)
  · refine tz_bipush (-2) (by decide) C dX10_drop_23 ?_
    exact hret _ _ _ _ dX10_drop_25 h
  · refine tz_iload_n 2 2 C dX10_drop_7 rfl rfl ?_
    refine tz_callis C dX10_drop_8 lk_RX10_207 (m_X10_isTwo G hG  h) rfl ⟨Nat.le_of_ble_eq_true rfl, Nat.le_of_ble_eq_true rfl⟩ (Nat.le_of_ble_eq_true rfl) rfl (fun r_5 σ_4 h => ?_)
    refine tz_if_eq 23 C dX10_drop_11 (by decide) h (fun c_6 h => ?_) (fun c_6 h => ?_)
    · refine tz_bipush (-2) (by decide) C dX10_drop_23 ?_
      exact hret _ _ _ _ dX10_drop_25 h
    · refine tz_aload_n 0 0 C dX10_drop_14 rfl rfl ?_
      refine tz_iload_n 1 1 C dX10_drop_15 rfl rfl ?_
      refine tz_iload_n 2 2 C dX10_drop_16 rfl rfl ?_
      refine tz_calliv C dX10_drop_17 lk_RX10_249 (m_X10_dropOf G hG  h) (by decide) rfl rfl rfl rfl ⟨Nat.le_of_ble_eq_true rfl, Nat.le_of_ble_eq_true rfl⟩ (Nat.le_of_ble_eq_true rfl) rfl (fun r_8 σ_7 h => ?_)
      refine tz_goto 25 C dX10_drop_20 (by decide) ?_
      exact hret _ _ _ _ dX10_drop_25 h

def vc_X10_alike (x1 : Int32) (σ : tzS) (Q : Int32 → tzS → Prop) : Prop :=
  tz_loop2 (fun (x2_3 : Int32) (x3_4 : Int32) (σ_2 : tzS) (ag_1 : Int32 → Int32 → tzS → Prop) =>
    ((σ_2.1 133 9) ≤ x3_4 →
      Q x2_3 σ_2) ∧
    (¬ (σ_2.1 133 9) ≤ x3_4 →
      tz_loop3 (fun (x4_8 : Int32) (x5_9 : Int32) (x6_10 : Int32) (σ_7 : tzS) (ag_6 : Int32 → Int32 → Int32 → tzS → Prop) =>
        ((σ_7.1 135 3) ≤ x6_10 →
          (x5_9 ≤ x4_8 →
            ∀ x2_13 : Int32, x2_13 = (x2_3 + x5_9) →
            ∀ x3_14 : Int32, x3_14 = x3_4 + 1 →
            ag_1 x2_13 x3_14 σ_7) ∧
          (¬ x5_9 ≤ x4_8 →
            ∀ x2_15 : Int32, x2_15 = (x2_3 + x4_8) →
            ∀ x3_16 : Int32, x3_16 = x3_4 + 1 →
            ag_1 x2_15 x3_16 σ_7)) ∧
        (¬ (σ_7.1 135 3) ≤ x6_10 →
          tz_join1 (fun (y_19 : Int32) (σ_18 : tzS) =>
            ∀ x4_20 : Int32, x4_20 = (x4_8 + y_19) →
            ((σ_18.1 133 7) ≤ (x1 + x6_10) →
              ∀ x5_22 : Int32, x5_22 = (x5_9 + 0) →
              ∀ x6_23 : Int32, x6_23 = x6_10 + 1 →
              ag_6 x4_20 x5_22 x6_23 σ_18) ∧
            (¬ (σ_18.1 133 7) ≤ (x1 + x6_10) →
              vp_in ((110 * (x1 + x6_10)) + x3_4) 1320 ∧ (
                ∀ x5_25 : Int32, x5_25 = (x5_9 + (σ_18.1 143 ((110 * (x1 + x6_10)) + x3_4).toNatClampNeg)) →
                ∀ x6_26 : Int32, x6_26 = x6_10 + 1 →
                ag_6 x4_20 x5_25 x6_26 σ_18))) (fun (K_17 : Int32 → tzS → Prop) =>
            (((x1 - 1) - x6_10) < 0 →
              K_17 0 σ_7) ∧
            (¬ ((x1 - 1) - x6_10) < 0 →
              vp_in ((110 * ((x1 - 1) - x6_10)) + x3_4) 1320 ∧ (
                K_17 (σ_7.1 143 ((110 * ((x1 - 1) - x6_10)) + x3_4).toNatClampNeg) σ_7))))) (0 : Int32) (0 : Int32) (0 : Int32) σ_2)) (0 : Int32) (0 : Int32) σ
set_option maxRecDepth 20000 in
set_option maxHeartbeats 4000000 in
theorem m_X10_alike (G : tzG) (hG : tz_ok G) {x1 : Int32}  {σ : tzS} {Q : Int32 → tzS → Prop} (h : vc_X10_alike x1 σ Q) : tz_M G yX10_alike cX10_alike 7 (some .int) 0 0 [.ref 133, .int x1] σ (tz_Qi G Q) := by
  unfold vc_X10_alike at h
  refine tz_starti hG RX10 [(0, .ref 133), (1, .int x1)] (by decide) rfl (Nat.le_of_ble_eq_true rfl) rfl (fun E C hret => ?_)
  refine tz_iconst 0 (by decide) C dX10_alike_0 ?_
  refine tz_istore_n_k 2 [(0, .ref 133), (1, .int x1)] C dX10_alike_1 rfl (Nat.le_of_ble_eq_true rfl) rfl ?_
  refine tz_iconst 0 (by decide) C dX10_alike_2 ?_
  refine tz_istore_n_k 3 [(2, .int 0), (0, .ref 133), (1, .int x1)] C dX10_alike_3 rfl (Nat.le_of_ble_eq_true rfl) rfl ?_
  refine tz_sub (L := [(0, .ref 133), (1, .int x1), (2, .int 0), (3, .int 0)]) ?_ [2, 3, 1, 0] rfl
  refine tz_loop2_w (V := fun (x2_3 : Int32) (x3_4 : Int32) (σ_2 : tzS) => tz_V G E 4 [(0, .ref 133), (1, .int x1), (2, .int x2_3), (3, .int x3_4)] [] σ_2) h (fun ag_1 ihag_1 x2_3 x3_4 σ_2 h => ?_)
  refine tz_iload_n 3 3 C dX10_alike_4 rfl rfl ?_
  refine tz_aload_n 0 0 C dX10_alike_5 rfl rfl ?_
  refine tz_getI C dX10_alike_6 fl_RX10_135 (by decide) rfl rfl ?_
  refine tz_icmp_ge 129 C dX10_alike_9 (by decide) h (fun c_5 h => ?_) (fun c_5 h => ?_)
  · refine tz_iload_n 2 2 C dX10_alike_129 rfl rfl ?_
    exact hret _ _ _ _ dX10_alike_130 h
  · refine tz_iconst 0 (by decide) C dX10_alike_12 ?_
    refine tz_istore_k [(0, .ref 133), (1, .int x1), (2, .int x2_3), (3, .int x3_4)] C dX10_alike_13 (Nat.le_of_ble_eq_true rfl) rfl ?_
    refine tz_iconst 0 (by decide) C dX10_alike_15 ?_
    refine tz_istore_k [(4, .int 0), (0, .ref 133), (1, .int x1), (2, .int x2_3), (3, .int x3_4)] C dX10_alike_16 (Nat.le_of_ble_eq_true rfl) rfl ?_
    refine tz_iconst 0 (by decide) C dX10_alike_18 ?_
    refine tz_istore_k [(5, .int 0), (4, .int 0), (0, .ref 133), (1, .int x1), (2, .int x2_3), (3, .int x3_4)] C dX10_alike_19 (Nat.le_of_ble_eq_true rfl) rfl ?_
    refine tz_sub (L := [(0, .ref 133), (1, .int x1), (2, .int x2_3), (3, .int x3_4), (4, .int 0), (5, .int 0), (6, .int 0)]) ?_ [3, 4, 5, 6, 2, 1, 0] rfl
    refine tz_loop3_w (V := fun (x4_8 : Int32) (x5_9 : Int32) (x6_10 : Int32) (σ_7 : tzS) => tz_V G E 21 [(0, .ref 133), (1, .int x1), (2, .int x2_3), (3, .int x3_4), (4, .int x4_8), (5, .int x5_9), (6, .int x6_10)] [] σ_7) h (fun ag_6 ihag_6 x4_8 x5_9 x6_10 σ_7 h => ?_)
    refine tz_iload 6 C dX10_alike_21 rfl ?_
    refine tz_aload_n 0 0 C dX10_alike_23 rfl rfl ?_
    refine tz_getR C dX10_alike_24 fl_RX10_13 (by decide) rfl rfl ?_
    refine tz_iconst 3 (by decide) C dX10_alike_27 ?_
    refine tz_iald_c 3 C dX10_alike_28 (by decide) rfl (tz_inl rfl) rfl ?_
    refine tz_icmp_ge 106 C dX10_alike_29 (by decide) h (fun c_11 h => ?_) (fun c_11 h => ?_)
    · refine tz_iload_n 2 2 C dX10_alike_106 rfl rfl ?_
      refine tz_iload 4 C dX10_alike_107 rfl ?_
      refine tz_iload 5 C dX10_alike_109 rfl ?_
      refine tz_icmp_ge 119 C dX10_alike_111 (by decide) h (fun c_12 h => ?_) (fun c_12 h => ?_)
      · refine tz_iload 5 C dX10_alike_119 rfl ?_
        refine tz_iadd C dX10_alike_121 ?_
        refine tz_istore_n 2 [(0, .ref 133), (1, .int x1), (3, .int x3_4), (4, .int x4_8), (5, .int x5_9), (6, .int x6_10)] C dX10_alike_122 rfl (Nat.le_of_ble_eq_true rfl) rfl h (fun x2_13 h => ?_)
        refine tz_iinc 3 [(2, .int x2_13), (0, .ref 133), (1, .int x1), (4, .int x4_8), (5, .int x5_9), (6, .int x6_10)] 1 C dX10_alike_123 (by decide) rfl (Nat.le_of_ble_eq_true rfl) rfl h (fun x3_14 h => ?_)
        refine tz_goto 4 C dX10_alike_126 (by decide) ?_
        exact tz_sub (ihag_1 _ _ _ h) [2, 3, 1, 0] rfl
      · refine tz_iload 4 C dX10_alike_114 rfl ?_
        refine tz_goto 121 C dX10_alike_116 (by decide) ?_
        refine tz_iadd C dX10_alike_121 ?_
        refine tz_istore_n 2 [(0, .ref 133), (1, .int x1), (3, .int x3_4), (4, .int x4_8), (5, .int x5_9), (6, .int x6_10)] C dX10_alike_122 rfl (Nat.le_of_ble_eq_true rfl) rfl h (fun x2_15 h => ?_)
        refine tz_iinc 3 [(2, .int x2_15), (0, .ref 133), (1, .int x1), (4, .int x4_8), (5, .int x5_9), (6, .int x6_10)] 1 C dX10_alike_123 (by decide) rfl (Nat.le_of_ble_eq_true rfl) rfl h (fun x3_16 h => ?_)
        refine tz_goto 4 C dX10_alike_126 (by decide) ?_
        exact tz_sub (ihag_1 _ _ _ h) [2, 3, 1, 0] rfl
    · refine tz_iload 4 C dX10_alike_32 rfl ?_
      refine tz_iload_n 1 1 C dX10_alike_34 rfl rfl ?_
      refine tz_iconst 1 (by decide) C dX10_alike_35 ?_
      refine tz_isub C dX10_alike_36 ?_
      refine tz_iload 6 C dX10_alike_37 rfl ?_
      refine tz_isub C dX10_alike_39 ?_
      obtain ⟨K_17, hrK_17, h⟩ := h
      have hK_17 : ∀ (y_19 : Int32) (σ_18 : tzS), K_17 y_19 σ_18 → tz_V G E 63 [(0, .ref 133), (1, .int x1), (2, .int x2_3), (3, .int x3_4), (5, .int x5_9), (6, .int x6_10)] [.int y_19, .int x4_8] σ_18 := by
        intro y_19 σ_18 h
        replace h := hrK_17 y_19 σ_18 h
        refine tz_iadd C dX10_alike_63 ?_
        refine tz_istore [(0, .ref 133), (1, .int x1), (2, .int x2_3), (3, .int x3_4), (5, .int x5_9), (6, .int x6_10)] C dX10_alike_64 (Nat.le_of_ble_eq_true rfl) rfl h (fun x4_20 h => ?_)
        refine tz_iload 5 C dX10_alike_66 rfl ?_
        refine tz_iload_n 1 2 C dX10_alike_68 rfl rfl ?_
        refine tz_iload 6 C dX10_alike_69 rfl ?_
        refine tz_iadd C dX10_alike_71 ?_
        refine tz_aload_n 0 1 C dX10_alike_72 rfl rfl ?_
        refine tz_getI C dX10_alike_73 fl_RX10_109 (by decide) rfl rfl ?_
        refine tz_icmp_ge 96 C dX10_alike_76 (by decide) h (fun c_21 h => ?_) (fun c_21 h => ?_)
        · refine tz_iconst 0 (by decide) C dX10_alike_96 ?_
          refine tz_iadd C dX10_alike_97 ?_
          refine tz_istore [(4, .int x4_20), (0, .ref 133), (1, .int x1), (2, .int x2_3), (3, .int x3_4), (6, .int x6_10)] C dX10_alike_98 (Nat.le_of_ble_eq_true rfl) rfl h (fun x5_22 h => ?_)
          refine tz_iinc 6 [(5, .int x5_22), (4, .int x4_20), (0, .ref 133), (1, .int x1), (2, .int x2_3), (3, .int x3_4)] 1 C dX10_alike_100 (by decide) rfl (Nat.le_of_ble_eq_true rfl) rfl h (fun x6_23 h => ?_)
          refine tz_goto 21 C dX10_alike_103 (by decide) ?_
          exact tz_sub (ihag_6 _ _ _ _ h) [3, 4, 5, 6, 2, 1, 0] rfl
        · refine tz_aload_n 0 1 C dX10_alike_79 rfl rfl ?_
          refine tz_getR C dX10_alike_80 fl_RX10_37 (by decide) rfl rfl ?_
          refine tz_bipush 110 (by decide) C dX10_alike_83 ?_
          refine tz_iload_n 1 2 C dX10_alike_85 rfl rfl ?_
          refine tz_iload 6 C dX10_alike_86 rfl ?_
          refine tz_iadd C dX10_alike_88 ?_
          refine tz_imul C dX10_alike_89 ?_
          refine tz_iload_n 3 4 C dX10_alike_90 rfl rfl ?_
          refine tz_iadd C dX10_alike_91 ?_
          obtain ⟨hin_24, h⟩ := h
          refine tz_iald C dX10_alike_92 (by decide) rfl hin_24 ?_
          refine tz_goto 97 C dX10_alike_93 (by decide) ?_
          refine tz_iadd C dX10_alike_97 ?_
          refine tz_istore [(4, .int x4_20), (0, .ref 133), (1, .int x1), (2, .int x2_3), (3, .int x3_4), (6, .int x6_10)] C dX10_alike_98 (Nat.le_of_ble_eq_true rfl) rfl h (fun x5_25 h => ?_)
          refine tz_iinc 6 [(5, .int x5_25), (4, .int x4_20), (0, .ref 133), (1, .int x1), (2, .int x2_3), (3, .int x3_4)] 1 C dX10_alike_100 (by decide) rfl (Nat.le_of_ble_eq_true rfl) rfl h (fun x6_26 h => ?_)
          refine tz_goto 21 C dX10_alike_103 (by decide) ?_
          exact tz_sub (ihag_6 _ _ _ _ h) [3, 4, 5, 6, 2, 1, 0] rfl
      refine tz_if_lt 62 C dX10_alike_40 (by decide) h (fun c_27 h => ?_) (fun c_27 h => ?_)
      · refine tz_iconst 0 (by decide) C dX10_alike_62 ?_
        exact tz_sub (hK_17 _ _ h) [0, 1, 2, 3, 5, 6] rfl
      · refine tz_aload_n 0 0 C dX10_alike_43 rfl rfl ?_
        refine tz_getR C dX10_alike_44 fl_RX10_37 (by decide) rfl rfl ?_
        refine tz_bipush 110 (by decide) C dX10_alike_47 ?_
        refine tz_iload_n 1 1 C dX10_alike_49 rfl rfl ?_
        refine tz_iconst 1 (by decide) C dX10_alike_50 ?_
        refine tz_isub C dX10_alike_51 ?_
        refine tz_iload 6 C dX10_alike_52 rfl ?_
        refine tz_isub C dX10_alike_54 ?_
        refine tz_imul C dX10_alike_55 ?_
        refine tz_iload_n 3 3 C dX10_alike_56 rfl rfl ?_
        refine tz_iadd C dX10_alike_57 ?_
        obtain ⟨hin_28, h⟩ := h
        refine tz_iald C dX10_alike_58 (by decide) rfl hin_28 ?_
        refine tz_goto 63 C dX10_alike_59 (by decide) ?_
        exact tz_sub (hK_17 _ _ h) [0, 1, 2, 3, 5, 6] rfl

def vc_X10_depth (x1 : Int32) (σ : tzS) (Q : Int32 → tzS → Prop) : Prop :=
  vc_X10_alike x1 σ (fun (r_2 : Int32) (σ_1 : tzS) =>
    tz_loop1 (fun (x3_5 : Int32) (σ_4 : tzS) (ag_3 : Int32 → tzS → Prop) =>
      tz_join0 (fun (σ_7 : tzS) =>
        tz_loop1 (fun (x4_10 : Int32) (σ_9 : tzS) (ag_8 : Int32 → tzS → Prop) =>
          ((σ_9.1 133 7) ≤ (x4_10 + 1) →
            vc_X10_alike x3_5 σ_9 (fun (r_13 : Int32) (σ_12 : tzS) =>
              vc_X10_alike x4_10 σ_12 (fun (r_15 : Int32) (σ_14 : tzS) =>
                Q (((r_13 - r_2) + r_15) - r_2) σ_14))) ∧
          (¬ (σ_9.1 133 7) ≤ (x4_10 + 1) →
            vc_X10_alike (x4_10 + 1) σ_9 (fun (r_17 : Int32) (σ_16 : tzS) =>
              vc_X10_alike x4_10 σ_16 (fun (r_19 : Int32) (σ_18 : tzS) =>
                (r_17 < r_19 →
                  vc_X10_alike x3_5 σ_18 (fun (r_22 : Int32) (σ_21 : tzS) =>
                    vc_X10_alike x4_10 σ_21 (fun (r_24 : Int32) (σ_23 : tzS) =>
                      Q (((r_22 - r_2) + r_24) - r_2) σ_23))) ∧
                (¬ r_17 < r_19 →
                  ∀ x4_25 : Int32, x4_25 = x4_10 + 1 →
                  ag_8 x4_25 σ_18))))) x1 σ_7) (fun (K_6 : tzS → Prop) =>
        (x3_5 ≤ 1 →
          K_6  σ_4) ∧
        (¬ x3_5 ≤ 1 →
          vc_X10_alike (x3_5 - 1) σ_4 (fun (r_28 : Int32) (σ_27 : tzS) =>
            vc_X10_alike x3_5 σ_27 (fun (r_30 : Int32) (σ_29 : tzS) =>
              (r_28 < r_30 →
                K_6  σ_29) ∧
              (¬ r_28 < r_30 →
                ∀ x3_32 : Int32, x3_32 = x3_5 + (-1) →
                ag_3 x3_32 σ_29)))))) x1 σ_1)
set_option maxRecDepth 20000 in
set_option maxHeartbeats 4000000 in
theorem m_X10_depth (G : tzG) (hG : tz_ok G) {x1 : Int32}  {σ : tzS} {Q : Int32 → tzS → Prop} (h : vc_X10_depth x1 σ Q) : tz_M G yX10_depth cX10_depth 5 (some .int) 1 26 [.ref 133, .int x1] σ (tz_Qi G Q) := by
  unfold vc_X10_depth at h
  refine tz_starti hG RX10 [(0, .ref 133), (1, .int x1)] (by decide) rfl (Nat.le_of_ble_eq_true rfl) rfl (fun E C hret => ?_)
  refine tz_aload_n 0 0 C dX10_depth_0 rfl rfl ?_
  refine tz_iload_n 1 1 C dX10_depth_1 rfl rfl ?_
  refine tz_calliv C dX10_depth_2 lk_RX10_252 (m_X10_alike G hG  h) (by decide) rfl rfl rfl rfl ⟨Nat.le_of_ble_eq_true rfl, Nat.le_of_ble_eq_true rfl⟩ (Nat.le_of_ble_eq_true rfl) rfl (fun r_2 σ_1 h => ?_)
  refine tz_istore_n_k 2 [(0, .ref 133), (1, .int x1)] C dX10_depth_5 rfl (Nat.le_of_ble_eq_true rfl) rfl ?_
  refine tz_iload_n 1 2 C dX10_depth_6 rfl rfl ?_
  refine tz_istore_n_k 3 [(2, .int r_2), (0, .ref 133), (1, .int x1)] C dX10_depth_7 rfl (Nat.le_of_ble_eq_true rfl) rfl ?_
  refine tz_sub (L := [(0, .ref 133), (1, .int x1), (2, .int r_2), (3, .int x1)]) ?_ [2, 3, 1, 0] rfl
  refine tz_loop1_w (V := fun (x3_5 : Int32) (σ_4 : tzS) => tz_V G E 8 [(0, .ref 133), (1, .int x1), (2, .int r_2), (3, .int x3_5)] [] σ_4) h (fun ag_3 ihag_3 x3_5 σ_4 h => ?_)
  refine tz_iload_n 3 3 C dX10_depth_8 rfl rfl ?_
  refine tz_iconst 1 (by decide) C dX10_depth_9 ?_
  obtain ⟨K_6, hrK_6, h⟩ := h
  have hK_6 : ∀ (σ_7 : tzS), K_6  σ_7 → tz_V G E 34 [(0, .ref 133), (1, .int x1), (2, .int r_2), (3, .int x3_5)] [] σ_7 := by
    intro σ_7 h
    replace h := hrK_6 σ_7 h
    refine tz_iload_n 1 1 C dX10_depth_34 rfl rfl ?_
    refine tz_istore_k [(0, .ref 133), (1, .int x1), (2, .int r_2), (3, .int x3_5)] C dX10_depth_35 (Nat.le_of_ble_eq_true rfl) rfl ?_
    refine tz_sub (L := [(0, .ref 133), (2, .int r_2), (3, .int x3_5), (4, .int x1)]) ?_ [1, 3, 4, 0] rfl
    refine tz_loop1_w (V := fun (x4_10 : Int32) (σ_9 : tzS) => tz_V G E 37 [(0, .ref 133), (2, .int r_2), (3, .int x3_5), (4, .int x4_10)] [] σ_9) h (fun ag_8 ihag_8 x4_10 σ_9 h => ?_)
    refine tz_iload 3 C dX10_depth_37 rfl ?_
    refine tz_iconst 1 (by decide) C dX10_depth_39 ?_
    refine tz_iadd C dX10_depth_40 ?_
    refine tz_aload_n 0 0 C dX10_depth_41 rfl rfl ?_
    refine tz_getI C dX10_depth_42 fl_RX10_109 (by decide) rfl rfl ?_
    refine tz_icmp_ge 71 C dX10_depth_45 (by decide) h (fun c_11 h => ?_) (fun c_11 h => ?_)
    · refine tz_aload_n 0 0 C dX10_depth_71 rfl rfl ?_
      refine tz_iload_n 3 2 C dX10_depth_72 rfl rfl ?_
      refine tz_calliv C dX10_depth_73 lk_RX10_252 (m_X10_alike G hG  h) (by decide) rfl rfl rfl rfl ⟨Nat.le_of_ble_eq_true rfl, Nat.le_of_ble_eq_true rfl⟩ (Nat.le_of_ble_eq_true rfl) rfl (fun r_13 σ_12 h => ?_)
      refine tz_iload_n 2 1 C dX10_depth_76 rfl rfl ?_
      refine tz_isub C dX10_depth_77 ?_
      refine tz_aload_n 0 0 C dX10_depth_78 rfl rfl ?_
      refine tz_iload 3 C dX10_depth_79 rfl ?_
      refine tz_calliv C dX10_depth_81 lk_RX10_252 (m_X10_alike G hG  h) (by decide) rfl rfl rfl rfl ⟨Nat.le_of_ble_eq_true rfl, Nat.le_of_ble_eq_true rfl⟩ (Nat.le_of_ble_eq_true rfl) rfl (fun r_15 σ_14 h => ?_)
      refine tz_iadd C dX10_depth_84 ?_
      refine tz_iload_n 2 1 C dX10_depth_85 rfl rfl ?_
      refine tz_isub C dX10_depth_86 ?_
      exact hret _ _ _ _ dX10_depth_87 h
    · refine tz_aload_n 0 0 C dX10_depth_48 rfl rfl ?_
      refine tz_iload 3 C dX10_depth_49 rfl ?_
      refine tz_iconst 1 (by decide) C dX10_depth_51 ?_
      refine tz_iadd C dX10_depth_52 ?_
      refine tz_calliv C dX10_depth_53 lk_RX10_252 (m_X10_alike G hG  h) (by decide) rfl rfl rfl rfl ⟨Nat.le_of_ble_eq_true rfl, Nat.le_of_ble_eq_true rfl⟩ (Nat.le_of_ble_eq_true rfl) rfl (fun r_17 σ_16 h => ?_)
      refine tz_aload_n 0 0 C dX10_depth_56 rfl rfl ?_
      refine tz_iload 3 C dX10_depth_57 rfl ?_
      refine tz_calliv C dX10_depth_59 lk_RX10_252 (m_X10_alike G hG  h) (by decide) rfl rfl rfl rfl ⟨Nat.le_of_ble_eq_true rfl, Nat.le_of_ble_eq_true rfl⟩ (Nat.le_of_ble_eq_true rfl) rfl (fun r_19 σ_18 h => ?_)
      refine tz_icmp_lt 71 C dX10_depth_62 (by decide) h (fun c_20 h => ?_) (fun c_20 h => ?_)
      · refine tz_aload_n 0 0 C dX10_depth_71 rfl rfl ?_
        refine tz_iload_n 3 2 C dX10_depth_72 rfl rfl ?_
        refine tz_calliv C dX10_depth_73 lk_RX10_252 (m_X10_alike G hG  h) (by decide) rfl rfl rfl rfl ⟨Nat.le_of_ble_eq_true rfl, Nat.le_of_ble_eq_true rfl⟩ (Nat.le_of_ble_eq_true rfl) rfl (fun r_22 σ_21 h => ?_)
        refine tz_iload_n 2 1 C dX10_depth_76 rfl rfl ?_
        refine tz_isub C dX10_depth_77 ?_
        refine tz_aload_n 0 0 C dX10_depth_78 rfl rfl ?_
        refine tz_iload 3 C dX10_depth_79 rfl ?_
        refine tz_calliv C dX10_depth_81 lk_RX10_252 (m_X10_alike G hG  h) (by decide) rfl rfl rfl rfl ⟨Nat.le_of_ble_eq_true rfl, Nat.le_of_ble_eq_true rfl⟩ (Nat.le_of_ble_eq_true rfl) rfl (fun r_24 σ_23 h => ?_)
        refine tz_iadd C dX10_depth_84 ?_
        refine tz_iload_n 2 1 C dX10_depth_85 rfl rfl ?_
        refine tz_isub C dX10_depth_86 ?_
        exact hret _ _ _ _ dX10_depth_87 h
      · refine tz_iinc 3 [(0, .ref 133), (2, .int r_2), (3, .int x3_5)] 1 C dX10_depth_65 (by decide) rfl (Nat.le_of_ble_eq_true rfl) rfl h (fun x4_25 h => ?_)
        refine tz_goto 37 C dX10_depth_68 (by decide) ?_
        exact tz_sub (ihag_8 _ _ h) [1, 2, 3, 0] rfl
  refine tz_icmp_le 34 C dX10_depth_10 (by decide) h (fun c_26 h => ?_) (fun c_26 h => ?_)
  · exact tz_sub (hK_6 _ h) [0, 1, 2, 3] rfl
  · refine tz_aload_n 0 0 C dX10_depth_13 rfl rfl ?_
    refine tz_iload_n 3 3 C dX10_depth_14 rfl rfl ?_
    refine tz_iconst 1 (by decide) C dX10_depth_15 ?_
    refine tz_isub C dX10_depth_16 ?_
    refine tz_calliv C dX10_depth_17 lk_RX10_252 (m_X10_alike G hG  h) (by decide) rfl rfl rfl rfl ⟨Nat.le_of_ble_eq_true rfl, Nat.le_of_ble_eq_true rfl⟩ (Nat.le_of_ble_eq_true rfl) rfl (fun r_28 σ_27 h => ?_)
    refine tz_aload_n 0 0 C dX10_depth_20 rfl rfl ?_
    refine tz_iload_n 3 3 C dX10_depth_21 rfl rfl ?_
    refine tz_calliv C dX10_depth_22 lk_RX10_252 (m_X10_alike G hG  h) (by decide) rfl rfl rfl rfl ⟨Nat.le_of_ble_eq_true rfl, Nat.le_of_ble_eq_true rfl⟩ (Nat.le_of_ble_eq_true rfl) rfl (fun r_30 σ_29 h => ?_)
    refine tz_icmp_lt 34 C dX10_depth_25 (by decide) h (fun c_31 h => ?_) (fun c_31 h => ?_)
    · exact tz_sub (hK_6 _ h) [0, 1, 2, 3] rfl
    · refine tz_iinc 3 [(0, .ref 133), (1, .int x1), (2, .int r_2)] (-1) C dX10_depth_28 (by decide) rfl (Nat.le_of_ble_eq_true rfl) rfl h (fun x3_32 h => ?_)
      refine tz_goto 8 C dX10_depth_31 (by decide) ?_
      exact tz_sub (ihag_3 _ _ h) [1, 2, 3, 0] rfl

def vc_X10_gap (x1 : Int32) (x2 : Int32) (σ : tzS) (Q : Int32 → tzS → Prop) : Prop :=
  vc_X10_isGap x1 σ (fun (r_2 : Int32) (σ_1 : tzS) =>
    (r_2 = 0 →
      Q (-2) σ_1) ∧
    (¬ r_2 = 0 →
      vc_X10_isTwo x2 σ_1 (fun (r_5 : Int32) (σ_4 : tzS) =>
        (r_5 = 0 →
          Q (-2) σ_4) ∧
        (¬ r_5 = 0 →
          (¬ x2 = 0 →
            vc_X10_depth x1 σ_4 (fun (r_9 : Int32) (σ_8 : tzS) =>
              Q r_9 σ_8)) ∧
          (x2 = 0 →
            vc_X10_alike x1 σ_4 (fun (r_11 : Int32) (σ_10 : tzS) =>
              Q r_11 σ_10))))))
set_option maxRecDepth 20000 in
set_option maxHeartbeats 4000000 in
theorem m_X10_gap (G : tzG) (hG : tz_ok G) {x1 : Int32} {x2 : Int32}  {σ : tzS} {Q : Int32 → tzS → Prop} (h : vc_X10_gap x1 x2 σ Q) : tz_M G yX10_gap cX10_gap 3 (some .int) 5 116 [.ref 133, .int x1, .int x2] σ (tz_Qi G Q) := by
  unfold vc_X10_gap at h
  refine tz_starti hG RX10 [(0, .ref 133), (1, .int x1), (2, .int x2)] (by decide) rfl (Nat.le_of_ble_eq_true rfl) rfl (fun E C hret => ?_)
  refine tz_aload_n 0 0 C dX10_gap_0 rfl rfl ?_
  refine tz_iload_n 1 1 C dX10_gap_1 rfl rfl ?_
  refine tz_calliv C dX10_gap_2 lk_RX10_204 (m_X10_isGap G hG  h) (by decide) rfl rfl rfl rfl ⟨Nat.le_of_ble_eq_true rfl, Nat.le_of_ble_eq_true rfl⟩ (Nat.le_of_ble_eq_true rfl) rfl (fun r_2 σ_1 h => ?_)
  refine tz_if_eq 35 C dX10_gap_5 (by decide) h (fun c_3 h => ?_) (fun c_3 h => ?_)
  · refine tz_bipush (-2) (by decide) C dX10_gap_35 ?_
    exact hret _ _ _ _ dX10_gap_37 h
  · refine tz_iload_n 2 2 C dX10_gap_8 rfl rfl ?_
    refine tz_callis C dX10_gap_9 lk_RX10_207 (m_X10_isTwo G hG  h) rfl ⟨Nat.le_of_ble_eq_true rfl, Nat.le_of_ble_eq_true rfl⟩ (Nat.le_of_ble_eq_true rfl) rfl (fun r_5 σ_4 h => ?_)
    refine tz_if_eq 35 C dX10_gap_12 (by decide) h (fun c_6 h => ?_) (fun c_6 h => ?_)
    · refine tz_bipush (-2) (by decide) C dX10_gap_35 ?_
      exact hret _ _ _ _ dX10_gap_37 h
    · refine tz_iload_n 2 2 C dX10_gap_15 rfl rfl ?_
      refine tz_if_ne 27 C dX10_gap_16 (by decide) h (fun c_7 h => ?_) (fun c_7 h => ?_)
      · refine tz_aload_n 0 0 C dX10_gap_27 rfl rfl ?_
        refine tz_iload_n 1 1 C dX10_gap_28 rfl rfl ?_
        refine tz_calliv C dX10_gap_29 lk_RX10_255 (m_X10_depth G hG  h) (by decide) rfl rfl rfl rfl ⟨Nat.le_of_ble_eq_true rfl, Nat.le_of_ble_eq_true rfl⟩ (Nat.le_of_ble_eq_true rfl) rfl (fun r_9 σ_8 h => ?_)
        refine tz_goto 37 C dX10_gap_32 (by decide) ?_
        exact hret _ _ _ _ dX10_gap_37 h
      · refine tz_aload_n 0 0 C dX10_gap_19 rfl rfl ?_
        refine tz_iload_n 1 1 C dX10_gap_20 rfl rfl ?_
        refine tz_calliv C dX10_gap_21 lk_RX10_252 (m_X10_alike G hG  h) (by decide) rfl rfl rfl rfl ⟨Nat.le_of_ble_eq_true rfl, Nat.le_of_ble_eq_true rfl⟩ (Nat.le_of_ble_eq_true rfl) rfl (fun r_11 σ_10 h => ?_)
        refine tz_goto 37 C dX10_gap_24 (by decide) ?_
        exact hret _ _ _ _ dX10_gap_37 h

def vc_X10_deepOf (x1 : Int32) (σ : tzS) (Q : Int32 → tzS → Prop) : Prop :=
  vc_X10_reads  σ (fun (σ_1 : tzS) =>
    tz_loop3 (fun (x2_4 : Int32) (x3_5 : Int32) (x4_6 : Int32) (σ_3 : tzS) (ag_2 : Int32 → Int32 → Int32 → tzS → Prop) =>
      (x1 < x4_6 →
        Q x3_5 σ_3) ∧
      (¬ x1 < x4_6 →
        tz_loop3 (fun (x3_10 : Int32) (x5_11 : Int32) (x6_12 : Int32) (σ_9 : tzS) (ag_8 : Int32 → Int32 → Int32 → tzS → Prop) =>
          ((σ_9.1 133 7) ≤ x6_12 →
            (¬ x3_10 = (-1) →
              ∀ x2_15 : Int32, x2_15 = (x2_4 ||| ((1 : Int32) <<< (x3_10 &&& 31))) →
              ∀ x4_16 : Int32, x4_16 = x4_6 + 1 →
              ag_2 x2_15 x3_10 x4_16 σ_9) ∧
            (x3_10 = (-1) →
              ∀ x2_17 : Int32, x2_17 = (x2_4 ||| 0) →
              ∀ x4_18 : Int32, x4_18 = x4_6 + 1 →
              ag_2 x2_17 x3_10 x4_18 σ_9)) ∧
          (¬ (σ_9.1 133 7) ≤ x6_12 →
            vc_X10_isIn x2_4 x6_12 σ_9 (fun (r_20 : Int32) (σ_19 : tzS) =>
              tz_join1 (fun (y_23 : Int32) (σ_22 : tzS) =>
                ∀ x7_24 : Int32, x7_24 = y_23 →
                (x7_24 ≤ x5_11 →
                  ∀ x6_26 : Int32, x6_26 = x6_12 + 1 →
                  ag_8 x3_10 x5_11 x6_26 σ_22) ∧
                (¬ x7_24 ≤ x5_11 →
                  ∀ x6_27 : Int32, x6_27 = x6_12 + 1 →
                  ag_8 x6_12 x7_24 x6_27 σ_22)) (fun (K_21 : Int32 → tzS → Prop) =>
                (r_20 = 0 →
                  vc_X10_depth x6_12 σ_19 (fun (r_30 : Int32) (σ_29 : tzS) =>
                    K_21 r_30 σ_29)) ∧
                (¬ r_20 = 0 →
                  K_21 (-1) σ_19))))) ((-1) : Int32) ((-1) : Int32) (1 : Int32) σ_3)) (0 : Int32) ((-1) : Int32) (0 : Int32) σ_1)
set_option maxRecDepth 20000 in
set_option maxHeartbeats 4000000 in
theorem m_X10_deepOf (G : tzG) (hG : tz_ok G) {x1 : Int32}  {σ : tzS} {Q : Int32 → tzS → Prop} (h : vc_X10_deepOf x1 σ Q) : tz_M G yX10_deepOf cX10_deepOf 8 (some .int) 4 95 [.ref 133, .int x1] σ (tz_Qi G Q) := by
  unfold vc_X10_deepOf at h
  refine tz_starti hG RX10 [(0, .ref 133), (1, .int x1)] (by decide) rfl (Nat.le_of_ble_eq_true rfl) rfl (fun E C hret => ?_)
  refine tz_aload_n 0 0 C dX10_deepOf_0 rfl rfl ?_
  refine tz_callvv C dX10_deepOf_1 lk_RX10_147 (m_X10_reads G hG  h) (by decide) rfl rfl rfl rfl ⟨Nat.le_of_ble_eq_true rfl, Nat.le_of_ble_eq_true rfl⟩ (Nat.le_of_ble_eq_true rfl) rfl (fun σ_1 h => ?_)
  refine tz_iconst 0 (by decide) C dX10_deepOf_4 ?_
  refine tz_istore_n_k 2 [(0, .ref 133), (1, .int x1)] C dX10_deepOf_5 rfl (Nat.le_of_ble_eq_true rfl) rfl ?_
  refine tz_iconst (-1) (by decide) C dX10_deepOf_6 ?_
  refine tz_istore_n_k 3 [(2, .int 0), (0, .ref 133), (1, .int x1)] C dX10_deepOf_7 rfl (Nat.le_of_ble_eq_true rfl) rfl ?_
  refine tz_iconst 0 (by decide) C dX10_deepOf_8 ?_
  refine tz_istore_k [(3, .int (-1)), (2, .int 0), (0, .ref 133), (1, .int x1)] C dX10_deepOf_9 (Nat.le_of_ble_eq_true rfl) rfl ?_
  refine tz_sub (L := [(0, .ref 133), (1, .int x1), (2, .int 0), (3, .int (-1)), (4, .int 0)]) ?_ [3, 4, 2, 1, 0] rfl
  refine tz_loop3_w (V := fun (x2_4 : Int32) (x3_5 : Int32) (x4_6 : Int32) (σ_3 : tzS) => tz_V G E 11 [(0, .ref 133), (1, .int x1), (2, .int x2_4), (3, .int x3_5), (4, .int x4_6)] [] σ_3) h (fun ag_2 ihag_2 x2_4 x3_5 x4_6 σ_3 h => ?_)
  refine tz_iload 4 C dX10_deepOf_11 rfl ?_
  refine tz_iload_n 1 1 C dX10_deepOf_13 rfl rfl ?_
  refine tz_icmp_gt 112 C dX10_deepOf_14 (by decide) h (fun c_7 h => ?_) (fun c_7 h => ?_)
  · refine tz_iload_n 3 3 C dX10_deepOf_112 rfl rfl ?_
    exact hret _ _ _ _ dX10_deepOf_113 h
  · refine tz_iconst (-1) (by decide) C dX10_deepOf_17 ?_
    refine tz_istore_n_k 3 [(0, .ref 133), (1, .int x1), (2, .int x2_4), (4, .int x4_6)] C dX10_deepOf_18 rfl (Nat.le_of_ble_eq_true rfl) rfl ?_
    refine tz_iconst (-1) (by decide) C dX10_deepOf_19 ?_
    refine tz_istore_k [(3, .int (-1)), (0, .ref 133), (1, .int x1), (2, .int x2_4), (4, .int x4_6)] C dX10_deepOf_20 (Nat.le_of_ble_eq_true rfl) rfl ?_
    refine tz_iconst 1 (by decide) C dX10_deepOf_22 ?_
    refine tz_istore_k [(5, .int (-1)), (3, .int (-1)), (0, .ref 133), (1, .int x1), (2, .int x2_4), (4, .int x4_6)] C dX10_deepOf_23 (Nat.le_of_ble_eq_true rfl) rfl ?_
    refine tz_sub (L := [(0, .ref 133), (1, .int x1), (2, .int x2_4), (3, .int (-1)), (4, .int x4_6), (5, .int (-1)), (6, .int 1)]) ?_ [3, 4, 5, 2, 6, 1, 0] rfl
    refine tz_loop3_w (V := fun (x3_10 : Int32) (x5_11 : Int32) (x6_12 : Int32) (σ_9 : tzS) => tz_V G E 25 [(0, .ref 133), (1, .int x1), (2, .int x2_4), (3, .int x3_10), (4, .int x4_6), (5, .int x5_11), (6, .int x6_12)] [] σ_9) h (fun ag_8 ihag_8 x3_10 x5_11 x6_12 σ_9 h => ?_)
    refine tz_iload 6 C dX10_deepOf_25 rfl ?_
    refine tz_aload_n 0 0 C dX10_deepOf_27 rfl rfl ?_
    refine tz_getI C dX10_deepOf_28 fl_RX10_109 (by decide) rfl rfl ?_
    refine tz_icmp_ge 91 C dX10_deepOf_31 (by decide) h (fun c_13 h => ?_) (fun c_13 h => ?_)
    · refine tz_iload_n 2 2 C dX10_deepOf_91 rfl rfl ?_
      refine tz_iload_n 3 3 C dX10_deepOf_92 rfl rfl ?_
      refine tz_iconst (-1) (by decide) C dX10_deepOf_93 ?_
      refine tz_icmp_ne 101 C dX10_deepOf_94 (by decide) h (fun c_14 h => ?_) (fun c_14 h => ?_)
      · refine tz_iconst 1 (by decide) C dX10_deepOf_101 ?_
        refine tz_iload_n 3 3 C dX10_deepOf_102 rfl rfl ?_
        refine tz_ishl C dX10_deepOf_103 ?_
        refine tz_ior C dX10_deepOf_104 ?_
        refine tz_istore_n 2 [(0, .ref 133), (1, .int x1), (3, .int x3_10), (4, .int x4_6), (5, .int x5_11), (6, .int x6_12)] C dX10_deepOf_105 rfl (Nat.le_of_ble_eq_true rfl) rfl h (fun x2_15 h => ?_)
        refine tz_iinc 4 [(2, .int x2_15), (0, .ref 133), (1, .int x1), (3, .int x3_10), (5, .int x5_11), (6, .int x6_12)] 1 C dX10_deepOf_106 (by decide) rfl (Nat.le_of_ble_eq_true rfl) rfl h (fun x4_16 h => ?_)
        refine tz_goto 11 C dX10_deepOf_109 (by decide) ?_
        exact tz_sub (ihag_2 _ _ _ _ h) [2, 3, 1, 4, 0] rfl
      · refine tz_iconst 0 (by decide) C dX10_deepOf_97 ?_
        refine tz_goto 104 C dX10_deepOf_98 (by decide) ?_
        refine tz_ior C dX10_deepOf_104 ?_
        refine tz_istore_n 2 [(0, .ref 133), (1, .int x1), (3, .int x3_10), (4, .int x4_6), (5, .int x5_11), (6, .int x6_12)] C dX10_deepOf_105 rfl (Nat.le_of_ble_eq_true rfl) rfl h (fun x2_17 h => ?_)
        refine tz_iinc 4 [(2, .int x2_17), (0, .ref 133), (1, .int x1), (3, .int x3_10), (5, .int x5_11), (6, .int x6_12)] 1 C dX10_deepOf_106 (by decide) rfl (Nat.le_of_ble_eq_true rfl) rfl h (fun x4_18 h => ?_)
        refine tz_goto 11 C dX10_deepOf_109 (by decide) ?_
        exact tz_sub (ihag_2 _ _ _ _ h) [2, 3, 1, 4, 0] rfl
    · refine tz_iload_n 2 2 C dX10_deepOf_34 rfl rfl ?_
      refine tz_iload 6 C dX10_deepOf_35 rfl ?_
      refine tz_callis C dX10_deepOf_37 lk_RX10_258 (m_X10_isIn G hG  h) rfl ⟨Nat.le_of_ble_eq_true rfl, Nat.le_of_ble_eq_true rfl⟩ (Nat.le_of_ble_eq_true rfl) rfl (fun r_20 σ_19 h => ?_)
      obtain ⟨K_21, hrK_21, h⟩ := h
      have hK_21 : ∀ (y_23 : Int32) (σ_22 : tzS), K_21 y_23 σ_22 → tz_V G E 53 [(0, .ref 133), (1, .int x1), (2, .int x2_4), (3, .int x3_10), (4, .int x4_6), (5, .int x5_11), (6, .int x6_12)] [.int y_23] σ_22 := by
        intro y_23 σ_22 h
        replace h := hrK_21 y_23 σ_22 h
        refine tz_istore [(0, .ref 133), (1, .int x1), (2, .int x2_4), (3, .int x3_10), (4, .int x4_6), (5, .int x5_11), (6, .int x6_12)] C dX10_deepOf_53 (Nat.le_of_ble_eq_true rfl) rfl h (fun x7_24 h => ?_)
        refine tz_iload 0 C dX10_deepOf_55 rfl ?_
        refine tz_iload 6 C dX10_deepOf_57 rfl ?_
        refine tz_icmp_le 67 C dX10_deepOf_59 (by decide) h (fun c_25 h => ?_) (fun c_25 h => ?_)
        · refine tz_iload_n 3 4 C dX10_deepOf_67 rfl rfl ?_
          refine tz_istore_n_k 3 [(7, .int x7_24), (0, .ref 133), (1, .int x1), (2, .int x2_4), (4, .int x4_6), (5, .int x5_11), (6, .int x6_12)] C dX10_deepOf_68 rfl (Nat.le_of_ble_eq_true rfl) rfl ?_
          refine tz_iload 1 C dX10_deepOf_69 rfl ?_
          refine tz_iload 6 C dX10_deepOf_71 rfl ?_
          refine tz_icmp_le_t 81 C dX10_deepOf_73 (by decide) c_25 ?_
          refine tz_iload 6 C dX10_deepOf_81 rfl ?_
          refine tz_istore_k [(3, .int x3_10), (7, .int x7_24), (0, .ref 133), (1, .int x1), (2, .int x2_4), (4, .int x4_6), (6, .int x6_12)] C dX10_deepOf_83 (Nat.le_of_ble_eq_true rfl) rfl ?_
          refine tz_iinc 7 [(5, .int x5_11), (3, .int x3_10), (7, .int x7_24), (0, .ref 133), (1, .int x1), (2, .int x2_4), (4, .int x4_6)] 1 C dX10_deepOf_85 (by decide) rfl (Nat.le_of_ble_eq_true rfl) rfl h (fun x6_26 h => ?_)
          refine tz_goto 25 C dX10_deepOf_88 (by decide) ?_
          exact tz_sub (ihag_8 _ _ _ _ h) [4, 5, 6, 2, 7, 1, 0] rfl
        · refine tz_iload 7 C dX10_deepOf_62 rfl ?_
          refine tz_goto 68 C dX10_deepOf_64 (by decide) ?_
          refine tz_istore_n_k 3 [(7, .int x7_24), (0, .ref 133), (1, .int x1), (2, .int x2_4), (4, .int x4_6), (5, .int x5_11), (6, .int x6_12)] C dX10_deepOf_68 rfl (Nat.le_of_ble_eq_true rfl) rfl ?_
          refine tz_iload 1 C dX10_deepOf_69 rfl ?_
          refine tz_iload 6 C dX10_deepOf_71 rfl ?_
          refine tz_icmp_le_f 81 C dX10_deepOf_73 (by decide) c_25 ?_
          refine tz_iload 1 C dX10_deepOf_76 rfl ?_
          refine tz_goto 83 C dX10_deepOf_78 (by decide) ?_
          refine tz_istore_k [(3, .int x6_12), (7, .int x7_24), (0, .ref 133), (1, .int x1), (2, .int x2_4), (4, .int x4_6), (6, .int x6_12)] C dX10_deepOf_83 (Nat.le_of_ble_eq_true rfl) rfl ?_
          refine tz_iinc 7 [(5, .int x7_24), (3, .int x6_12), (7, .int x7_24), (0, .ref 133), (1, .int x1), (2, .int x2_4), (4, .int x4_6)] 1 C dX10_deepOf_85 (by decide) rfl (Nat.le_of_ble_eq_true rfl) rfl h (fun x6_27 h => ?_)
          refine tz_goto 25 C dX10_deepOf_88 (by decide) ?_
          exact tz_sub (ihag_8 _ _ _ _ h) [4, 5, 6, 2, 7, 1, 0] rfl
      refine tz_if_eq 47 C dX10_deepOf_40 (by decide) h (fun c_28 h => ?_) (fun c_28 h => ?_)
      · refine tz_aload_n 0 0 C dX10_deepOf_47 rfl rfl ?_
        refine tz_iload 6 C dX10_deepOf_48 rfl ?_
        refine tz_calliv C dX10_deepOf_50 lk_RX10_255 (m_X10_depth G hG  h) (by decide) rfl rfl rfl rfl ⟨Nat.le_of_ble_eq_true rfl, Nat.le_of_ble_eq_true rfl⟩ (Nat.le_of_ble_eq_true rfl) rfl (fun r_30 σ_29 h => ?_)
        exact tz_sub (hK_21 _ _ h) [0, 1, 2, 3, 4, 5, 6] rfl
      · refine tz_iconst (-1) (by decide) C dX10_deepOf_43 ?_
        refine tz_goto 53 C dX10_deepOf_44 (by decide) ?_
        exact tz_sub (hK_21 _ _ h) [0, 1, 2, 3, 4, 5, 6] rfl

def vc_X10_deep (x1 : Int32) (σ : tzS) (Q : Int32 → tzS → Prop) : Prop :=
  vc_X10_in x1 0 10 σ (fun (r_2 : Int32) (σ_1 : tzS) =>
    (r_2 = 0 →
      Q (-2) σ_1) ∧
    (¬ r_2 = 0 →
      vc_X10_deepOf x1 σ_1 (fun (r_5 : Int32) (σ_4 : tzS) =>
        Q r_5 σ_4)))
set_option maxRecDepth 20000 in
set_option maxHeartbeats 4000000 in
theorem m_X10_deep (G : tzG) (hG : tz_ok G) {x1 : Int32}  {σ : tzS} {Q : Int32 → tzS → Prop} (h : vc_X10_deep x1 σ Q) : tz_M G yX10_deep cX10_deep 2 (some .int) 5 122 [.ref 133, .int x1] σ (tz_Qi G Q) := by
  unfold vc_X10_deep at h
  refine tz_starti hG RX10 [(0, .ref 133), (1, .int x1)] (by decide) rfl (Nat.le_of_ble_eq_true rfl) rfl (fun E C hret => ?_)
  refine tz_iload_n 1 1 C dX10_deep_0 rfl rfl ?_
  refine tz_iconst 0 (by decide) C dX10_deep_1 ?_
  refine tz_bipush 10 (by decide) C dX10_deep_2 ?_
  refine tz_callis C dX10_deep_4 lk_RX10_77 (m_X10_in G hG  h) rfl ⟨Nat.le_of_ble_eq_true rfl, Nat.le_of_ble_eq_true rfl⟩ (Nat.le_of_ble_eq_true rfl) rfl (fun r_2 σ_1 h => ?_)
  refine tz_if_eq 18 C dX10_deep_7 (by decide) h (fun c_3 h => ?_) (fun c_3 h => ?_)
  · refine tz_bipush (-2) (by decide) C dX10_deep_18 ?_
    exact hret _ _ _ _ dX10_deep_20 h
  · refine tz_aload_n 0 0 C dX10_deep_10 rfl rfl ?_
    refine tz_iload_n 1 1 C dX10_deep_11 rfl rfl ?_
    refine tz_calliv C dX10_deep_12 lk_RX10_261 (m_X10_deepOf G hG  h) (by decide) rfl rfl rfl rfl ⟨Nat.le_of_ble_eq_true rfl, Nat.le_of_ble_eq_true rfl⟩ (Nat.le_of_ble_eq_true rfl) rfl (fun r_5 σ_4 h => ?_)
    refine tz_goto 20 C dX10_deep_15 (by decide) ?_
    exact hret _ _ _ _ dX10_deep_20 h

def vc_X10_apartOf (x1 : Int32) (x2 : Int32) (σ : tzS) (Q : Int32 → tzS → Prop) : Prop :=
  vc_X10_partsTold  σ (fun (σ_1 : tzS) =>
    vc_X10_totalNow x1 σ_1 (fun (r_3 : Int32) (σ_2 : tzS) =>
      (¬ r_3 = (-1) →
        tz_loop2 (fun (x3_7 : Int32) (x4_8 : Int32) (σ_6 : tzS) (ag_5 : Int32 → Int32 → tzS → Prop) =>
          (x1 ≤ x4_8 →
            tz_loop2 (fun (x4_12 : Int32) (x5_13 : Int32) (σ_11 : tzS) (ag_10 : Int32 → Int32 → tzS → Prop) =>
              ((σ_11.1 133 7) ≤ (x5_13 + x2) →
                Q x4_12 σ_11) ∧
              (¬ (σ_11.1 133 7) ≤ (x5_13 + x2) →
                ∀ x8_15 : Int32, x8_15 = (x5_13 + 1) →
                tz_loop3 (fun (x6_18 : Int32) (x7_19 : Int32) (x8_20 : Int32) (σ_17 : tzS) (ag_16 : Int32 → Int32 → Int32 → tzS → Prop) =>
                  ((x5_13 + x2) < x8_20 →
                    (x6_18 = x7_19 →
                      ∀ x4_23 : Int32, x4_23 = (x4_12 + 0) →
                      ∀ x5_24 : Int32, x5_24 = x5_13 + 1 →
                      ag_10 x4_23 x5_24 σ_17) ∧
                    (¬ x6_18 = x7_19 →
                      ∀ x4_25 : Int32, x4_25 = (x4_12 + 1) →
                      ∀ x5_26 : Int32, x5_26 = x5_13 + 1 →
                      ag_10 x4_25 x5_26 σ_17)) ∧
                  (¬ (x5_13 + x2) < x8_20 →
                    vc_X10_isIn x3_7 x8_20 σ_17 (fun (r_28 : Int32) (σ_27 : tzS) =>
                      (r_28 = 0 →
                        ∀ x6_30 : Int32, x6_30 = (x6_18 + 0) →
                        vc_X10_isIn (σ_27.1 133 3) x8_20 σ_27 (fun (r_32 : Int32) (σ_31 : tzS) =>
                          (r_32 = 0 →
                            ∀ x7_34 : Int32, x7_34 = (x7_19 + 0) →
                            ∀ x8_35 : Int32, x8_35 = x8_20 + 1 →
                            ag_16 x6_30 x7_34 x8_35 σ_31) ∧
                          (¬ r_32 = 0 →
                            ∀ x7_36 : Int32, x7_36 = (x7_19 + 1) →
                            ∀ x8_37 : Int32, x8_37 = x8_20 + 1 →
                            ag_16 x6_30 x7_36 x8_37 σ_31))) ∧
                      (¬ r_28 = 0 →
                        ∀ x6_38 : Int32, x6_38 = (x6_18 + 1) →
                        vc_X10_isIn (σ_27.1 133 3) x8_20 σ_27 (fun (r_40 : Int32) (σ_39 : tzS) =>
                          (r_40 = 0 →
                            ∀ x7_42 : Int32, x7_42 = (x7_19 + 0) →
                            ∀ x8_43 : Int32, x8_43 = x8_20 + 1 →
                            ag_16 x6_38 x7_42 x8_43 σ_39) ∧
                          (¬ r_40 = 0 →
                            ∀ x7_44 : Int32, x7_44 = (x7_19 + 1) →
                            ∀ x8_45 : Int32, x8_45 = x8_20 + 1 →
                            ag_16 x6_38 x7_44 x8_45 σ_39)))))) (0 : Int32) (0 : Int32) x8_15 σ_11)) (0 : Int32) (0 : Int32) σ_6) ∧
          (¬ x1 ≤ x4_8 →
            vc_X10_seamNow x1 x4_8 σ_6 (fun (r_47 : Int32) (σ_46 : tzS) =>
              ∀ x3_48 : Int32, x3_48 = (x3_7 ||| ((1 : Int32) <<< (r_47 &&& 31))) →
              ∀ x4_49 : Int32, x4_49 = x4_8 + 1 →
              ag_5 x3_48 x4_49 σ_46))) (0 : Int32) (1 : Int32) σ_2) ∧
      (r_3 = (-1) →
        Q (-1) σ_2)))
set_option maxRecDepth 20000 in
set_option maxHeartbeats 4000000 in
theorem m_X10_apartOf (G : tzG) (hG : tz_ok G) {x1 : Int32} {x2 : Int32}  {σ : tzS} {Q : Int32 → tzS → Prop} (h : vc_X10_apartOf x1 x2 σ Q) : tz_M G yX10_apartOf cX10_apartOf 9 (some .int) 5 115 [.ref 133, .int x1, .int x2] σ (tz_Qi G Q) := by
  unfold vc_X10_apartOf at h
  refine tz_starti hG RX10 [(0, .ref 133), (1, .int x1), (2, .int x2)] (by decide) rfl (Nat.le_of_ble_eq_true rfl) rfl (fun E C hret => ?_)
  refine tz_aload_n 0 0 C dX10_apartOf_0 rfl rfl ?_
  refine tz_callvv C dX10_apartOf_1 lk_RX10_228 (m_X10_partsTold G hG  h) (by decide) rfl rfl rfl rfl ⟨Nat.le_of_ble_eq_true rfl, Nat.le_of_ble_eq_true rfl⟩ (Nat.le_of_ble_eq_true rfl) rfl (fun σ_1 h => ?_)
  refine tz_aload_n 0 0 C dX10_apartOf_4 rfl rfl ?_
  refine tz_iload_n 1 1 C dX10_apartOf_5 rfl rfl ?_
  refine tz_calliv C dX10_apartOf_6 lk_RX10_231 (m_X10_totalNow G hG  h) (by decide) rfl rfl rfl rfl ⟨Nat.le_of_ble_eq_true rfl, Nat.le_of_ble_eq_true rfl⟩ (Nat.le_of_ble_eq_true rfl) rfl (fun r_3 σ_2 h => ?_)
  refine tz_iconst (-1) (by decide) C dX10_apartOf_9 ?_
  refine tz_icmp_ne 15 C dX10_apartOf_10 (by decide) h (fun c_4 h => ?_) (fun c_4 h => ?_)
  · refine tz_iconst 0 (by decide) C dX10_apartOf_15 ?_
    refine tz_istore_n_k 3 [(0, .ref 133), (1, .int x1), (2, .int x2)] C dX10_apartOf_16 rfl (Nat.le_of_ble_eq_true rfl) rfl ?_
    refine tz_iconst 1 (by decide) C dX10_apartOf_17 ?_
    refine tz_istore_k [(3, .int 0), (0, .ref 133), (1, .int x1), (2, .int x2)] C dX10_apartOf_18 (Nat.le_of_ble_eq_true rfl) rfl ?_
    refine tz_sub (L := [(0, .ref 133), (1, .int x1), (2, .int x2), (3, .int 0), (4, .int 1)]) ?_ [2, 3, 4, 1, 0] rfl
    refine tz_loop2_w (V := fun (x3_7 : Int32) (x4_8 : Int32) (σ_6 : tzS) => tz_V G E 20 [(0, .ref 133), (1, .int x1), (2, .int x2), (3, .int x3_7), (4, .int x4_8)] [] σ_6) h (fun ag_5 ihag_5 x3_7 x4_8 σ_6 h => ?_)
    refine tz_iload 4 C dX10_apartOf_20 rfl ?_
    refine tz_iload_n 1 1 C dX10_apartOf_22 rfl rfl ?_
    refine tz_icmp_ge 44 C dX10_apartOf_23 (by decide) h (fun c_9 h => ?_) (fun c_9 h => ?_)
    · refine tz_iconst 0 (by decide) C dX10_apartOf_44 ?_
      refine tz_istore_k [(0, .ref 133), (1, .int x1), (2, .int x2), (3, .int x3_7)] C dX10_apartOf_45 (Nat.le_of_ble_eq_true rfl) rfl ?_
      refine tz_iconst 0 (by decide) C dX10_apartOf_47 ?_
      refine tz_istore_k [(4, .int 0), (0, .ref 133), (1, .int x1), (2, .int x2), (3, .int x3_7)] C dX10_apartOf_48 (Nat.le_of_ble_eq_true rfl) rfl ?_
      refine tz_sub (L := [(0, .ref 133), (2, .int x2), (3, .int x3_7), (4, .int 0), (5, .int 0)]) ?_ [2, 4, 5, 1, 0] rfl
      refine tz_loop2_w (V := fun (x4_12 : Int32) (x5_13 : Int32) (σ_11 : tzS) => tz_V G E 50 [(0, .ref 133), (2, .int x2), (3, .int x3_7), (4, .int x4_12), (5, .int x5_13)] [] σ_11) h (fun ag_10 ihag_10 x4_12 x5_13 σ_11 h => ?_)
      refine tz_iload 4 C dX10_apartOf_50 rfl ?_
      refine tz_iload_n 2 1 C dX10_apartOf_52 rfl rfl ?_
      refine tz_iadd C dX10_apartOf_53 ?_
      refine tz_aload_n 0 0 C dX10_apartOf_54 rfl rfl ?_
      refine tz_getI C dX10_apartOf_55 fl_RX10_109 (by decide) rfl rfl ?_
      refine tz_icmp_ge 152 C dX10_apartOf_58 (by decide) h (fun c_14 h => ?_) (fun c_14 h => ?_)
      · refine tz_iload 3 C dX10_apartOf_152 rfl ?_
        exact hret _ _ _ _ dX10_apartOf_154 h
      · refine tz_iconst 0 (by decide) C dX10_apartOf_61 ?_
        refine tz_istore_k [(0, .ref 133), (2, .int x2), (3, .int x3_7), (4, .int x4_12), (5, .int x5_13)] C dX10_apartOf_62 (Nat.le_of_ble_eq_true rfl) rfl ?_
        refine tz_iconst 0 (by decide) C dX10_apartOf_64 ?_
        refine tz_istore_k [(6, .int 0), (0, .ref 133), (2, .int x2), (3, .int x3_7), (4, .int x4_12), (5, .int x5_13)] C dX10_apartOf_65 (Nat.le_of_ble_eq_true rfl) rfl ?_
        refine tz_iload 6 C dX10_apartOf_67 rfl ?_
        refine tz_iconst 1 (by decide) C dX10_apartOf_69 ?_
        refine tz_iadd C dX10_apartOf_70 ?_
        refine tz_istore [(7, .int 0), (6, .int 0), (0, .ref 133), (2, .int x2), (3, .int x3_7), (4, .int x4_12), (5, .int x5_13)] C dX10_apartOf_71 (Nat.le_of_ble_eq_true rfl) rfl h (fun x8_15 h => ?_)
        refine tz_sub (L := [(0, .ref 133), (2, .int x2), (3, .int x3_7), (4, .int x4_12), (5, .int x5_13), (6, .int 0), (7, .int 0), (8, .int x8_15)]) ?_ [3, 4, 5, 6, 7, 2, 1, 0] rfl
        refine tz_loop3_w (V := fun (x6_18 : Int32) (x7_19 : Int32) (x8_20 : Int32) (σ_17 : tzS) => tz_V G E 73 [(0, .ref 133), (2, .int x2), (3, .int x3_7), (4, .int x4_12), (5, .int x5_13), (6, .int x6_18), (7, .int x7_19), (8, .int x8_20)] [] σ_17) h (fun ag_16 ihag_16 x6_18 x7_19 x8_20 σ_17 h => ?_)
        refine tz_iload 7 C dX10_apartOf_73 rfl ?_
        refine tz_iload 4 C dX10_apartOf_75 rfl ?_
        refine tz_iload_n 2 1 C dX10_apartOf_77 rfl rfl ?_
        refine tz_iadd C dX10_apartOf_78 ?_
        refine tz_icmp_gt 129 C dX10_apartOf_79 (by decide) h (fun c_21 h => ?_) (fun c_21 h => ?_)
        · refine tz_iload 3 C dX10_apartOf_129 rfl ?_
          refine tz_iload 5 C dX10_apartOf_131 rfl ?_
          refine tz_iload 6 C dX10_apartOf_133 rfl ?_
          refine tz_icmp_eq 142 C dX10_apartOf_135 (by decide) h (fun c_22 h => ?_) (fun c_22 h => ?_)
          · refine tz_iconst 0 (by decide) C dX10_apartOf_142 ?_
            refine tz_iadd C dX10_apartOf_143 ?_
            refine tz_istore [(0, .ref 133), (2, .int x2), (3, .int x3_7), (5, .int x5_13), (6, .int x6_18), (7, .int x7_19), (8, .int x8_20)] C dX10_apartOf_144 (Nat.le_of_ble_eq_true rfl) rfl h (fun x4_23 h => ?_)
            refine tz_iinc 4 [(4, .int x4_23), (0, .ref 133), (2, .int x2), (3, .int x3_7), (6, .int x6_18), (7, .int x7_19), (8, .int x8_20)] 1 C dX10_apartOf_146 (by decide) rfl (Nat.le_of_ble_eq_true rfl) rfl h (fun x5_24 h => ?_)
            refine tz_goto 50 C dX10_apartOf_149 (by decide) ?_
            exact tz_sub (ihag_10 _ _ _ h) [2, 3, 4, 1, 0] rfl
          · refine tz_iconst 1 (by decide) C dX10_apartOf_138 ?_
            refine tz_goto 143 C dX10_apartOf_139 (by decide) ?_
            refine tz_iadd C dX10_apartOf_143 ?_
            refine tz_istore [(0, .ref 133), (2, .int x2), (3, .int x3_7), (5, .int x5_13), (6, .int x6_18), (7, .int x7_19), (8, .int x8_20)] C dX10_apartOf_144 (Nat.le_of_ble_eq_true rfl) rfl h (fun x4_25 h => ?_)
            refine tz_iinc 4 [(4, .int x4_25), (0, .ref 133), (2, .int x2), (3, .int x3_7), (6, .int x6_18), (7, .int x7_19), (8, .int x8_20)] 1 C dX10_apartOf_146 (by decide) rfl (Nat.le_of_ble_eq_true rfl) rfl h (fun x5_26 h => ?_)
            refine tz_goto 50 C dX10_apartOf_149 (by decide) ?_
            exact tz_sub (ihag_10 _ _ _ h) [2, 3, 4, 1, 0] rfl
        · refine tz_iload 5 C dX10_apartOf_82 rfl ?_
          refine tz_iload_n 3 2 C dX10_apartOf_84 rfl rfl ?_
          refine tz_iload 7 C dX10_apartOf_85 rfl ?_
          refine tz_callis C dX10_apartOf_87 lk_RX10_258 (m_X10_isIn G hG  h) rfl ⟨Nat.le_of_ble_eq_true rfl, Nat.le_of_ble_eq_true rfl⟩ (Nat.le_of_ble_eq_true rfl) rfl (fun r_28 σ_27 h => ?_)
          refine tz_if_eq 97 C dX10_apartOf_90 (by decide) h (fun c_29 h => ?_) (fun c_29 h => ?_)
          · refine tz_iconst 0 (by decide) C dX10_apartOf_97 ?_
            refine tz_iadd C dX10_apartOf_98 ?_
            refine tz_istore [(0, .ref 133), (2, .int x2), (3, .int x3_7), (4, .int x4_12), (5, .int x5_13), (7, .int x7_19), (8, .int x8_20)] C dX10_apartOf_99 (Nat.le_of_ble_eq_true rfl) rfl h (fun x6_30 h => ?_)
            refine tz_iload 6 C dX10_apartOf_101 rfl ?_
            refine tz_aload_n 0 1 C dX10_apartOf_103 rfl rfl ?_
            refine tz_getI C dX10_apartOf_104 fl_RX10_89 (by decide) rfl rfl ?_
            refine tz_iload 7 C dX10_apartOf_107 rfl ?_
            refine tz_callis C dX10_apartOf_109 lk_RX10_258 (m_X10_isIn G hG  h) rfl ⟨Nat.le_of_ble_eq_true rfl, Nat.le_of_ble_eq_true rfl⟩ (Nat.le_of_ble_eq_true rfl) rfl (fun r_32 σ_31 h => ?_)
            refine tz_if_eq 119 C dX10_apartOf_112 (by decide) h (fun c_33 h => ?_) (fun c_33 h => ?_)
            · refine tz_iconst 0 (by decide) C dX10_apartOf_119 ?_
              refine tz_iadd C dX10_apartOf_120 ?_
              refine tz_istore [(6, .int x6_30), (0, .ref 133), (2, .int x2), (3, .int x3_7), (4, .int x4_12), (5, .int x5_13), (8, .int x8_20)] C dX10_apartOf_121 (Nat.le_of_ble_eq_true rfl) rfl h (fun x7_34 h => ?_)
              refine tz_iinc 7 [(7, .int x7_34), (6, .int x6_30), (0, .ref 133), (2, .int x2), (3, .int x3_7), (4, .int x4_12), (5, .int x5_13)] 1 C dX10_apartOf_123 (by decide) rfl (Nat.le_of_ble_eq_true rfl) rfl h (fun x8_35 h => ?_)
              refine tz_goto 73 C dX10_apartOf_126 (by decide) ?_
              exact tz_sub (ihag_16 _ _ _ _ h) [3, 4, 5, 6, 7, 2, 1, 0] rfl
            · refine tz_iconst 1 (by decide) C dX10_apartOf_115 ?_
              refine tz_goto 120 C dX10_apartOf_116 (by decide) ?_
              refine tz_iadd C dX10_apartOf_120 ?_
              refine tz_istore [(6, .int x6_30), (0, .ref 133), (2, .int x2), (3, .int x3_7), (4, .int x4_12), (5, .int x5_13), (8, .int x8_20)] C dX10_apartOf_121 (Nat.le_of_ble_eq_true rfl) rfl h (fun x7_36 h => ?_)
              refine tz_iinc 7 [(7, .int x7_36), (6, .int x6_30), (0, .ref 133), (2, .int x2), (3, .int x3_7), (4, .int x4_12), (5, .int x5_13)] 1 C dX10_apartOf_123 (by decide) rfl (Nat.le_of_ble_eq_true rfl) rfl h (fun x8_37 h => ?_)
              refine tz_goto 73 C dX10_apartOf_126 (by decide) ?_
              exact tz_sub (ihag_16 _ _ _ _ h) [3, 4, 5, 6, 7, 2, 1, 0] rfl
          · refine tz_iconst 1 (by decide) C dX10_apartOf_93 ?_
            refine tz_goto 98 C dX10_apartOf_94 (by decide) ?_
            refine tz_iadd C dX10_apartOf_98 ?_
            refine tz_istore [(0, .ref 133), (2, .int x2), (3, .int x3_7), (4, .int x4_12), (5, .int x5_13), (7, .int x7_19), (8, .int x8_20)] C dX10_apartOf_99 (Nat.le_of_ble_eq_true rfl) rfl h (fun x6_38 h => ?_)
            refine tz_iload 6 C dX10_apartOf_101 rfl ?_
            refine tz_aload_n 0 1 C dX10_apartOf_103 rfl rfl ?_
            refine tz_getI C dX10_apartOf_104 fl_RX10_89 (by decide) rfl rfl ?_
            refine tz_iload 7 C dX10_apartOf_107 rfl ?_
            refine tz_callis C dX10_apartOf_109 lk_RX10_258 (m_X10_isIn G hG  h) rfl ⟨Nat.le_of_ble_eq_true rfl, Nat.le_of_ble_eq_true rfl⟩ (Nat.le_of_ble_eq_true rfl) rfl (fun r_40 σ_39 h => ?_)
            refine tz_if_eq 119 C dX10_apartOf_112 (by decide) h (fun c_41 h => ?_) (fun c_41 h => ?_)
            · refine tz_iconst 0 (by decide) C dX10_apartOf_119 ?_
              refine tz_iadd C dX10_apartOf_120 ?_
              refine tz_istore [(6, .int x6_38), (0, .ref 133), (2, .int x2), (3, .int x3_7), (4, .int x4_12), (5, .int x5_13), (8, .int x8_20)] C dX10_apartOf_121 (Nat.le_of_ble_eq_true rfl) rfl h (fun x7_42 h => ?_)
              refine tz_iinc 7 [(7, .int x7_42), (6, .int x6_38), (0, .ref 133), (2, .int x2), (3, .int x3_7), (4, .int x4_12), (5, .int x5_13)] 1 C dX10_apartOf_123 (by decide) rfl (Nat.le_of_ble_eq_true rfl) rfl h (fun x8_43 h => ?_)
              refine tz_goto 73 C dX10_apartOf_126 (by decide) ?_
              exact tz_sub (ihag_16 _ _ _ _ h) [3, 4, 5, 6, 7, 2, 1, 0] rfl
            · refine tz_iconst 1 (by decide) C dX10_apartOf_115 ?_
              refine tz_goto 120 C dX10_apartOf_116 (by decide) ?_
              refine tz_iadd C dX10_apartOf_120 ?_
              refine tz_istore [(6, .int x6_38), (0, .ref 133), (2, .int x2), (3, .int x3_7), (4, .int x4_12), (5, .int x5_13), (8, .int x8_20)] C dX10_apartOf_121 (Nat.le_of_ble_eq_true rfl) rfl h (fun x7_44 h => ?_)
              refine tz_iinc 7 [(7, .int x7_44), (6, .int x6_38), (0, .ref 133), (2, .int x2), (3, .int x3_7), (4, .int x4_12), (5, .int x5_13)] 1 C dX10_apartOf_123 (by decide) rfl (Nat.le_of_ble_eq_true rfl) rfl h (fun x8_45 h => ?_)
              refine tz_goto 73 C dX10_apartOf_126 (by decide) ?_
              exact tz_sub (ihag_16 _ _ _ _ h) [3, 4, 5, 6, 7, 2, 1, 0] rfl
    · refine tz_iload_n 3 3 C dX10_apartOf_26 rfl rfl ?_
      refine tz_iconst 1 (by decide) C dX10_apartOf_27 ?_
      refine tz_aload_n 0 0 C dX10_apartOf_28 rfl rfl ?_
      refine tz_iload_n 1 1 C dX10_apartOf_29 rfl rfl ?_
      refine tz_iload 4 C dX10_apartOf_30 rfl ?_
      refine tz_calliv C dX10_apartOf_32 lk_RX10_240 (m_X10_seamNow G hG  h) (by decide) rfl rfl rfl rfl ⟨Nat.le_of_ble_eq_true rfl, Nat.le_of_ble_eq_true rfl⟩ (Nat.le_of_ble_eq_true rfl) rfl (fun r_47 σ_46 h => ?_)
      refine tz_ishl C dX10_apartOf_35 ?_
      refine tz_ior C dX10_apartOf_36 ?_
      refine tz_istore_n 3 [(0, .ref 133), (1, .int x1), (2, .int x2), (4, .int x4_8)] C dX10_apartOf_37 rfl (Nat.le_of_ble_eq_true rfl) rfl h (fun x3_48 h => ?_)
      refine tz_iinc 4 [(3, .int x3_48), (0, .ref 133), (1, .int x1), (2, .int x2)] 1 C dX10_apartOf_38 (by decide) rfl (Nat.le_of_ble_eq_true rfl) rfl h (fun x4_49 h => ?_)
      refine tz_goto 20 C dX10_apartOf_41 (by decide) ?_
      exact tz_sub (ihag_5 _ _ _ h) [2, 3, 4, 1, 0] rfl
  · refine tz_iconst (-1) (by decide) C dX10_apartOf_13 ?_
    exact hret _ _ _ _ dX10_apartOf_14 h

def vc_X10_apart (x1 : Int32) (x2 : Int32) (σ : tzS) (Q : Int32 → tzS → Prop) : Prop :=
  vc_X10_isParts x1 σ (fun (r_2 : Int32) (σ_1 : tzS) =>
    (r_2 = 0 →
      Q (-2) σ_1) ∧
    (¬ r_2 = 0 →
      vc_X10_in x2 1 11 σ_1 (fun (r_5 : Int32) (σ_4 : tzS) =>
        (r_5 = 0 →
          Q (-2) σ_4) ∧
        (¬ r_5 = 0 →
          vc_X10_apartOf x1 x2 σ_4 (fun (r_8 : Int32) (σ_7 : tzS) =>
            Q r_8 σ_7)))))
set_option maxRecDepth 20000 in
set_option maxHeartbeats 4000000 in
theorem m_X10_apart (G : tzG) (hG : tz_ok G) {x1 : Int32} {x2 : Int32}  {σ : tzS} {Q : Int32 → tzS → Prop} (h : vc_X10_apart x1 x2 σ Q) : tz_M G yX10_apart cX10_apart 3 (some .int) 6 143 [.ref 133, .int x1, .int x2] σ (tz_Qi G Q) := by
  unfold vc_X10_apart at h
  refine tz_starti hG RX10 [(0, .ref 133), (1, .int x1), (2, .int x2)] (by decide) rfl (Nat.le_of_ble_eq_true rfl) rfl (fun E C hret => ?_)
  refine tz_iload_n 1 1 C dX10_apart_0 rfl rfl ?_
  refine tz_callis C dX10_apart_1 lk_RX10_234 (m_X10_isParts G hG  h) rfl ⟨Nat.le_of_ble_eq_true rfl, Nat.le_of_ble_eq_true rfl⟩ (Nat.le_of_ble_eq_true rfl) rfl (fun r_2 σ_1 h => ?_)
  refine tz_if_eq 26 C dX10_apart_4 (by decide) h (fun c_3 h => ?_) (fun c_3 h => ?_)
  · refine tz_bipush (-2) (by decide) C dX10_apart_26 ?_
    exact hret _ _ _ _ dX10_apart_28 h
  · refine tz_iload_n 2 2 C dX10_apart_7 rfl rfl ?_
    refine tz_iconst 1 (by decide) C dX10_apart_8 ?_
    refine tz_bipush 11 (by decide) C dX10_apart_9 ?_
    refine tz_callis C dX10_apart_11 lk_RX10_77 (m_X10_in G hG  h) rfl ⟨Nat.le_of_ble_eq_true rfl, Nat.le_of_ble_eq_true rfl⟩ (Nat.le_of_ble_eq_true rfl) rfl (fun r_5 σ_4 h => ?_)
    refine tz_if_eq 26 C dX10_apart_14 (by decide) h (fun c_6 h => ?_) (fun c_6 h => ?_)
    · refine tz_bipush (-2) (by decide) C dX10_apart_26 ?_
      exact hret _ _ _ _ dX10_apart_28 h
    · refine tz_aload_n 0 0 C dX10_apart_17 rfl rfl ?_
      refine tz_iload_n 1 1 C dX10_apart_18 rfl rfl ?_
      refine tz_iload_n 2 2 C dX10_apart_19 rfl rfl ?_
      refine tz_calliv C dX10_apart_20 lk_RX10_264 (m_X10_apartOf G hG  h) (by decide) rfl rfl rfl rfl ⟨Nat.le_of_ble_eq_true rfl, Nat.le_of_ble_eq_true rfl⟩ (Nat.le_of_ble_eq_true rfl) rfl (fun r_8 σ_7 h => ?_)
      refine tz_goto 28 C dX10_apart_23 (by decide) ?_
      exact hret _ _ _ _ dX10_apart_28 h

def vc_X10_sheet (x1 : Int32) (x2 : Int32) (x3 : Int32) (σ : tzS) (Q : Int32 → tzS → Prop) : Prop :=
  vc_X10_isSheet x1 σ (fun (r_2 : Int32) (σ_1 : tzS) =>
    (r_2 = 0 →
      Q (-2) σ_1) ∧
    (¬ r_2 = 0 →
      vc_X10_in x2 0 2 σ_1 (fun (r_5 : Int32) (σ_4 : tzS) =>
        (r_5 = 0 →
          Q (-2) σ_4) ∧
        (¬ r_5 = 0 →
          (x3 ≤ 60 →
            ((0 : Int32) ≤ x3 →
              vp_in x1 4 ∧ (
                ∀ σ_9 : tzS, σ_9 = tz_st σ_4 151 x1.toNatClampNeg 1 →
                ∀ σ_11 : tzS, σ_11 = tz_st σ_9 152 x1.toNatClampNeg x2 →
                ∀ σ_12 : tzS, σ_12 = tz_st σ_11 153 x1.toNatClampNeg x3 →
                tz_loop1 (fun (x4_15 : Int32) (σ_14 : tzS) (ag_13 : Int32 → tzS → Prop) =>
                  ((60 : Int32) ≤ x4_15 →
                    Q x3 σ_14) ∧
                  (¬ (60 : Int32) ≤ x4_15 →
                    vp_in ((60 * x1) + x4_15) 240 ∧ (
                      ∀ σ_17 : tzS, σ_17 = tz_st σ_14 154 ((60 * x1) + x4_15).toNatClampNeg 0 →
                      ∀ x4_19 : Int32, x4_19 = x4_15 + 1 →
                      ag_13 x4_19 σ_17))) (0 : Int32) σ_12)) ∧
            (¬ (0 : Int32) ≤ x3 →
              vc_X10_meets 5 σ_4 (fun (r_21 : Int32) (σ_20 : tzS) =>
                Q r_21 σ_20))) ∧
          (¬ x3 ≤ 60 →
            Q (-2) σ_4)))))
set_option maxRecDepth 20000 in
set_option maxHeartbeats 4000000 in
theorem m_X10_sheet (G : tzG) (hG : tz_ok G) {x1 : Int32} {x2 : Int32} {x3 : Int32}  {σ : tzS} {Q : Int32 → tzS → Prop} (h : vc_X10_sheet x1 x2 x3 σ Q) : tz_M G yX10_sheet cX10_sheet 5 (some .int) 2 42 [.ref 133, .int x1, .int x2, .int x3] σ (tz_Qi G Q) := by
  unfold vc_X10_sheet at h
  refine tz_starti hG RX10 [(0, .ref 133), (1, .int x1), (2, .int x2), (3, .int x3)] (by decide) rfl (Nat.le_of_ble_eq_true rfl) rfl (fun E C hret => ?_)
  refine tz_iload_n 1 1 C dX10_sheet_0 rfl rfl ?_
  refine tz_callis C dX10_sheet_1 lk_RX10_92 (m_X10_isSheet G hG  h) rfl ⟨Nat.le_of_ble_eq_true rfl, Nat.le_of_ble_eq_true rfl⟩ (Nat.le_of_ble_eq_true rfl) rfl (fun r_2 σ_1 h => ?_)
  refine tz_if_eq 22 C dX10_sheet_4 (by decide) h (fun c_3 h => ?_) (fun c_3 h => ?_)
  · refine tz_bipush (-2) (by decide) C dX10_sheet_22 ?_
    exact hret _ _ _ _ dX10_sheet_24 h
  · refine tz_iload_n 2 2 C dX10_sheet_7 rfl rfl ?_
    refine tz_iconst 0 (by decide) C dX10_sheet_8 ?_
    refine tz_iconst 2 (by decide) C dX10_sheet_9 ?_
    refine tz_callis C dX10_sheet_10 lk_RX10_77 (m_X10_in G hG  h) rfl ⟨Nat.le_of_ble_eq_true rfl, Nat.le_of_ble_eq_true rfl⟩ (Nat.le_of_ble_eq_true rfl) rfl (fun r_5 σ_4 h => ?_)
    refine tz_if_eq 22 C dX10_sheet_13 (by decide) h (fun c_6 h => ?_) (fun c_6 h => ?_)
    · refine tz_bipush (-2) (by decide) C dX10_sheet_22 ?_
      exact hret _ _ _ _ dX10_sheet_24 h
    · refine tz_iload_n 3 3 C dX10_sheet_16 rfl rfl ?_
      refine tz_bipush 60 (by decide) C dX10_sheet_17 ?_
      refine tz_icmp_le 25 C dX10_sheet_19 (by decide) h (fun c_7 h => ?_) (fun c_7 h => ?_)
      · refine tz_iload_n 3 3 C dX10_sheet_25 rfl rfl ?_
        refine tz_if_ge 35 C dX10_sheet_26 (by decide) h (fun c_8 h => ?_) (fun c_8 h => ?_)
        · refine tz_aload_n 0 0 C dX10_sheet_35 rfl rfl ?_
          refine tz_getR C dX10_sheet_36 fl_RX10_61 (by decide) rfl rfl ?_
          refine tz_iload_n 1 1 C dX10_sheet_39 rfl rfl ?_
          refine tz_iconst 1 (by decide) C dX10_sheet_40 ?_
          have hin_10 := h.1
          refine tz_zast C dX10_sheet_41 (by decide) rfl rfl h (fun σ_9 h => ?_)
          refine tz_aload_n 0 0 C dX10_sheet_42 rfl rfl ?_
          refine tz_getR C dX10_sheet_43 fl_RX10_65 (by decide) rfl rfl ?_
          refine tz_iload_n 1 1 C dX10_sheet_46 rfl rfl ?_
          refine tz_iload_n 2 2 C dX10_sheet_47 rfl rfl ?_
          refine tz_iast_c _ C dX10_sheet_48 (by decide) rfl hin_10 rfl h (fun σ_11 h => ?_)
          refine tz_aload_n 0 0 C dX10_sheet_49 rfl rfl ?_
          refine tz_getR C dX10_sheet_50 fl_RX10_68 (by decide) rfl rfl ?_
          refine tz_iload_n 1 1 C dX10_sheet_53 rfl rfl ?_
          refine tz_iload_n 3 3 C dX10_sheet_54 rfl rfl ?_
          refine tz_iast_c _ C dX10_sheet_55 (by decide) rfl hin_10 rfl h (fun σ_12 h => ?_)
          refine tz_iconst 0 (by decide) C dX10_sheet_56 ?_
          refine tz_istore_k [(0, .ref 133), (1, .int x1), (2, .int x2), (3, .int x3)] C dX10_sheet_57 (Nat.le_of_ble_eq_true rfl) rfl ?_
          refine tz_sub (L := [(0, .ref 133), (1, .int x1), (3, .int x3), (4, .int 0)]) ?_ [1, 2, 4, 0] rfl
          refine tz_loop1_w (V := fun (x4_15 : Int32) (σ_14 : tzS) => tz_V G E 59 [(0, .ref 133), (1, .int x1), (3, .int x3), (4, .int x4_15)] [] σ_14) h (fun ag_13 ihag_13 x4_15 σ_14 h => ?_)
          refine tz_iload 3 C dX10_sheet_59 rfl ?_
          refine tz_bipush 60 (by decide) C dX10_sheet_61 ?_
          refine tz_icmp_ge 85 C dX10_sheet_63 (by decide) h (fun c_16 h => ?_) (fun c_16 h => ?_)
          · refine tz_iload_n 3 2 C dX10_sheet_85 rfl rfl ?_
            exact hret _ _ _ _ dX10_sheet_86 h
          · refine tz_aload_n 0 0 C dX10_sheet_66 rfl rfl ?_
            refine tz_getR C dX10_sheet_67 fl_RX10_71 (by decide) rfl rfl ?_
            refine tz_bipush 60 (by decide) C dX10_sheet_70 ?_
            refine tz_iload_n 1 1 C dX10_sheet_72 rfl rfl ?_
            refine tz_imul C dX10_sheet_73 ?_
            refine tz_iload 3 C dX10_sheet_74 rfl ?_
            refine tz_iadd C dX10_sheet_76 ?_
            refine tz_iconst 0 (by decide) C dX10_sheet_77 ?_
            have hin_18 := h.1
            refine tz_iast C dX10_sheet_78 (by decide) rfl h (fun σ_17 h => ?_)
            refine tz_iinc 3 [(0, .ref 133), (1, .int x1), (3, .int x3)] 1 C dX10_sheet_79 (by decide) rfl (Nat.le_of_ble_eq_true rfl) rfl h (fun x4_19 h => ?_)
            refine tz_goto 59 C dX10_sheet_82 (by decide) ?_
            exact tz_sub (ihag_13 _ _ h) [1, 2, 3, 0] rfl
        · refine tz_aload_n 0 0 C dX10_sheet_29 rfl rfl ?_
          refine tz_iconst 5 (by decide) C dX10_sheet_30 ?_
          refine tz_calliv C dX10_sheet_31 lk_RX10_96 (m_X10_meets G hG  h) (by decide) rfl rfl rfl rfl ⟨Nat.le_of_ble_eq_true rfl, Nat.le_of_ble_eq_true rfl⟩ (Nat.le_of_ble_eq_true rfl) rfl (fun r_21 σ_20 h => ?_)
          exact hret _ _ _ _ dX10_sheet_34 h
      · refine tz_bipush (-2) (by decide) C dX10_sheet_22 ?_
        exact hret _ _ _ _ dX10_sheet_24 h

def vc_X10_lose (x1 : Int32) (σ : tzS) (Q : Int32 → tzS → Prop) : Prop :=
  vc_X10_isSheet x1 σ (fun (r_2 : Int32) (σ_1 : tzS) =>
    (¬ r_2 = 0 →
      vp_in x1 4 ∧ (
        (¬ (σ_1.1 151 x1.toNatClampNeg) = 0 →
          ∀ σ_6 : tzS, σ_6 = tz_st σ_1 151 x1.toNatClampNeg 0 →
          Q (σ_6.1 153 x1.toNatClampNeg) σ_6) ∧
        ((σ_1.1 151 x1.toNatClampNeg) = 0 →
          vc_X10_meets 1 σ_1 (fun (r_8 : Int32) (σ_7 : tzS) =>
            Q r_8 σ_7)))) ∧
    (r_2 = 0 →
      Q (-2) σ_1))
set_option maxRecDepth 20000 in
set_option maxHeartbeats 4000000 in
theorem m_X10_lose (G : tzG) (hG : tz_ok G) {x1 : Int32}  {σ : tzS} {Q : Int32 → tzS → Prop} (h : vc_X10_lose x1 σ Q) : tz_M G yX10_lose cX10_lose 2 (some .int) 2 42 [.ref 133, .int x1] σ (tz_Qi G Q) := by
  unfold vc_X10_lose at h
  refine tz_starti hG RX10 [(0, .ref 133), (1, .int x1)] (by decide) rfl (Nat.le_of_ble_eq_true rfl) rfl (fun E C hret => ?_)
  refine tz_iload_n 1 1 C dX10_lose_0 rfl rfl ?_
  refine tz_callis C dX10_lose_1 lk_RX10_92 (m_X10_isSheet G hG  h) rfl ⟨Nat.le_of_ble_eq_true rfl, Nat.le_of_ble_eq_true rfl⟩ (Nat.le_of_ble_eq_true rfl) rfl (fun r_2 σ_1 h => ?_)
  refine tz_if_ne 10 C dX10_lose_4 (by decide) h (fun c_3 h => ?_) (fun c_3 h => ?_)
  · refine tz_aload_n 0 0 C dX10_lose_10 rfl rfl ?_
    refine tz_getR C dX10_lose_11 fl_RX10_61 (by decide) rfl rfl ?_
    refine tz_iload_n 1 1 C dX10_lose_14 rfl rfl ?_
    obtain ⟨hin_4, h⟩ := h
    refine tz_zald C dX10_lose_15 (by decide) rfl hin_4 ?_
    refine tz_if_ne 25 C dX10_lose_16 (by decide) h (fun c_5 h => ?_) (fun c_5 h => ?_)
    · refine tz_aload_n 0 0 C dX10_lose_25 rfl rfl ?_
      refine tz_getR C dX10_lose_26 fl_RX10_61 (by decide) rfl rfl ?_
      refine tz_iload_n 1 1 C dX10_lose_29 rfl rfl ?_
      refine tz_iconst 0 (by decide) C dX10_lose_30 ?_
      refine tz_zast_c _ C dX10_lose_31 (by decide) rfl rfl hin_4 rfl h (fun σ_6 h => ?_)
      refine tz_aload_n 0 0 C dX10_lose_32 rfl rfl ?_
      refine tz_getR C dX10_lose_33 fl_RX10_68 (by decide) rfl rfl ?_
      refine tz_iload_n 1 1 C dX10_lose_36 rfl rfl ?_
      refine tz_iald C dX10_lose_37 (by decide) rfl hin_4 ?_
      exact hret _ _ _ _ dX10_lose_38 h
    · refine tz_aload_n 0 0 C dX10_lose_19 rfl rfl ?_
      refine tz_iconst 1 (by decide) C dX10_lose_20 ?_
      refine tz_calliv C dX10_lose_21 lk_RX10_96 (m_X10_meets G hG  h) (by decide) rfl rfl rfl rfl ⟨Nat.le_of_ble_eq_true rfl, Nat.le_of_ble_eq_true rfl⟩ (Nat.le_of_ble_eq_true rfl) rfl (fun r_8 σ_7 h => ?_)
      exact hret _ _ _ _ dX10_lose_24 h
  · refine tz_bipush (-2) (by decide) C dX10_lose_7 ?_
    exact hret _ _ _ _ dX10_lose_9 h

def vc_X10_lacks (x1 : Int32) (x2 : Int32) (x3 : Int32) (σ : tzS) (Q : Int32 → tzS → Prop) : Prop :=
  vp_in x1 4 ∧ (
    (¬ (σ.1 151 x1.toNatClampNeg) = 0 →
      ((σ.1 152 x1.toNatClampNeg) = x2 →
        vc_X10_in x3 0 ((σ.1 153 x1.toNatClampNeg) - 1) σ (fun (r_5 : Int32) (σ_4 : tzS) =>
          (r_5 = 0 →
            Q 2 σ_4) ∧
          (¬ r_5 = 0 →
            Q 0 σ_4))) ∧
      (¬ (σ.1 152 x1.toNatClampNeg) = x2 →
        Q 3 σ)) ∧
    ((σ.1 151 x1.toNatClampNeg) = 0 →
      Q 1 σ))
set_option maxRecDepth 20000 in
set_option maxHeartbeats 4000000 in
theorem m_X10_lacks (G : tzG) (hG : tz_ok G) {x1 : Int32} {x2 : Int32} {x3 : Int32}  {σ : tzS} {Q : Int32 → tzS → Prop} (h : vc_X10_lacks x1 x2 x3 σ Q) : tz_M G yX10_lacks cX10_lacks 4 (some .int) 1 22 [.ref 133, .int x1, .int x2, .int x3] σ (tz_Qi G Q) := by
  unfold vc_X10_lacks at h
  refine tz_starti hG RX10 [(0, .ref 133), (1, .int x1), (2, .int x2), (3, .int x3)] (by decide) rfl (Nat.le_of_ble_eq_true rfl) rfl (fun E C hret => ?_)
  refine tz_aload_n 0 0 C dX10_lacks_0 rfl rfl ?_
  refine tz_getR C dX10_lacks_1 fl_RX10_61 (by decide) rfl rfl ?_
  refine tz_iload_n 1 1 C dX10_lacks_4 rfl rfl ?_
  obtain ⟨hin_1, h⟩ := h
  refine tz_zald C dX10_lacks_5 (by decide) rfl hin_1 ?_
  refine tz_if_ne 13 C dX10_lacks_6 (by decide) h (fun c_2 h => ?_) (fun c_2 h => ?_)
  · refine tz_aload_n 0 0 C dX10_lacks_13 rfl rfl ?_
    refine tz_getR C dX10_lacks_14 fl_RX10_65 (by decide) rfl rfl ?_
    refine tz_iload_n 1 1 C dX10_lacks_17 rfl rfl ?_
    refine tz_iald C dX10_lacks_18 (by decide) rfl hin_1 ?_
    refine tz_iload_n 2 2 C dX10_lacks_19 rfl rfl ?_
    refine tz_icmp_eq 27 C dX10_lacks_20 (by decide) h (fun c_3 h => ?_) (fun c_3 h => ?_)
    · refine tz_iload_n 3 3 C dX10_lacks_27 rfl rfl ?_
      refine tz_iconst 0 (by decide) C dX10_lacks_28 ?_
      refine tz_aload_n 0 0 C dX10_lacks_29 rfl rfl ?_
      refine tz_getR C dX10_lacks_30 fl_RX10_68 (by decide) rfl rfl ?_
      refine tz_iload_n 1 1 C dX10_lacks_33 rfl rfl ?_
      refine tz_iald C dX10_lacks_34 (by decide) rfl hin_1 ?_
      refine tz_iconst 1 (by decide) C dX10_lacks_35 ?_
      refine tz_isub C dX10_lacks_36 ?_
      refine tz_callis C dX10_lacks_37 lk_RX10_77 (m_X10_in G hG  h) rfl ⟨Nat.le_of_ble_eq_true rfl, Nat.le_of_ble_eq_true rfl⟩ (Nat.le_of_ble_eq_true rfl) rfl (fun r_5 σ_4 h => ?_)
      refine tz_if_eq 47 C dX10_lacks_40 (by decide) h (fun c_6 h => ?_) (fun c_6 h => ?_)
      · refine tz_iconst 2 (by decide) C dX10_lacks_47 ?_
        exact hret _ _ _ _ dX10_lacks_48 h
      · refine tz_iconst 0 (by decide) C dX10_lacks_43 ?_
        refine tz_goto 48 C dX10_lacks_44 (by decide) ?_
        exact hret _ _ _ _ dX10_lacks_48 h
    · refine tz_iconst 3 (by decide) C dX10_lacks_23 ?_
      refine tz_goto 48 C dX10_lacks_24 (by decide) ?_
      exact hret _ _ _ _ dX10_lacks_48 h
  · refine tz_iconst 1 (by decide) C dX10_lacks_9 ?_
    refine tz_goto 48 C dX10_lacks_10 (by decide) ?_
    exact hret _ _ _ _ dX10_lacks_48 h

def vc_X10_keep (x1 : Int32) (x2 : Int32) (x3 : Int32) (σ : tzS) (Q : tzS → Prop) : Prop :=
  vp_in x1 4 ∧ (
    (¬ (σ.1 152 x1.toNatClampNeg) = 0 →
      (¬ (σ.1 152 x1.toNatClampNeg) = 1 →
        vp_in ((60 * x1) + x2) 240 ∧ (
          ∀ σ_4 : tzS, σ_4 = tz_st σ 154 ((60 * x1) + x2).toNatClampNeg x3 →
          Q σ_4)) ∧
      ((σ.1 152 x1.toNatClampNeg) = 1 →
        vp_in ((60 * x1) + x2) 240 ∧ (
          ∀ σ_6 : tzS, σ_6 = tz_st σ 154 ((60 * x1) + x2).toNatClampNeg x3.toInt16.toInt32 →
          Q σ_6))) ∧
    ((σ.1 152 x1.toNatClampNeg) = 0 →
      vp_in ((60 * x1) + x2) 240 ∧ (
        ∀ σ_8 : tzS, σ_8 = tz_st σ 154 ((60 * x1) + x2).toNatClampNeg x3.toInt8.toInt32 →
        Q σ_8)))
set_option maxRecDepth 20000 in
set_option maxHeartbeats 4000000 in
theorem m_X10_keep (G : tzG) (hG : tz_ok G) {x1 : Int32} {x2 : Int32} {x3 : Int32}  {σ : tzS} {Q : tzS → Prop} (h : vc_X10_keep x1 x2 x3 σ Q) : tz_M G yX10_keep cX10_keep 4 (none) 0 0 [.ref 133, .int x1, .int x2, .int x3] σ (tz_Qv G Q) := by
  unfold vc_X10_keep at h
  refine tz_startv hG RX10 [(0, .ref 133), (1, .int x1), (2, .int x2), (3, .int x3)] (by decide) rfl (Nat.le_of_ble_eq_true rfl) rfl (fun E C hret => ?_)
  refine tz_aload_n 0 0 C dX10_keep_0 rfl rfl ?_
  refine tz_getR C dX10_keep_1 fl_RX10_71 (by decide) rfl rfl ?_
  refine tz_bipush 60 (by decide) C dX10_keep_4 ?_
  refine tz_iload_n 1 1 C dX10_keep_6 rfl rfl ?_
  refine tz_imul C dX10_keep_7 ?_
  refine tz_iload_n 2 2 C dX10_keep_8 rfl rfl ?_
  refine tz_iadd C dX10_keep_9 ?_
  refine tz_aload_n 0 0 C dX10_keep_10 rfl rfl ?_
  refine tz_getR C dX10_keep_11 fl_RX10_65 (by decide) rfl rfl ?_
  refine tz_iload_n 1 1 C dX10_keep_14 rfl rfl ?_
  obtain ⟨hin_1, h⟩ := h
  refine tz_iald C dX10_keep_15 (by decide) rfl hin_1 ?_
  refine tz_if_ne 24 C dX10_keep_16 (by decide) h (fun c_2 h => ?_) (fun c_2 h => ?_)
  · refine tz_aload_n 0 0 C dX10_keep_24 rfl rfl ?_
    refine tz_getR C dX10_keep_25 fl_RX10_65 (by decide) rfl rfl ?_
    refine tz_iload_n 1 1 C dX10_keep_28 rfl rfl ?_
    refine tz_iald C dX10_keep_29 (by decide) rfl hin_1 ?_
    refine tz_iconst 1 (by decide) C dX10_keep_30 ?_
    refine tz_icmp_ne 39 C dX10_keep_31 (by decide) h (fun c_3 h => ?_) (fun c_3 h => ?_)
    · refine tz_iload_n 3 3 C dX10_keep_39 rfl rfl ?_
      have hin_5 := h.1
      refine tz_iast C dX10_keep_40 (by decide) rfl h (fun σ_4 h => ?_)
      exact hret _ _ _ dX10_keep_41 h
    · refine tz_iload_n 3 3 C dX10_keep_34 rfl rfl ?_
      refine tz_i2s C dX10_keep_35 ?_
      refine tz_goto 40 C dX10_keep_36 (by decide) ?_
      have hin_7 := h.1
      refine tz_iast C dX10_keep_40 (by decide) rfl h (fun σ_6 h => ?_)
      exact hret _ _ _ dX10_keep_41 h
  · refine tz_iload_n 3 3 C dX10_keep_19 rfl rfl ?_
    refine tz_i2b C dX10_keep_20 ?_
    refine tz_goto 40 C dX10_keep_21 (by decide) ?_
    have hin_9 := h.1
    refine tz_iast C dX10_keep_40 (by decide) rfl h (fun σ_8 h => ?_)
    exact hret _ _ _ dX10_keep_41 h

def vc_X10_put (x1 : Int32) (x2 : Int32) (x3 : Int32) (x4 : Int32) (σ : tzS) (Q : Int32 → tzS → Prop) : Prop :=
  vc_X10_isSheet x1 σ (fun (r_2 : Int32) (σ_1 : tzS) =>
    (r_2 = 0 →
      Q (-2) σ_1) ∧
    (¬ r_2 = 0 →
      vc_X10_in x2 0 2 σ_1 (fun (r_5 : Int32) (σ_4 : tzS) =>
        (¬ r_5 = 0 →
          vc_X10_lacks x1 x2 x3 σ_4 (fun (r_8 : Int32) (σ_7 : tzS) =>
            (r_8 ≤ 0 →
              vc_X10_keep x1 x3 x4 σ_7 (fun (σ_10 : tzS) =>
                Q 1 σ_10)) ∧
            (¬ r_8 ≤ 0 →
              vc_X10_meets r_8 σ_7 (fun (r_12 : Int32) (σ_11 : tzS) =>
                Q r_12 σ_11)))) ∧
        (r_5 = 0 →
          Q (-2) σ_4))))
set_option maxRecDepth 20000 in
set_option maxHeartbeats 4000000 in
theorem m_X10_put (G : tzG) (hG : tz_ok G) {x1 : Int32} {x2 : Int32} {x3 : Int32} {x4 : Int32}  {σ : tzS} {Q : Int32 → tzS → Prop} (h : vc_X10_put x1 x2 x3 x4 σ Q) : tz_M G yX10_put cX10_put 6 (some .int) 2 45 [.ref 133, .int x1, .int x2, .int x3, .int x4] σ (tz_Qi G Q) := by
  unfold vc_X10_put at h
  refine tz_starti hG RX10 [(0, .ref 133), (1, .int x1), (2, .int x2), (3, .int x3), (4, .int x4)] (by decide) rfl (Nat.le_of_ble_eq_true rfl) rfl (fun E C hret => ?_)
  refine tz_iload_n 1 1 C dX10_put_0 rfl rfl ?_
  refine tz_callis C dX10_put_1 lk_RX10_92 (m_X10_isSheet G hG  h) rfl ⟨Nat.le_of_ble_eq_true rfl, Nat.le_of_ble_eq_true rfl⟩ (Nat.le_of_ble_eq_true rfl) rfl (fun r_2 σ_1 h => ?_)
  refine tz_if_eq 16 C dX10_put_4 (by decide) h (fun c_3 h => ?_) (fun c_3 h => ?_)
  · refine tz_bipush (-2) (by decide) C dX10_put_16 ?_
    exact hret _ _ _ _ dX10_put_18 h
  · refine tz_iload_n 2 2 C dX10_put_7 rfl rfl ?_
    refine tz_iconst 0 (by decide) C dX10_put_8 ?_
    refine tz_iconst 2 (by decide) C dX10_put_9 ?_
    refine tz_callis C dX10_put_10 lk_RX10_77 (m_X10_in G hG  h) rfl ⟨Nat.le_of_ble_eq_true rfl, Nat.le_of_ble_eq_true rfl⟩ (Nat.le_of_ble_eq_true rfl) rfl (fun r_5 σ_4 h => ?_)
    refine tz_if_ne 19 C dX10_put_13 (by decide) h (fun c_6 h => ?_) (fun c_6 h => ?_)
    · refine tz_aload_n 0 0 C dX10_put_19 rfl rfl ?_
      refine tz_iload_n 1 1 C dX10_put_20 rfl rfl ?_
      refine tz_iload_n 2 2 C dX10_put_21 rfl rfl ?_
      refine tz_iload_n 3 3 C dX10_put_22 rfl rfl ?_
      refine tz_calliv C dX10_put_23 lk_RX10_270 (m_X10_lacks G hG  h) (by decide) rfl rfl rfl rfl ⟨Nat.le_of_ble_eq_true rfl, Nat.le_of_ble_eq_true rfl⟩ (Nat.le_of_ble_eq_true rfl) rfl (fun r_8 σ_7 h => ?_)
      refine tz_istore_k [(0, .ref 133), (1, .int x1), (2, .int x2), (3, .int x3), (4, .int x4)] C dX10_put_26 (Nat.le_of_ble_eq_true rfl) rfl ?_
      refine tz_iload 0 C dX10_put_28 rfl ?_
      refine tz_if_le 40 C dX10_put_30 (by decide) h (fun c_9 h => ?_) (fun c_9 h => ?_)
      · refine tz_aload_n 0 1 C dX10_put_40 rfl rfl ?_
        refine tz_iload_n 1 2 C dX10_put_41 rfl rfl ?_
        refine tz_iload_n 3 4 C dX10_put_42 rfl rfl ?_
        refine tz_iload 5 C dX10_put_43 rfl ?_
        refine tz_callvv C dX10_put_45 lk_RX10_274 (m_X10_keep G hG  h) (by decide) rfl rfl rfl rfl ⟨Nat.le_of_ble_eq_true rfl, Nat.le_of_ble_eq_true rfl⟩ (Nat.le_of_ble_eq_true rfl) rfl (fun σ_10 h => ?_)
        refine tz_iconst 1 (by decide) C dX10_put_48 ?_
        exact hret _ _ _ _ dX10_put_49 h
      · refine tz_aload_n 0 1 C dX10_put_33 rfl rfl ?_
        refine tz_iload 0 C dX10_put_34 rfl ?_
        refine tz_calliv C dX10_put_36 lk_RX10_96 (m_X10_meets G hG  h) (by decide) rfl rfl rfl rfl ⟨Nat.le_of_ble_eq_true rfl, Nat.le_of_ble_eq_true rfl⟩ (Nat.le_of_ble_eq_true rfl) rfl (fun r_12 σ_11 h => ?_)
        exact hret _ _ _ _ dX10_put_39 h
    · refine tz_bipush (-2) (by decide) C dX10_put_16 ?_
      exact hret _ _ _ _ dX10_put_18 h

def vc_X10_get (x1 : Int32) (x2 : Int32) (x3 : Int32) (σ : tzS) (Q : Int32 → tzS → Prop) : Prop :=
  vc_X10_isSheet x1 σ (fun (r_2 : Int32) (σ_1 : tzS) =>
    (r_2 = 0 →
      Q (-2147483648) σ_1) ∧
    (¬ r_2 = 0 →
      vc_X10_in x2 0 2 σ_1 (fun (r_5 : Int32) (σ_4 : tzS) =>
        (¬ r_5 = 0 →
          vc_X10_lacks x1 x2 x3 σ_4 (fun (r_8 : Int32) (σ_7 : tzS) =>
            (r_8 ≤ 0 →
              vp_in ((60 * x1) + x3) 240 ∧ (
                Q (σ_7.1 154 ((60 * x1) + x3).toNatClampNeg) σ_7)) ∧
            (¬ r_8 ≤ 0 →
              ∀ σ_11 : tzS, σ_11 = tz_st σ_7 133 36 r_8 →
              Q (-2147483648) σ_11))) ∧
        (r_5 = 0 →
          Q (-2147483648) σ_4))))
set_option maxRecDepth 20000 in
set_option maxHeartbeats 4000000 in
theorem m_X10_get (G : tzG) (hG : tz_ok G) {x1 : Int32} {x2 : Int32} {x3 : Int32}  {σ : tzS} {Q : Int32 → tzS → Prop} (h : vc_X10_get x1 x2 x3 σ Q) : tz_M G yX10_get cX10_get 5 (some .int) 2 45 [.ref 133, .int x1, .int x2, .int x3] σ (tz_Qi G Q) := by
  unfold vc_X10_get at h
  refine tz_starti hG RX10 [(0, .ref 133), (1, .int x1), (2, .int x2), (3, .int x3)] (by decide) rfl (Nat.le_of_ble_eq_true rfl) rfl (fun E C hret => ?_)
  refine tz_iload_n 1 1 C dX10_get_0 rfl rfl ?_
  refine tz_callis C dX10_get_1 lk_RX10_92 (m_X10_isSheet G hG  h) rfl ⟨Nat.le_of_ble_eq_true rfl, Nat.le_of_ble_eq_true rfl⟩ (Nat.le_of_ble_eq_true rfl) rfl (fun r_2 σ_1 h => ?_)
  refine tz_if_eq 16 C dX10_get_4 (by decide) h (fun c_3 h => ?_) (fun c_3 h => ?_)
  · refine tz_ldcw (-2147483648) C dX10_get_16 cw_RX10_278 ?_
    exact hret _ _ _ _ dX10_get_19 h
  · refine tz_iload_n 2 2 C dX10_get_7 rfl rfl ?_
    refine tz_iconst 0 (by decide) C dX10_get_8 ?_
    refine tz_iconst 2 (by decide) C dX10_get_9 ?_
    refine tz_callis C dX10_get_10 lk_RX10_77 (m_X10_in G hG  h) rfl ⟨Nat.le_of_ble_eq_true rfl, Nat.le_of_ble_eq_true rfl⟩ (Nat.le_of_ble_eq_true rfl) rfl (fun r_5 σ_4 h => ?_)
    refine tz_if_ne 20 C dX10_get_13 (by decide) h (fun c_6 h => ?_) (fun c_6 h => ?_)
    · refine tz_aload_n 0 0 C dX10_get_20 rfl rfl ?_
      refine tz_iload_n 1 1 C dX10_get_21 rfl rfl ?_
      refine tz_iload_n 2 2 C dX10_get_22 rfl rfl ?_
      refine tz_iload_n 3 3 C dX10_get_23 rfl rfl ?_
      refine tz_calliv C dX10_get_24 lk_RX10_270 (m_X10_lacks G hG  h) (by decide) rfl rfl rfl rfl ⟨Nat.le_of_ble_eq_true rfl, Nat.le_of_ble_eq_true rfl⟩ (Nat.le_of_ble_eq_true rfl) rfl (fun r_8 σ_7 h => ?_)
      refine tz_istore_k [(0, .ref 133), (1, .int x1), (2, .int x2), (3, .int x3)] C dX10_get_27 (Nat.le_of_ble_eq_true rfl) rfl ?_
      refine tz_iload 0 C dX10_get_29 rfl ?_
      refine tz_if_le 44 C dX10_get_31 (by decide) h (fun c_9 h => ?_) (fun c_9 h => ?_)
      · refine tz_aload_n 0 1 C dX10_get_44 rfl rfl ?_
        refine tz_getR C dX10_get_45 fl_RX10_71 (by decide) rfl rfl ?_
        refine tz_bipush 60 (by decide) C dX10_get_48 ?_
        refine tz_iload_n 1 2 C dX10_get_50 rfl rfl ?_
        refine tz_imul C dX10_get_51 ?_
        refine tz_iload_n 3 4 C dX10_get_52 rfl rfl ?_
        refine tz_iadd C dX10_get_53 ?_
        obtain ⟨hin_10, h⟩ := h
        refine tz_iald C dX10_get_54 (by decide) rfl hin_10 ?_
        exact hret _ _ _ _ dX10_get_55 h
      · refine tz_aload_n 0 1 C dX10_get_34 rfl rfl ?_
        refine tz_iload 0 C dX10_get_35 rfl ?_
        refine tz_put C dX10_get_37 fp_RX10_267 (by decide) rfl rfl rfl rfl h (fun σ_11 h => ?_)
        refine tz_ldcw (-2147483648) C dX10_get_40 cw_RX10_278 ?_
        exact hret _ _ _ _ dX10_get_43 h
    · refine tz_ldcw (-2147483648) C dX10_get_16 cw_RX10_278 ?_
      exact hret _ _ _ _ dX10_get_19 h

def vc_X10_copy (x1 : Int32) (x2 : Int32) (x3 : Int32) (x4 : Int32) (x5 : Int32) (σ : tzS) (Q : Int32 → tzS → Prop) : Prop :=
  vc_X10_isSheet x1 σ (fun (r_2 : Int32) (σ_1 : tzS) =>
    (r_2 = 0 →
      Q (-2) σ_1) ∧
    (¬ r_2 = 0 →
      vc_X10_isSheet x3 σ_1 (fun (r_5 : Int32) (σ_4 : tzS) =>
        (¬ r_5 = 0 →
          vp_in x1 4 ∧ (
            ((σ_4.1 151 x1.toNatClampNeg) = 0 →
              vc_X10_meets 1 σ_4 (fun (r_10 : Int32) (σ_9 : tzS) =>
                Q r_10 σ_9)) ∧
            (¬ (σ_4.1 151 x1.toNatClampNeg) = 0 →
              vp_in x3 4 ∧ (
                (¬ (σ_4.1 151 x3.toNatClampNeg) = 0 →
                  ((σ_4.1 152 x1.toNatClampNeg) = (σ_4.1 152 x3.toNatClampNeg) →
                    (x2 < 0 →
                      vc_X10_meets 2 σ_4 (fun (r_16 : Int32) (σ_15 : tzS) =>
                        Q r_16 σ_15)) ∧
                    (¬ x2 < 0 →
                      (x4 < 0 →
                        vc_X10_meets 2 σ_4 (fun (r_19 : Int32) (σ_18 : tzS) =>
                          Q r_19 σ_18)) ∧
                      (¬ x4 < 0 →
                        (x5 < 0 →
                          vc_X10_meets 2 σ_4 (fun (r_22 : Int32) (σ_21 : tzS) =>
                            Q r_22 σ_21)) ∧
                        (¬ x5 < 0 →
                          ((0 : Int32) < (lg_cmp (x2.toInt64 + x5.toInt64) (σ_4.1 153 x1.toNatClampNeg).toInt64) →
                            vc_X10_meets 2 σ_4 (fun (r_25 : Int32) (σ_24 : tzS) =>
                              Q r_25 σ_24)) ∧
                          (¬ (0 : Int32) < (lg_cmp (x2.toInt64 + x5.toInt64) (σ_4.1 153 x1.toNatClampNeg).toInt64) →
                            ((lg_cmp (x4.toInt64 + x5.toInt64) (σ_4.1 153 x3.toNatClampNeg).toInt64) ≤ 0 →
                              tz_loop1 (fun (x6_29 : Int32) (σ_28 : tzS) (ag_27 : Int32 → tzS → Prop) =>
                                (x5 ≤ x6_29 →
                                  tz_loop1 (fun (x6_33 : Int32) (σ_32 : tzS) (ag_31 : Int32 → tzS → Prop) =>
                                    (x5 ≤ x6_33 →
                                      Q 1 σ_32) ∧
                                    (¬ x5 ≤ x6_33 →
                                      vp_in x6_33 60 ∧ (
                                        vp_in (((60 * x3) + x4) + x6_33) 240 ∧ (
                                          ∀ σ_36 : tzS, σ_36 = tz_st σ_32 154 (((60 * x3) + x4) + x6_33).toNatClampNeg (σ_32.1 155 x6_33.toNatClampNeg) →
                                          ∀ x6_38 : Int32, x6_38 = x6_33 + 1 →
                                          ag_31 x6_38 σ_36)))) (0 : Int32) σ_28) ∧
                                (¬ x5 ≤ x6_29 →
                                  vp_in (((60 * x1) + x2) + x6_29) 240 ∧ (
                                    vp_in x6_29 60 ∧ (
                                      ∀ σ_40 : tzS, σ_40 = tz_st σ_28 155 x6_29.toNatClampNeg (σ_28.1 154 (((60 * x1) + x2) + x6_29).toNatClampNeg) →
                                      ∀ x6_42 : Int32, x6_42 = x6_29 + 1 →
                                      ag_27 x6_42 σ_40)))) (0 : Int32) σ_4) ∧
                            (¬ (lg_cmp (x4.toInt64 + x5.toInt64) (σ_4.1 153 x3.toNatClampNeg).toInt64) ≤ 0 →
                              vc_X10_meets 2 σ_4 (fun (r_44 : Int32) (σ_43 : tzS) =>
                                Q r_44 σ_43))))))) ∧
                  (¬ (σ_4.1 152 x1.toNatClampNeg) = (σ_4.1 152 x3.toNatClampNeg) →
                    vc_X10_meets 4 σ_4 (fun (r_46 : Int32) (σ_45 : tzS) =>
                      Q r_46 σ_45))) ∧
                ((σ_4.1 151 x3.toNatClampNeg) = 0 →
                  vc_X10_meets 1 σ_4 (fun (r_48 : Int32) (σ_47 : tzS) =>
                    Q r_48 σ_47)))))) ∧
        (r_5 = 0 →
          Q (-2) σ_4))))
set_option maxRecDepth 20000 in
set_option maxHeartbeats 4000000 in
theorem m_X10_copy (G : tzG) (hG : tz_ok G) {x1 : Int32} {x2 : Int32} {x3 : Int32} {x4 : Int32} {x5 : Int32}  {σ : tzS} {Q : Int32 → tzS → Prop} (h : vc_X10_copy x1 x2 x3 x4 x5 σ Q) : tz_M G yX10_copy cX10_copy 7 (some .int) 2 42 [.ref 133, .int x1, .int x2, .int x3, .int x4, .int x5] σ (tz_Qi G Q) := by
  unfold vc_X10_copy at h
  refine tz_starti hG RX10 [(0, .ref 133), (1, .int x1), (2, .int x2), (3, .int x3), (4, .int x4), (5, .int x5)] (by decide) rfl (Nat.le_of_ble_eq_true rfl) rfl (fun E C hret => ?_)
  refine tz_iload_n 1 1 C dX10_copy_0 rfl rfl ?_
  refine tz_callis C dX10_copy_1 lk_RX10_92 (m_X10_isSheet G hG  h) rfl ⟨Nat.le_of_ble_eq_true rfl, Nat.le_of_ble_eq_true rfl⟩ (Nat.le_of_ble_eq_true rfl) rfl (fun r_2 σ_1 h => ?_)
  refine tz_if_eq 14 C dX10_copy_4 (by decide) h (fun c_3 h => ?_) (fun c_3 h => ?_)
  · refine tz_bipush (-2) (by decide) C dX10_copy_14 ?_
    exact hret _ _ _ _ dX10_copy_16 h
  · refine tz_iload_n 3 3 C dX10_copy_7 rfl rfl ?_
    refine tz_callis C dX10_copy_8 lk_RX10_92 (m_X10_isSheet G hG  h) rfl ⟨Nat.le_of_ble_eq_true rfl, Nat.le_of_ble_eq_true rfl⟩ (Nat.le_of_ble_eq_true rfl) rfl (fun r_5 σ_4 h => ?_)
    refine tz_if_ne 17 C dX10_copy_11 (by decide) h (fun c_6 h => ?_) (fun c_6 h => ?_)
    · refine tz_aload_n 0 0 C dX10_copy_17 rfl rfl ?_
      refine tz_getR C dX10_copy_18 fl_RX10_61 (by decide) rfl rfl ?_
      refine tz_iload_n 1 1 C dX10_copy_21 rfl rfl ?_
      obtain ⟨hin_7, h⟩ := h
      refine tz_zald C dX10_copy_22 (by decide) rfl hin_7 ?_
      refine tz_if_eq 35 C dX10_copy_23 (by decide) h (fun c_8 h => ?_) (fun c_8 h => ?_)
      · refine tz_aload_n 0 0 C dX10_copy_35 rfl rfl ?_
        refine tz_iconst 1 (by decide) C dX10_copy_36 ?_
        refine tz_calliv C dX10_copy_37 lk_RX10_96 (m_X10_meets G hG  h) (by decide) rfl rfl rfl rfl ⟨Nat.le_of_ble_eq_true rfl, Nat.le_of_ble_eq_true rfl⟩ (Nat.le_of_ble_eq_true rfl) rfl (fun r_10 σ_9 h => ?_)
        exact hret _ _ _ _ dX10_copy_40 h
      · refine tz_aload_n 0 0 C dX10_copy_26 rfl rfl ?_
        refine tz_getR C dX10_copy_27 fl_RX10_61 (by decide) rfl rfl ?_
        refine tz_iload_n 3 3 C dX10_copy_30 rfl rfl ?_
        obtain ⟨hin_11, h⟩ := h
        refine tz_zald C dX10_copy_31 (by decide) rfl hin_11 ?_
        refine tz_if_ne 41 C dX10_copy_32 (by decide) h (fun c_12 h => ?_) (fun c_12 h => ?_)
        · refine tz_aload_n 0 0 C dX10_copy_41 rfl rfl ?_
          refine tz_getR C dX10_copy_42 fl_RX10_65 (by decide) rfl rfl ?_
          refine tz_iload_n 1 1 C dX10_copy_45 rfl rfl ?_
          refine tz_iald C dX10_copy_46 (by decide) rfl hin_7 ?_
          refine tz_aload_n 0 0 C dX10_copy_47 rfl rfl ?_
          refine tz_getR C dX10_copy_48 fl_RX10_65 (by decide) rfl rfl ?_
          refine tz_iload_n 3 3 C dX10_copy_51 rfl rfl ?_
          refine tz_iald C dX10_copy_52 (by decide) rfl hin_11 ?_
          refine tz_icmp_eq 62 C dX10_copy_53 (by decide) h (fun c_13 h => ?_) (fun c_13 h => ?_)
          · refine tz_iload_n 2 2 C dX10_copy_62 rfl rfl ?_
            refine tz_if_lt 111 C dX10_copy_63 (by decide) h (fun c_14 h => ?_) (fun c_14 h => ?_)
            · refine tz_aload_n 0 0 C dX10_copy_111 rfl rfl ?_
              refine tz_iconst 2 (by decide) C dX10_copy_112 ?_
              refine tz_calliv C dX10_copy_113 lk_RX10_96 (m_X10_meets G hG  h) (by decide) rfl rfl rfl rfl ⟨Nat.le_of_ble_eq_true rfl, Nat.le_of_ble_eq_true rfl⟩ (Nat.le_of_ble_eq_true rfl) rfl (fun r_16 σ_15 h => ?_)
              exact hret _ _ _ _ dX10_copy_116 h
            · refine tz_iload 4 C dX10_copy_66 rfl ?_
              refine tz_if_lt 111 C dX10_copy_68 (by decide) h (fun c_17 h => ?_) (fun c_17 h => ?_)
              · refine tz_aload_n 0 0 C dX10_copy_111 rfl rfl ?_
                refine tz_iconst 2 (by decide) C dX10_copy_112 ?_
                refine tz_calliv C dX10_copy_113 lk_RX10_96 (m_X10_meets G hG  h) (by decide) rfl rfl rfl rfl ⟨Nat.le_of_ble_eq_true rfl, Nat.le_of_ble_eq_true rfl⟩ (Nat.le_of_ble_eq_true rfl) rfl (fun r_19 σ_18 h => ?_)
                exact hret _ _ _ _ dX10_copy_116 h
              · refine tz_iload 5 C dX10_copy_71 rfl ?_
                refine tz_if_lt 111 C dX10_copy_73 (by decide) h (fun c_20 h => ?_) (fun c_20 h => ?_)
                · refine tz_aload_n 0 0 C dX10_copy_111 rfl rfl ?_
                  refine tz_iconst 2 (by decide) C dX10_copy_112 ?_
                  refine tz_calliv C dX10_copy_113 lk_RX10_96 (m_X10_meets G hG  h) (by decide) rfl rfl rfl rfl ⟨Nat.le_of_ble_eq_true rfl, Nat.le_of_ble_eq_true rfl⟩ (Nat.le_of_ble_eq_true rfl) rfl (fun r_22 σ_21 h => ?_)
                  exact hret _ _ _ _ dX10_copy_116 h
                · refine tz_iload_n 2 2 C dX10_copy_76 rfl rfl ?_
                  refine tz_i2l C dX10_copy_77 ?_
                  refine tz_iload 5 C dX10_copy_78 rfl ?_
                  refine tz_i2l C dX10_copy_80 ?_
                  refine tz_ladd C dX10_copy_81 ?_
                  refine tz_aload_n 0 0 C dX10_copy_82 rfl rfl ?_
                  refine tz_getR C dX10_copy_83 fl_RX10_68 (by decide) rfl rfl ?_
                  refine tz_iload_n 1 1 C dX10_copy_86 rfl rfl ?_
                  refine tz_iald C dX10_copy_87 (by decide) rfl hin_7 ?_
                  refine tz_i2l C dX10_copy_88 ?_
                  refine tz_lcmp C dX10_copy_89 ?_
                  refine tz_if_gt 111 C dX10_copy_90 (by decide) h (fun c_23 h => ?_) (fun c_23 h => ?_)
                  · refine tz_aload_n 0 0 C dX10_copy_111 rfl rfl ?_
                    refine tz_iconst 2 (by decide) C dX10_copy_112 ?_
                    refine tz_calliv C dX10_copy_113 lk_RX10_96 (m_X10_meets G hG  h) (by decide) rfl rfl rfl rfl ⟨Nat.le_of_ble_eq_true rfl, Nat.le_of_ble_eq_true rfl⟩ (Nat.le_of_ble_eq_true rfl) rfl (fun r_25 σ_24 h => ?_)
                    exact hret _ _ _ _ dX10_copy_116 h
                  · refine tz_iload 4 C dX10_copy_93 rfl ?_
                    refine tz_i2l C dX10_copy_95 ?_
                    refine tz_iload 5 C dX10_copy_96 rfl ?_
                    refine tz_i2l C dX10_copy_98 ?_
                    refine tz_ladd C dX10_copy_99 ?_
                    refine tz_aload_n 0 0 C dX10_copy_100 rfl rfl ?_
                    refine tz_getR C dX10_copy_101 fl_RX10_68 (by decide) rfl rfl ?_
                    refine tz_iload_n 3 3 C dX10_copy_104 rfl rfl ?_
                    refine tz_iald C dX10_copy_105 (by decide) rfl hin_11 ?_
                    refine tz_i2l C dX10_copy_106 ?_
                    refine tz_lcmp C dX10_copy_107 ?_
                    refine tz_if_le 117 C dX10_copy_108 (by decide) h (fun c_26 h => ?_) (fun c_26 h => ?_)
                    · refine tz_iconst 0 (by decide) C dX10_copy_117 ?_
                      refine tz_istore_k [(0, .ref 133), (1, .int x1), (2, .int x2), (3, .int x3), (4, .int x4), (5, .int x5)] C dX10_copy_118 (Nat.le_of_ble_eq_true rfl) rfl ?_
                      refine tz_sub (L := [(0, .ref 133), (1, .int x1), (2, .int x2), (3, .int x3), (4, .int x4), (5, .int x5), (6, .int 0)]) ?_ [1, 2, 3, 4, 5, 6, 0] rfl
                      refine tz_loop1_w (V := fun (x6_29 : Int32) (σ_28 : tzS) => tz_V G E 120 [(0, .ref 133), (1, .int x1), (2, .int x2), (3, .int x3), (4, .int x4), (5, .int x5), (6, .int x6_29)] [] σ_28) h (fun ag_27 ihag_27 x6_29 σ_28 h => ?_)
                      refine tz_iload 6 C dX10_copy_120 rfl ?_
                      refine tz_iload 5 C dX10_copy_122 rfl ?_
                      refine tz_icmp_ge 154 C dX10_copy_124 (by decide) h (fun c_30 h => ?_) (fun c_30 h => ?_)
                      · refine tz_iconst 0 (by decide) C dX10_copy_154 ?_
                        refine tz_istore_k [(0, .ref 133), (1, .int x1), (2, .int x2), (3, .int x3), (4, .int x4), (5, .int x5)] C dX10_copy_155 (Nat.le_of_ble_eq_true rfl) rfl ?_
                        refine tz_sub (L := [(0, .ref 133), (3, .int x3), (4, .int x4), (5, .int x5), (6, .int 0)]) ?_ [1, 4, 5, 6, 0] rfl
                        refine tz_loop1_w (V := fun (x6_33 : Int32) (σ_32 : tzS) => tz_V G E 157 [(0, .ref 133), (3, .int x3), (4, .int x4), (5, .int x5), (6, .int x6_33)] [] σ_32) h (fun ag_31 ihag_31 x6_33 σ_32 h => ?_)
                        refine tz_iload 4 C dX10_copy_157 rfl ?_
                        refine tz_iload 3 C dX10_copy_159 rfl ?_
                        refine tz_icmp_ge 192 C dX10_copy_161 (by decide) h (fun c_34 h => ?_) (fun c_34 h => ?_)
                        · refine tz_iconst 1 (by decide) C dX10_copy_192 ?_
                          exact hret _ _ _ _ dX10_copy_193 h
                        · refine tz_aload_n 0 0 C dX10_copy_164 rfl rfl ?_
                          refine tz_getR C dX10_copy_165 fl_RX10_71 (by decide) rfl rfl ?_
                          refine tz_bipush 60 (by decide) C dX10_copy_168 ?_
                          refine tz_iload_n 3 1 C dX10_copy_170 rfl rfl ?_
                          refine tz_imul C dX10_copy_171 ?_
                          refine tz_iload 2 C dX10_copy_172 rfl ?_
                          refine tz_iadd C dX10_copy_174 ?_
                          refine tz_iload 4 C dX10_copy_175 rfl ?_
                          refine tz_iadd C dX10_copy_177 ?_
                          refine tz_aload_n 0 0 C dX10_copy_178 rfl rfl ?_
                          refine tz_getR C dX10_copy_179 fl_RX10_74 (by decide) rfl rfl ?_
                          refine tz_iload 4 C dX10_copy_182 rfl ?_
                          obtain ⟨hin_35, h⟩ := h
                          refine tz_iald C dX10_copy_184 (by decide) rfl hin_35 ?_
                          have hin_37 := h.1
                          refine tz_iast C dX10_copy_185 (by decide) rfl h (fun σ_36 h => ?_)
                          refine tz_iinc 4 [(0, .ref 133), (3, .int x3), (4, .int x4), (5, .int x5)] 1 C dX10_copy_186 (by decide) rfl (Nat.le_of_ble_eq_true rfl) rfl h (fun x6_38 h => ?_)
                          refine tz_goto 157 C dX10_copy_189 (by decide) ?_
                          exact tz_sub (ihag_31 _ _ h) [1, 2, 3, 4, 0] rfl
                      · refine tz_aload_n 0 0 C dX10_copy_127 rfl rfl ?_
                        refine tz_getR C dX10_copy_128 fl_RX10_74 (by decide) rfl rfl ?_
                        refine tz_iload 6 C dX10_copy_131 rfl ?_
                        refine tz_aload_n 0 0 C dX10_copy_133 rfl rfl ?_
                        refine tz_getR C dX10_copy_134 fl_RX10_71 (by decide) rfl rfl ?_
                        refine tz_bipush 60 (by decide) C dX10_copy_137 ?_
                        refine tz_iload_n 1 1 C dX10_copy_139 rfl rfl ?_
                        refine tz_imul C dX10_copy_140 ?_
                        refine tz_iload_n 2 2 C dX10_copy_141 rfl rfl ?_
                        refine tz_iadd C dX10_copy_142 ?_
                        refine tz_iload 6 C dX10_copy_143 rfl ?_
                        refine tz_iadd C dX10_copy_145 ?_
                        obtain ⟨hin_39, h⟩ := h
                        refine tz_iald C dX10_copy_146 (by decide) rfl hin_39 ?_
                        have hin_41 := h.1
                        refine tz_iast C dX10_copy_147 (by decide) rfl h (fun σ_40 h => ?_)
                        refine tz_iinc 6 [(0, .ref 133), (1, .int x1), (2, .int x2), (3, .int x3), (4, .int x4), (5, .int x5)] 1 C dX10_copy_148 (by decide) rfl (Nat.le_of_ble_eq_true rfl) rfl h (fun x6_42 h => ?_)
                        refine tz_goto 120 C dX10_copy_151 (by decide) ?_
                        exact tz_sub (ihag_27 _ _ h) [1, 2, 3, 4, 5, 6, 0] rfl
                    · refine tz_aload_n 0 0 C dX10_copy_111 rfl rfl ?_
                      refine tz_iconst 2 (by decide) C dX10_copy_112 ?_
                      refine tz_calliv C dX10_copy_113 lk_RX10_96 (m_X10_meets G hG  h) (by decide) rfl rfl rfl rfl ⟨Nat.le_of_ble_eq_true rfl, Nat.le_of_ble_eq_true rfl⟩ (Nat.le_of_ble_eq_true rfl) rfl (fun r_44 σ_43 h => ?_)
                      exact hret _ _ _ _ dX10_copy_116 h
          · refine tz_aload_n 0 0 C dX10_copy_56 rfl rfl ?_
            refine tz_iconst 4 (by decide) C dX10_copy_57 ?_
            refine tz_calliv C dX10_copy_58 lk_RX10_96 (m_X10_meets G hG  h) (by decide) rfl rfl rfl rfl ⟨Nat.le_of_ble_eq_true rfl, Nat.le_of_ble_eq_true rfl⟩ (Nat.le_of_ble_eq_true rfl) rfl (fun r_46 σ_45 h => ?_)
            exact hret _ _ _ _ dX10_copy_61 h
        · refine tz_aload_n 0 0 C dX10_copy_35 rfl rfl ?_
          refine tz_iconst 1 (by decide) C dX10_copy_36 ?_
          refine tz_calliv C dX10_copy_37 lk_RX10_96 (m_X10_meets G hG  h) (by decide) rfl rfl rfl rfl ⟨Nat.le_of_ble_eq_true rfl, Nat.le_of_ble_eq_true rfl⟩ (Nat.le_of_ble_eq_true rfl) rfl (fun r_48 σ_47 h => ?_)
          exact hret _ _ _ _ dX10_copy_40 h
    · refine tz_bipush (-2) (by decide) C dX10_copy_14 ?_
      exact hret _ _ _ _ dX10_copy_16 h
