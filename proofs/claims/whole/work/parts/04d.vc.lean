def vc_X10_wipe  (σ : tzS) (Q : Int32 → tzS → Prop) : Prop :=
  ∀ x1_1 : Int32, x1_1 = (σ.1 133 0) →
  ∀ σ_2 : tzS, σ_2 = tz_st σ 133 0 0 →
  Q x1_1 σ_2
set_option maxRecDepth 20000 in
set_option maxHeartbeats 4000000 in
theorem m_X10_wipe (G : tzG) (hG : tz_ok G)   {σ : tzS} {Q : Int32 → tzS → Prop} (h : vc_X10_wipe  σ Q) : tz_M G yX10_wipe cX10_wipe 2 (some .int) 0 0 [.ref 133] σ (tz_Qi G Q) := by
  unfold vc_X10_wipe at h
  refine tz_starti hG RX10 [(0, .ref 133)] (by decide) rfl (Nat.le_of_ble_eq_true rfl) rfl (fun E C hret => ?_)
  refine tz_aload_n 0 0 C dX10_wipe_0 rfl rfl ?_
  refine tz_getI C dX10_wipe_1 fl_RX10_81 (by decide) rfl rfl ?_
  refine tz_istore_n 1 [(0, .ref 133)] C dX10_wipe_4 rfl (Nat.le_of_ble_eq_true rfl) rfl h (fun x1_1 h => ?_)
  refine tz_aload_n 0 1 C dX10_wipe_5 rfl rfl ?_
  refine tz_iconst 0 (by decide) C dX10_wipe_6 ?_
  refine tz_put C dX10_wipe_7 fp_RX10_81 (by decide) rfl rfl rfl rfl h (fun σ_2 h => ?_)
  refine tz_iload_n 1 0 C dX10_wipe_10 rfl rfl ?_
  exact hret _ _ _ _ dX10_wipe_11 h

def vc_X10_undo  (σ : tzS) (Q : Int32 → tzS → Prop) : Prop :=
  (¬ (σ.1 133 0) = 0 →
    ∀ σ_2 : tzS, σ_2 = tz_st σ 133 0 ((σ.1 133 0) - 1) →
    Q (σ_2.1 133 0) σ_2) ∧
  ((σ.1 133 0) = 0 →
    Q (-3) σ)
set_option maxRecDepth 20000 in
set_option maxHeartbeats 4000000 in
theorem m_X10_undo (G : tzG) (hG : tz_ok G)   {σ : tzS} {Q : Int32 → tzS → Prop} (h : vc_X10_undo  σ Q) : tz_M G yX10_undo cX10_undo 1 (some .int) 0 0 [.ref 133] σ (tz_Qi G Q) := by
  unfold vc_X10_undo at h
  refine tz_starti hG RX10 [(0, .ref 133)] (by decide) rfl (Nat.le_of_ble_eq_true rfl) rfl (fun E C hret => ?_)
  refine tz_aload_n 0 0 C dX10_undo_0 rfl rfl ?_
  refine tz_getI C dX10_undo_1 fl_RX10_81 (by decide) rfl rfl ?_
  refine tz_if_ne 10 C dX10_undo_4 (by decide) h (fun c_1 h => ?_) (fun c_1 h => ?_)
  · refine tz_aload_n 0 0 C dX10_undo_10 rfl rfl ?_
    refine tz_dup C dX10_undo_11 rfl ?_
    refine tz_getI C dX10_undo_12 fl_RX10_81 (by decide) rfl rfl ?_
    refine tz_iconst 1 (by decide) C dX10_undo_15 ?_
    refine tz_isub C dX10_undo_16 ?_
    refine tz_put C dX10_undo_17 fp_RX10_81 (by decide) rfl rfl rfl rfl h (fun σ_2 h => ?_)
    refine tz_aload_n 0 0 C dX10_undo_20 rfl rfl ?_
    refine tz_getI C dX10_undo_21 fl_RX10_81 (by decide) rfl rfl ?_
    exact hret _ _ _ _ dX10_undo_24 h
  · refine tz_bipush (-3) (by decide) C dX10_undo_7 ?_
    exact hret _ _ _ _ dX10_undo_9 h

def vc_X10_isSetting (x0 : Int32) (x1 : Int32) (σ : tzS) (Q : Int32 → tzS → Prop) : Prop :=
  (¬ x0 = 0 →
    (¬ x0 = 1 →
      vc_X10_in x0 2 3 σ (fun (r_4 : Int32) (σ_3 : tzS) =>
        (r_4 = 0 →
          Q 0 σ_3) ∧
        (¬ r_4 = 0 →
          vc_X10_in x1 1 4 σ_3 (fun (r_7 : Int32) (σ_6 : tzS) =>
            (r_7 = 0 →
              Q 0 σ_6) ∧
            (¬ r_7 = 0 →
              Q 1 σ_6))))) ∧
    (x0 = 1 →
      vc_X10_in x1 0 40 σ (fun (r_10 : Int32) (σ_9 : tzS) =>
        tz_bool r_10 ∧ Q r_10 σ_9))) ∧
  (x0 = 0 →
    vc_X10_in x1 0 3 σ (fun (r_12 : Int32) (σ_11 : tzS) =>
      tz_bool r_12 ∧ Q r_12 σ_11))
set_option maxRecDepth 20000 in
set_option maxHeartbeats 4000000 in
theorem m_X10_isSetting (G : tzG) (hG : tz_ok G) {x0 : Int32} {x1 : Int32}  {σ : tzS} {Q : Int32 → tzS → Prop} (h : vc_X10_isSetting x0 x1 σ Q) : tz_M G yX10_isSetting cX10_isSetting 2 (some .boolean) 1 22 [.int x0, .int x1] σ (tz_Qi G Q) := by
  unfold vc_X10_isSetting at h
  refine tz_startz hG RX10 [(0, .int x0), (1, .int x1)] (by decide) rfl (Nat.le_of_ble_eq_true rfl) rfl (fun E C hret => ?_)
  refine tz_iload_n 0 0 C dX10_isSetting_0 rfl rfl ?_
  refine tz_if_ne 13 C dX10_isSetting_1 (by decide) h (fun c_1 h => ?_) (fun c_1 h => ?_)
  · refine tz_iload_n 0 0 C dX10_isSetting_13 rfl rfl ?_
    refine tz_iconst 1 (by decide) C dX10_isSetting_14 ?_
    refine tz_icmp_ne 28 C dX10_isSetting_15 (by decide) h (fun c_2 h => ?_) (fun c_2 h => ?_)
    · refine tz_iload_n 0 0 C dX10_isSetting_28 rfl rfl ?_
      refine tz_iconst 2 (by decide) C dX10_isSetting_29 ?_
      refine tz_iconst 3 (by decide) C dX10_isSetting_30 ?_
      refine tz_callis C dX10_isSetting_31 lk_RX10_77 (m_X10_in G hG  h) rfl ⟨Nat.le_of_ble_eq_true rfl, Nat.le_of_ble_eq_true rfl⟩ (Nat.le_of_ble_eq_true rfl) rfl (fun r_4 σ_3 h => ?_)
      refine tz_if_eq 50 C dX10_isSetting_34 (by decide) h (fun c_5 h => ?_) (fun c_5 h => ?_)
      · refine tz_iconst 0 (by decide) C dX10_isSetting_50 ?_
        exact hret _ _ _ _ dX10_isSetting_51 rfl h
      · refine tz_iload_n 1 1 C dX10_isSetting_37 rfl rfl ?_
        refine tz_iconst 1 (by decide) C dX10_isSetting_38 ?_
        refine tz_iconst 4 (by decide) C dX10_isSetting_39 ?_
        refine tz_callis C dX10_isSetting_40 lk_RX10_77 (m_X10_in G hG  h) rfl ⟨Nat.le_of_ble_eq_true rfl, Nat.le_of_ble_eq_true rfl⟩ (Nat.le_of_ble_eq_true rfl) rfl (fun r_7 σ_6 h => ?_)
        refine tz_if_eq 50 C dX10_isSetting_43 (by decide) h (fun c_8 h => ?_) (fun c_8 h => ?_)
        · refine tz_iconst 0 (by decide) C dX10_isSetting_50 ?_
          exact hret _ _ _ _ dX10_isSetting_51 rfl h
        · refine tz_iconst 1 (by decide) C dX10_isSetting_46 ?_
          refine tz_goto 51 C dX10_isSetting_47 (by decide) ?_
          exact hret _ _ _ _ dX10_isSetting_51 rfl h
    · refine tz_iload_n 1 1 C dX10_isSetting_18 rfl rfl ?_
      refine tz_iconst 0 (by decide) C dX10_isSetting_19 ?_
      refine tz_bipush 40 (by decide) C dX10_isSetting_20 ?_
      refine tz_callis C dX10_isSetting_22 lk_RX10_77 (m_X10_in G hG  h) rfl ⟨Nat.le_of_ble_eq_true rfl, Nat.le_of_ble_eq_true rfl⟩ (Nat.le_of_ble_eq_true rfl) rfl (fun r_10 σ_9 h => ?_)
      refine tz_goto 51 C dX10_isSetting_25 (by decide) ?_
      exact hret _ _ _ _ dX10_isSetting_51 (tz_narz h.1) h.2
  · refine tz_iload_n 1 1 C dX10_isSetting_4 rfl rfl ?_
    refine tz_iconst 0 (by decide) C dX10_isSetting_5 ?_
    refine tz_iconst 3 (by decide) C dX10_isSetting_6 ?_
    refine tz_callis C dX10_isSetting_7 lk_RX10_77 (m_X10_in G hG  h) rfl ⟨Nat.le_of_ble_eq_true rfl, Nat.le_of_ble_eq_true rfl⟩ (Nat.le_of_ble_eq_true rfl) rfl (fun r_12 σ_11 h => ?_)
    refine tz_goto 51 C dX10_isSetting_10 (by decide) ?_
    exact hret _ _ _ _ dX10_isSetting_51 (tz_narz h.1) h.2

def vc_X10_set (x1 : Int32) (x2 : Int32) (σ : tzS) (Q : Int32 → tzS → Prop) : Prop :=
  vc_X10_isSetting x1 x2 σ (fun (r_2 : Int32) (σ_1 : tzS) =>
    (¬ r_2 = 0 →
      vp_in x1 4 ∧ (
        ∀ x3_5 : Int32, x3_5 = (σ_1.1 135 x1.toNatClampNeg) →
        ∀ σ_6 : tzS, σ_6 = tz_st σ_1 135 x1.toNatClampNeg x2 →
        Q x3_5 σ_6)) ∧
    (r_2 = 0 →
      Q (-2) σ_1))
set_option maxRecDepth 20000 in
set_option maxHeartbeats 4000000 in
theorem m_X10_set (G : tzG) (hG : tz_ok G) {x1 : Int32} {x2 : Int32}  {σ : tzS} {Q : Int32 → tzS → Prop} (h : vc_X10_set x1 x2 σ Q) : tz_M G yX10_set cX10_set 4 (some .int) 2 43 [.ref 133, .int x1, .int x2] σ (tz_Qi G Q) := by
  unfold vc_X10_set at h
  refine tz_starti hG RX10 [(0, .ref 133), (1, .int x1), (2, .int x2)] (by decide) rfl (Nat.le_of_ble_eq_true rfl) rfl (fun E C hret => ?_)
  refine tz_iload_n 1 1 C dX10_set_0 rfl rfl ?_
  refine tz_iload_n 2 2 C dX10_set_1 rfl rfl ?_
  refine tz_callis C dX10_set_2 lk_RX10_85 (m_X10_isSetting G hG  h) rfl ⟨Nat.le_of_ble_eq_true rfl, Nat.le_of_ble_eq_true rfl⟩ (Nat.le_of_ble_eq_true rfl) rfl (fun r_2 σ_1 h => ?_)
  refine tz_if_ne 11 C dX10_set_5 (by decide) h (fun c_3 h => ?_) (fun c_3 h => ?_)
  · refine tz_aload_n 0 0 C dX10_set_11 rfl rfl ?_
    refine tz_getR C dX10_set_12 fl_RX10_13 (by decide) rfl rfl ?_
    refine tz_iload_n 1 1 C dX10_set_15 rfl rfl ?_
    obtain ⟨hin_4, h⟩ := h
    refine tz_iald C dX10_set_16 (by decide) rfl hin_4 ?_
    refine tz_istore_n 3 [(0, .ref 133), (1, .int x1), (2, .int x2)] C dX10_set_17 rfl (Nat.le_of_ble_eq_true rfl) rfl h (fun x3_5 h => ?_)
    refine tz_aload_n 0 1 C dX10_set_18 rfl rfl ?_
    refine tz_getR C dX10_set_19 fl_RX10_13 (by decide) rfl rfl ?_
    refine tz_iload_n 1 2 C dX10_set_22 rfl rfl ?_
    refine tz_iload_n 2 3 C dX10_set_23 rfl rfl ?_
    refine tz_iast_c _ C dX10_set_24 (by decide) rfl hin_4 rfl h (fun σ_6 h => ?_)
    refine tz_iload_n 3 0 C dX10_set_25 rfl rfl ?_
    exact hret _ _ _ _ dX10_set_26 h
  · refine tz_bipush (-2) (by decide) C dX10_set_8 ?_
    exact hret _ _ _ _ dX10_set_10 h

def vc_X10_tell (x1 : Int32) (σ : tzS) (Q : Int32 → tzS → Prop) : Prop :=
  ((x1 &&& (-4095)) = 0 →
    ∀ x2_2 : Int32, x2_2 = (σ.1 133 3) →
    ∀ σ_3 : tzS, σ_3 = tz_st σ 133 3 x1 →
    Q x2_2 σ_3) ∧
  (¬ (x1 &&& (-4095)) = 0 →
    Q (-2) σ)
set_option maxRecDepth 20000 in
set_option maxHeartbeats 4000000 in
theorem m_X10_tell (G : tzG) (hG : tz_ok G) {x1 : Int32}  {σ : tzS} {Q : Int32 → tzS → Prop} (h : vc_X10_tell x1 σ Q) : tz_M G yX10_tell cX10_tell 3 (some .int) 0 0 [.ref 133, .int x1] σ (tz_Qi G Q) := by
  unfold vc_X10_tell at h
  refine tz_starti hG RX10 [(0, .ref 133), (1, .int x1)] (by decide) rfl (Nat.le_of_ble_eq_true rfl) rfl (fun E C hret => ?_)
  refine tz_iload_n 1 1 C dX10_tell_0 rfl rfl ?_
  refine tz_sipush (-4095) (by decide) C dX10_tell_1 ?_
  refine tz_iand C dX10_tell_4 ?_
  refine tz_if_eq 11 C dX10_tell_5 (by decide) h (fun c_1 h => ?_) (fun c_1 h => ?_)
  · refine tz_aload_n 0 0 C dX10_tell_11 rfl rfl ?_
    refine tz_getI C dX10_tell_12 fl_RX10_89 (by decide) rfl rfl ?_
    refine tz_istore_n 2 [(0, .ref 133), (1, .int x1)] C dX10_tell_15 rfl (Nat.le_of_ble_eq_true rfl) rfl h (fun x2_2 h => ?_)
    refine tz_aload_n 0 1 C dX10_tell_16 rfl rfl ?_
    refine tz_iload_n 1 2 C dX10_tell_17 rfl rfl ?_
    refine tz_put C dX10_tell_18 fp_RX10_89 (by decide) rfl rfl rfl rfl h (fun σ_3 h => ?_)
    refine tz_iload_n 2 0 C dX10_tell_21 rfl rfl ?_
    exact hret _ _ _ _ dX10_tell_22 h
  · refine tz_bipush (-2) (by decide) C dX10_tell_8 ?_
    exact hret _ _ _ _ dX10_tell_10 h

def vc_X10_isSheet (x0 : Int32) (σ : tzS) (Q : Int32 → tzS → Prop) : Prop :=
  vc_X10_in x0 0 3 σ (fun (r_2 : Int32) (σ_1 : tzS) =>
    tz_bool r_2 ∧ Q r_2 σ_1)
set_option maxRecDepth 20000 in
set_option maxHeartbeats 4000000 in
theorem m_X10_isSheet (G : tzG) (hG : tz_ok G) {x0 : Int32}  {σ : tzS} {Q : Int32 → tzS → Prop} (h : vc_X10_isSheet x0 σ Q) : tz_M G yX10_isSheet cX10_isSheet 1 (some .boolean) 1 22 [.int x0] σ (tz_Qi G Q) := by
  unfold vc_X10_isSheet at h
  refine tz_startz hG RX10 [(0, .int x0)] (by decide) rfl (Nat.le_of_ble_eq_true rfl) rfl (fun E C hret => ?_)
  refine tz_iload_n 0 0 C dX10_isSheet_0 rfl rfl ?_
  refine tz_iconst 0 (by decide) C dX10_isSheet_1 ?_
  refine tz_iconst 3 (by decide) C dX10_isSheet_2 ?_
  refine tz_callis C dX10_isSheet_3 lk_RX10_77 (m_X10_in G hG  h) rfl ⟨Nat.le_of_ble_eq_true rfl, Nat.le_of_ble_eq_true rfl⟩ (Nat.le_of_ble_eq_true rfl) rfl (fun r_2 σ_1 h => ?_)
  exact hret _ _ _ _ dX10_isSheet_6 (tz_narz h.1) h.2

def vc_X10_meets (x1 : Int32) (σ : tzS) (Q : Int32 → tzS → Prop) : Prop :=
  ∀ σ_1 : tzS, σ_1 = tz_st σ 133 36 x1 →
  Q ((-10) - x1) σ_1
set_option maxRecDepth 20000 in
set_option maxHeartbeats 4000000 in
theorem m_X10_meets (G : tzG) (hG : tz_ok G) {x1 : Int32}  {σ : tzS} {Q : Int32 → tzS → Prop} (h : vc_X10_meets x1 σ Q) : tz_M G yX10_meets cX10_meets 2 (some .int) 0 0 [.ref 133, .int x1] σ (tz_Qi G Q) := by
  unfold vc_X10_meets at h
  refine tz_starti hG RX10 [(0, .ref 133), (1, .int x1)] (by decide) rfl (Nat.le_of_ble_eq_true rfl) rfl (fun E C hret => ?_)
  refine tz_aload_n 0 0 C dX10_meets_0 rfl rfl ?_
  refine tz_iload_n 1 1 C dX10_meets_1 rfl rfl ?_
  refine tz_put C dX10_meets_2 fp_RX10_267 (by decide) rfl rfl rfl rfl h (fun σ_1 h => ?_)
  refine tz_bipush (-10) (by decide) C dX10_meets_5 ?_
  refine tz_iload_n 1 1 C dX10_meets_7 rfl rfl ?_
  refine tz_isub C dX10_meets_8 ?_
  exact hret _ _ _ _ dX10_meets_9 h

def vc_X10_read (x1 : Int32) (σ : tzS) (Q : Int32 → tzS → Prop) : Prop :=
  vc_X10_isSheet x1 σ (fun (r_2 : Int32) (σ_1 : tzS) =>
    (¬ r_2 = 0 →
      vp_in x1 4 ∧ (
        (¬ (σ_1.1 151 x1.toNatClampNeg) = 0 →
          tz_loop1 (fun (x2_8 : Int32) (σ_7 : tzS) (ag_6 : Int32 → tzS → Prop) =>
            ((σ_7.1 153 x1.toNatClampNeg) ≤ x2_8 →
              Q x2_8 σ_7) ∧
            (¬ (σ_7.1 153 x1.toNatClampNeg) ≤ x2_8 →
              vp_in ((60 * x1) + x2_8) 240 ∧ (
                vc_X10_type (σ_7.1 154 ((60 * x1) + x2_8).toNatClampNeg) σ_7 (fun (r_12 : Int32) (σ_11 : tzS) =>
                  (r_12 ≤ 0 →
                    Q x2_8 σ_11) ∧
                  (¬ r_12 ≤ 0 →
                    ∀ x2_14 : Int32, x2_14 = x2_8 + 1 →
                    ag_6 x2_14 σ_11))))) (0 : Int32) σ_1) ∧
        ((σ_1.1 151 x1.toNatClampNeg) = 0 →
          vc_X10_meets 1 σ_1 (fun (r_16 : Int32) (σ_15 : tzS) =>
            Q r_16 σ_15)))) ∧
    (r_2 = 0 →
      Q (-2) σ_1))
set_option maxRecDepth 20000 in
set_option maxHeartbeats 4000000 in
theorem m_X10_read (G : tzG) (hG : tz_ok G) {x1 : Int32}  {σ : tzS} {Q : Int32 → tzS → Prop} (h : vc_X10_read x1 σ Q) : tz_M G yX10_read cX10_read 3 (some .int) 2 43 [.ref 133, .int x1] σ (tz_Qi G Q) := by
  unfold vc_X10_read at h
  refine tz_starti hG RX10 [(0, .ref 133), (1, .int x1)] (by decide) rfl (Nat.le_of_ble_eq_true rfl) rfl (fun E C hret => ?_)
  refine tz_iload_n 1 1 C dX10_read_0 rfl rfl ?_
  refine tz_callis C dX10_read_1 lk_RX10_92 (m_X10_isSheet G hG  h) rfl ⟨Nat.le_of_ble_eq_true rfl, Nat.le_of_ble_eq_true rfl⟩ (Nat.le_of_ble_eq_true rfl) rfl (fun r_2 σ_1 h => ?_)
  refine tz_if_ne 10 C dX10_read_4 (by decide) h (fun c_3 h => ?_) (fun c_3 h => ?_)
  · refine tz_aload_n 0 0 C dX10_read_10 rfl rfl ?_
    refine tz_getR C dX10_read_11 fl_RX10_61 (by decide) rfl rfl ?_
    refine tz_iload_n 1 1 C dX10_read_14 rfl rfl ?_
    obtain ⟨hin_4, h⟩ := h
    refine tz_zald C dX10_read_15 (by decide) rfl hin_4 ?_
    refine tz_if_ne 25 C dX10_read_16 (by decide) h (fun c_5 h => ?_) (fun c_5 h => ?_)
    · refine tz_iconst 0 (by decide) C dX10_read_25 ?_
      refine tz_istore_n_k 2 [(0, .ref 133), (1, .int x1)] C dX10_read_26 rfl (Nat.le_of_ble_eq_true rfl) rfl ?_
      refine tz_sub (L := [(0, .ref 133), (1, .int x1), (2, .int 0)]) ?_ [1, 2, 0] rfl
      refine tz_loop1_w (V := fun (x2_8 : Int32) (σ_7 : tzS) => tz_V G E 27 [(0, .ref 133), (1, .int x1), (2, .int x2_8)] [] σ_7) h (fun ag_6 ihag_6 x2_8 σ_7 h => ?_)
      refine tz_iload_n 2 2 C dX10_read_27 rfl rfl ?_
      refine tz_aload_n 0 0 C dX10_read_28 rfl rfl ?_
      refine tz_getR C dX10_read_29 fl_RX10_68 (by decide) rfl rfl ?_
      refine tz_iload_n 1 1 C dX10_read_32 rfl rfl ?_
      refine tz_iald C dX10_read_33 (by decide) rfl hin_4 ?_
      refine tz_icmp_ge 61 C dX10_read_34 (by decide) h (fun c_9 h => ?_) (fun c_9 h => ?_)
      · refine tz_iload_n 2 2 C dX10_read_61 rfl rfl ?_
        exact hret _ _ _ _ dX10_read_62 h
      · refine tz_aload_n 0 0 C dX10_read_37 rfl rfl ?_
        refine tz_aload_n 0 0 C dX10_read_38 rfl rfl ?_
        refine tz_getR C dX10_read_39 fl_RX10_71 (by decide) rfl rfl ?_
        refine tz_bipush 60 (by decide) C dX10_read_42 ?_
        refine tz_iload_n 1 1 C dX10_read_44 rfl rfl ?_
        refine tz_imul C dX10_read_45 ?_
        refine tz_iload_n 2 2 C dX10_read_46 rfl rfl ?_
        refine tz_iadd C dX10_read_47 ?_
        obtain ⟨hin_10, h⟩ := h
        refine tz_iald C dX10_read_48 (by decide) rfl hin_10 ?_
        refine tz_calliv C dX10_read_49 lk_RX10_100 (m_X10_type G hG  h) (by decide) rfl rfl rfl rfl ⟨Nat.le_of_ble_eq_true rfl, Nat.le_of_ble_eq_true rfl⟩ (Nat.le_of_ble_eq_true rfl) rfl (fun r_12 σ_11 h => ?_)
        refine tz_if_le 61 C dX10_read_52 (by decide) h (fun c_13 h => ?_) (fun c_13 h => ?_)
        · refine tz_iload_n 2 2 C dX10_read_61 rfl rfl ?_
          exact hret _ _ _ _ dX10_read_62 h
        · refine tz_iinc 2 [(0, .ref 133), (1, .int x1)] 1 C dX10_read_55 (by decide) rfl (Nat.le_of_ble_eq_true rfl) rfl h (fun x2_14 h => ?_)
          refine tz_goto 27 C dX10_read_58 (by decide) ?_
          exact tz_sub (ihag_6 _ _ h) [1, 2, 0] rfl
    · refine tz_aload_n 0 0 C dX10_read_19 rfl rfl ?_
      refine tz_iconst 1 (by decide) C dX10_read_20 ?_
      refine tz_calliv C dX10_read_21 lk_RX10_96 (m_X10_meets G hG  h) (by decide) rfl rfl rfl rfl ⟨Nat.le_of_ble_eq_true rfl, Nat.le_of_ble_eq_true rfl⟩ (Nat.le_of_ble_eq_true rfl) rfl (fun r_16 σ_15 h => ?_)
      exact hret _ _ _ _ dX10_read_24 h
  · refine tz_bipush (-2) (by decide) C dX10_read_7 ?_
    exact hret _ _ _ _ dX10_read_9 h

def vc_X10_fails (x1 : Int32) (x2 : Int32) (σ : tzS) (Q : tzS → Prop) : Prop :=
  ∀ σ_1 : tzS, σ_1 = tz_st σ 133 4 x1 →
  ∀ σ_2 : tzS, σ_2 = tz_st σ_1 133 5 x2 →
  ∀ σ_3 : tzS, σ_3 = tz_st σ_2 133 6 (σ_2.1 133 7) →
  Q σ_3
set_option maxRecDepth 20000 in
set_option maxHeartbeats 4000000 in
theorem m_X10_fails (G : tzG) (hG : tz_ok G) {x1 : Int32} {x2 : Int32}  {σ : tzS} {Q : tzS → Prop} (h : vc_X10_fails x1 x2 σ Q) : tz_M G yX10_fails cX10_fails 3 (none) 0 0 [.ref 133, .int x1, .int x2] σ (tz_Qv G Q) := by
  unfold vc_X10_fails at h
  refine tz_startv hG RX10 [(0, .ref 133), (1, .int x1), (2, .int x2)] (by decide) rfl (Nat.le_of_ble_eq_true rfl) rfl (fun E C hret => ?_)
  refine tz_aload_n 0 0 C dX10_fails_0 rfl rfl ?_
  refine tz_iload_n 1 1 C dX10_fails_1 rfl rfl ?_
  refine tz_put C dX10_fails_2 fp_RX10_103 (by decide) rfl rfl rfl rfl h (fun σ_1 h => ?_)
  refine tz_aload_n 0 0 C dX10_fails_5 rfl rfl ?_
  refine tz_iload_n 2 2 C dX10_fails_6 rfl rfl ?_
  refine tz_put C dX10_fails_7 fp_RX10_106 (by decide) rfl rfl rfl rfl h (fun σ_2 h => ?_)
  refine tz_aload_n 0 0 C dX10_fails_10 rfl rfl ?_
  refine tz_aload_n 0 0 C dX10_fails_11 rfl rfl ?_
  refine tz_getI C dX10_fails_12 fl_RX10_109 (by decide) rfl rfl ?_
  refine tz_put C dX10_fails_15 fp_RX10_112 (by decide) rfl rfl rfl rfl h (fun σ_3 h => ?_)
  exact hret _ _ _ dX10_fails_18 h

def vc_X10_whyNot (x1 : Int32) (x2 : Int32) (x3 : Int32) (x4 : Int32) (σ : tzS) (Q : Int32 → tzS → Prop) : Prop :=
  vc_X10_in x1 97 122 σ (fun (r_2 : Int32) (σ_1 : tzS) =>
    tz_join0 (fun (σ_4 : tzS) =>
      tz_join0 (fun (σ_6 : tzS) =>
        (r_2 = 0 →
          Q (-1) σ_6) ∧
        (¬ r_2 = 0 →
          (x2 = 2 →
            (¬ x4 = 10 →
              Q (-1) σ_6) ∧
            (x4 = 10 →
              Q 2 σ_6)) ∧
          (¬ x2 = 2 →
            ((σ_6.1 133 7) = 12 →
              Q 4 σ_6) ∧
            (¬ (σ_6.1 133 7) = 12 →
              (¬ x3 = 9 →
                Q (-1) σ_6) ∧
              (x3 = 9 →
                Q 4 σ_6))))) (fun (K_5 : tzS → Prop) =>
        (¬ r_2 = 0 →
          K_5  σ_4) ∧
        (r_2 = 0 →
          (x2 = 2 →
            K_5  σ_4) ∧
          (¬ x2 = 2 →
            (¬ x2 = 1 →
              Q 3 σ_4) ∧
            (x2 = 1 →
              (x1 = 32 →
                K_5  σ_4) ∧
              (¬ x1 = 32 →
                Q 3 σ_4)))))) (fun (K_3 : tzS → Prop) =>
      (¬ r_2 = 0 →
        K_3  σ_1) ∧
      (r_2 = 0 →
        (x1 = 32 →
          K_3  σ_1) ∧
        (¬ x1 = 32 →
          (x1 = 46 →
            K_3  σ_1) ∧
          (¬ x1 = 46 →
            Q 1 σ_1)))))
set_option maxRecDepth 20000 in
set_option maxHeartbeats 4000000 in
theorem m_X10_whyNot (G : tzG) (hG : tz_ok G) {x1 : Int32} {x2 : Int32} {x3 : Int32} {x4 : Int32}  {σ : tzS} {Q : Int32 → tzS → Prop} (h : vc_X10_whyNot x1 x2 x3 x4 σ Q) : tz_M G yX10_whyNot cX10_whyNot 6 (some .int) 1 22 [.ref 133, .int x1, .int x2, .int x3, .int x4] σ (tz_Qi G Q) := by
  unfold vc_X10_whyNot at h
  refine tz_starti hG RX10 [(0, .ref 133), (1, .int x1), (2, .int x2), (3, .int x3), (4, .int x4)] (by decide) rfl (Nat.le_of_ble_eq_true rfl) rfl (fun E C hret => ?_)
  refine tz_iload_n 1 1 C dX10_whyNot_0 rfl rfl ?_
  refine tz_bipush 97 (by decide) C dX10_whyNot_1 ?_
  refine tz_bipush 122 (by decide) C dX10_whyNot_3 ?_
  refine tz_callis C dX10_whyNot_5 lk_RX10_77 (m_X10_in G hG  h) rfl ⟨Nat.le_of_ble_eq_true rfl, Nat.le_of_ble_eq_true rfl⟩ (Nat.le_of_ble_eq_true rfl) rfl (fun r_2 σ_1 h => ?_)
  refine tz_istore_k [(0, .ref 133), (1, .int x1), (2, .int x2), (3, .int x3), (4, .int x4)] C dX10_whyNot_8 (Nat.le_of_ble_eq_true rfl) rfl ?_
  refine tz_iload 0 C dX10_whyNot_10 rfl ?_
  obtain ⟨K_3, hrK_3, h⟩ := h
  have hK_3 : ∀ (σ_4 : tzS), K_3  σ_4 → tz_V G E 29 [(0, .ref 133), (1, .int x1), (2, .int x2), (3, .int x3), (4, .int x4), (5, .int r_2)] [] σ_4 := by
    intro σ_4 h
    replace h := hrK_3 σ_4 h
    refine tz_iload 5 C dX10_whyNot_29 rfl ?_
    obtain ⟨K_5, hrK_5, h⟩ := h
    have hK_5 : ∀ (σ_6 : tzS), K_5  σ_6 → tz_V G E 52 [(0, .ref 133), (2, .int x2), (3, .int x3), (4, .int x4), (5, .int r_2)] [] σ_6 := by
      intro σ_6 h
      replace h := hrK_5 σ_6 h
      refine tz_iload 4 C dX10_whyNot_52 rfl ?_
      refine tz_if_eq 79 C dX10_whyNot_54 (by decide) h (fun c_7 h => ?_) (fun c_7 h => ?_)
      · refine tz_iload 4 C dX10_whyNot_79 rfl ?_
        refine tz_if_eq_t 100 C dX10_whyNot_81 (by decide) c_7 ?_
        refine tz_iconst (-1) (by decide) C dX10_whyNot_100 ?_
        exact hret _ _ _ _ dX10_whyNot_101 h
      · refine tz_iload_n 2 1 C dX10_whyNot_57 rfl rfl ?_
        refine tz_iconst 2 (by decide) C dX10_whyNot_58 ?_
        refine tz_icmp_eq 79 C dX10_whyNot_59 (by decide) h (fun c_8 h => ?_) (fun c_8 h => ?_)
        · refine tz_iload 4 C dX10_whyNot_79 rfl ?_
          refine tz_if_eq_f 100 C dX10_whyNot_81 (by decide) c_7 ?_
          refine tz_iload_n 2 1 C dX10_whyNot_84 rfl rfl ?_
          refine tz_iconst 2 (by decide) C dX10_whyNot_85 ?_
          refine tz_icmp_ne_f 100 C dX10_whyNot_86 (by decide) c_8 ?_
          refine tz_iload 3 C dX10_whyNot_89 rfl ?_
          refine tz_bipush 10 (by decide) C dX10_whyNot_91 ?_
          refine tz_icmp_ne 100 C dX10_whyNot_93 (by decide) h (fun c_9 h => ?_) (fun c_9 h => ?_)
          · refine tz_iconst (-1) (by decide) C dX10_whyNot_100 ?_
            exact hret _ _ _ _ dX10_whyNot_101 h
          · refine tz_iconst 2 (by decide) C dX10_whyNot_96 ?_
            refine tz_goto 101 C dX10_whyNot_97 (by decide) ?_
            exact hret _ _ _ _ dX10_whyNot_101 h
        · refine tz_aload_n 0 0 C dX10_whyNot_62 rfl rfl ?_
          refine tz_getI C dX10_whyNot_63 fl_RX10_109 (by decide) rfl rfl ?_
          refine tz_bipush 12 (by decide) C dX10_whyNot_66 ?_
          refine tz_icmp_eq 77 C dX10_whyNot_68 (by decide) h (fun c_10 h => ?_) (fun c_10 h => ?_)
          · refine tz_iconst 4 (by decide) C dX10_whyNot_77 ?_
            exact hret _ _ _ _ dX10_whyNot_78 h
          · refine tz_iload_n 3 2 C dX10_whyNot_71 rfl rfl ?_
            refine tz_bipush 9 (by decide) C dX10_whyNot_72 ?_
            refine tz_icmp_ne 79 C dX10_whyNot_74 (by decide) h (fun c_11 h => ?_) (fun c_11 h => ?_)
            · refine tz_iload 4 C dX10_whyNot_79 rfl ?_
              refine tz_if_eq_f 100 C dX10_whyNot_81 (by decide) c_7 ?_
              refine tz_iload_n 2 1 C dX10_whyNot_84 rfl rfl ?_
              refine tz_iconst 2 (by decide) C dX10_whyNot_85 ?_
              refine tz_icmp_ne_t 100 C dX10_whyNot_86 (by decide) c_8 ?_
              refine tz_iconst (-1) (by decide) C dX10_whyNot_100 ?_
              exact hret _ _ _ _ dX10_whyNot_101 h
            · refine tz_iconst 4 (by decide) C dX10_whyNot_77 ?_
              exact hret _ _ _ _ dX10_whyNot_78 h
    refine tz_if_ne 52 C dX10_whyNot_31 (by decide) h (fun c_12 h => ?_) (fun c_12 h => ?_)
    · exact tz_sub (hK_5 _ h) [0, 2, 3, 4, 5] rfl
    · refine tz_iload_n 2 2 C dX10_whyNot_34 rfl rfl ?_
      refine tz_iconst 2 (by decide) C dX10_whyNot_35 ?_
      refine tz_icmp_eq 52 C dX10_whyNot_36 (by decide) h (fun c_13 h => ?_) (fun c_13 h => ?_)
      · exact tz_sub (hK_5 _ h) [0, 2, 3, 4, 5] rfl
      · refine tz_iload_n 2 2 C dX10_whyNot_39 rfl rfl ?_
        refine tz_iconst 1 (by decide) C dX10_whyNot_40 ?_
        refine tz_icmp_ne 50 C dX10_whyNot_41 (by decide) h (fun c_14 h => ?_) (fun c_14 h => ?_)
        · refine tz_iconst 3 (by decide) C dX10_whyNot_50 ?_
          exact hret _ _ _ _ dX10_whyNot_51 h
        · refine tz_iload_n 1 1 C dX10_whyNot_44 rfl rfl ?_
          refine tz_bipush 32 (by decide) C dX10_whyNot_45 ?_
          refine tz_icmp_eq 52 C dX10_whyNot_47 (by decide) h (fun c_15 h => ?_) (fun c_15 h => ?_)
          · exact tz_sub (hK_5 _ h) [0, 2, 3, 4, 5] rfl
          · refine tz_iconst 3 (by decide) C dX10_whyNot_50 ?_
            exact hret _ _ _ _ dX10_whyNot_51 h
  refine tz_if_ne 29 C dX10_whyNot_12 (by decide) h (fun c_16 h => ?_) (fun c_16 h => ?_)
  · exact tz_sub (hK_3 _ h) [1, 2, 3, 4, 5, 0] rfl
  · refine tz_iload_n 1 2 C dX10_whyNot_15 rfl rfl ?_
    refine tz_bipush 32 (by decide) C dX10_whyNot_16 ?_
    refine tz_icmp_eq 29 C dX10_whyNot_18 (by decide) h (fun c_17 h => ?_) (fun c_17 h => ?_)
    · exact tz_sub (hK_3 _ h) [1, 2, 3, 4, 5, 0] rfl
    · refine tz_iload_n 1 2 C dX10_whyNot_21 rfl rfl ?_
      refine tz_bipush 46 (by decide) C dX10_whyNot_22 ?_
      refine tz_icmp_eq 29 C dX10_whyNot_24 (by decide) h (fun c_18 h => ?_) (fun c_18 h => ?_)
      · exact tz_sub (hK_3 _ h) [1, 2, 3, 4, 5, 0] rfl
      · refine tz_iconst 1 (by decide) C dX10_whyNot_27 ?_
        exact hret _ _ _ _ dX10_whyNot_28 h

def vc_X10_begins (x1 : Int32) (x2 : Int32) (σ : tzS) (Q : tzS → Prop) : Prop :=
  vp_in (σ.1 133 8) 110 ∧ (
    ∀ σ_1 : tzS, σ_1 = tz_st σ 136 (σ.1 133 8).toNatClampNeg x1 →
    vp_in (σ_1.1 133 8) 110 ∧ (
      ∀ σ_3 : tzS, σ_3 = tz_st σ_1 137 (σ_1.1 133 8).toNatClampNeg 0 →
      vp_in (σ_3.1 133 8) 110 ∧ (
        ∀ σ_5 : tzS, σ_5 = tz_st σ_3 138 (σ_3.1 133 8).toNatClampNeg (σ_3.1 133 7) →
        (¬ x2 = 0 →
          ∀ σ_8 : tzS, σ_8 = tz_st σ_5 133 8 ((σ_5.1 133 8) + 1) →
          Q σ_8) ∧
        (x2 = 0 →
          vp_in (σ_5.1 133 7) 14 ∧ (
            ∀ σ_9 : tzS, σ_9 = tz_st σ_5 142 (σ_5.1 133 7).toNatClampNeg (σ_5.1 133 8) →
            ∀ σ_11 : tzS, σ_11 = tz_st σ_9 133 8 ((σ_9.1 133 8) + 1) →
            Q σ_11)))))
set_option maxRecDepth 20000 in
set_option maxHeartbeats 4000000 in
theorem m_X10_begins (G : tzG) (hG : tz_ok G) {x1 : Int32} {x2 : Int32}  {σ : tzS} {Q : tzS → Prop} (h : vc_X10_begins x1 x2 σ Q) : tz_M G yX10_begins cX10_begins 3 (none) 0 0 [.ref 133, .int x1, .int x2] σ (tz_Qv G Q) := by
  unfold vc_X10_begins at h
  refine tz_startv hG RX10 [(0, .ref 133), (1, .int x1), (2, .int x2)] (by decide) rfl (Nat.le_of_ble_eq_true rfl) rfl (fun E C hret => ?_)
  refine tz_aload_n 0 0 C dX10_begins_0 rfl rfl ?_
  refine tz_getR C dX10_begins_1 fl_RX10_16 (by decide) rfl rfl ?_
  refine tz_aload_n 0 0 C dX10_begins_4 rfl rfl ?_
  refine tz_getI C dX10_begins_5 fl_RX10_115 (by decide) rfl rfl ?_
  refine tz_iload_n 1 1 C dX10_begins_8 rfl rfl ?_
  have hin_2 := h.1
  refine tz_iast C dX10_begins_9 (by decide) rfl h (fun σ_1 h => ?_)
  refine tz_aload_n 0 0 C dX10_begins_10 rfl rfl ?_
  refine tz_getR C dX10_begins_11 fl_RX10_19 (by decide) rfl rfl ?_
  refine tz_aload_n 0 0 C dX10_begins_14 rfl rfl ?_
  refine tz_getI C dX10_begins_15 fl_RX10_115 (by decide) rfl rfl ?_
  refine tz_iconst 0 (by decide) C dX10_begins_18 ?_
  have hin_4 := h.1
  refine tz_iast C dX10_begins_19 (by decide) rfl h (fun σ_3 h => ?_)
  refine tz_aload_n 0 0 C dX10_begins_20 rfl rfl ?_
  refine tz_getR C dX10_begins_21 fl_RX10_22 (by decide) rfl rfl ?_
  refine tz_aload_n 0 0 C dX10_begins_24 rfl rfl ?_
  refine tz_getI C dX10_begins_25 fl_RX10_115 (by decide) rfl rfl ?_
  refine tz_aload_n 0 0 C dX10_begins_28 rfl rfl ?_
  refine tz_getI C dX10_begins_29 fl_RX10_109 (by decide) rfl rfl ?_
  have hin_6 := h.1
  refine tz_iast C dX10_begins_32 (by decide) rfl h (fun σ_5 h => ?_)
  refine tz_iload_n 2 2 C dX10_begins_33 rfl rfl ?_
  refine tz_if_ne 50 C dX10_begins_34 (by decide) h (fun c_7 h => ?_) (fun c_7 h => ?_)
  · refine tz_aload_n 0 0 C dX10_begins_50 rfl rfl ?_
    refine tz_dup C dX10_begins_51 rfl ?_
    refine tz_getI C dX10_begins_52 fl_RX10_115 (by decide) rfl rfl ?_
    refine tz_iconst 1 (by decide) C dX10_begins_55 ?_
    refine tz_iadd C dX10_begins_56 ?_
    refine tz_put C dX10_begins_57 fp_RX10_115 (by decide) rfl rfl rfl rfl h (fun σ_8 h => ?_)
    exact hret _ _ _ dX10_begins_60 h
  · refine tz_aload_n 0 0 C dX10_begins_37 rfl rfl ?_
    refine tz_getR C dX10_begins_38 fl_RX10_34 (by decide) rfl rfl ?_
    refine tz_aload_n 0 0 C dX10_begins_41 rfl rfl ?_
    refine tz_getI C dX10_begins_42 fl_RX10_109 (by decide) rfl rfl ?_
    refine tz_aload_n 0 0 C dX10_begins_45 rfl rfl ?_
    refine tz_getI C dX10_begins_46 fl_RX10_115 (by decide) rfl rfl ?_
    have hin_10 := h.1
    refine tz_iast C dX10_begins_49 (by decide) rfl h (fun σ_9 h => ?_)
    refine tz_aload_n 0 0 C dX10_begins_50 rfl rfl ?_
    refine tz_dup C dX10_begins_51 rfl ?_
    refine tz_getI C dX10_begins_52 fl_RX10_115 (by decide) rfl rfl ?_
    refine tz_iconst 1 (by decide) C dX10_begins_55 ?_
    refine tz_iadd C dX10_begins_56 ?_
    refine tz_put C dX10_begins_57 fp_RX10_115 (by decide) rfl rfl rfl rfl h (fun σ_11 h => ?_)
    exact hret _ _ _ dX10_begins_60 h

def vc_X10_readsText  (σ : tzS) (Q : tzS → Prop) : Prop :=
  ∀ σ_1 : tzS, σ_1 = tz_st σ 133 7 0 →
  ∀ σ_2 : tzS, σ_2 = tz_st σ_1 133 8 0 →
  ∀ σ_3 : tzS, σ_3 = tz_st σ_2 133 4 (-1) →
  ∀ σ_4 : tzS, σ_4 = tz_st σ_3 133 5 (-1) →
  ∀ σ_5 : tzS, σ_5 = tz_st σ_4 133 6 (-1) →
  tz_loop3 (fun (x1_8 : Int32) (x2_9 : Int32) (x3_10 : Int32) (σ_7 : tzS) (ag_6 : Int32 → Int32 → Int32 → tzS → Prop) =>
    ((σ_7.1 133 0) ≤ x3_10 →
      (x1_8 ≤ 1 →
        Q σ_7) ∧
      (¬ x1_8 ≤ 1 →
        vc_X10_fails (σ_7.1 133 0) 5 σ_7 (fun (σ_13 : tzS) =>
          Q σ_13))) ∧
    (¬ (σ_7.1 133 0) ≤ x3_10 →
      vp_in x3_10 200 ∧ (
        ∀ x4_15 : Int32, x4_15 = (σ_7.1 134 x3_10.toNatClampNeg) →
        tz_join1 (fun (y_18 : Int32) (σ_17 : tzS) =>
          vc_X10_whyNot x4_15 x1_8 x2_9 y_18 σ_17 (fun (r_20 : Int32) (σ_19 : tzS) =>
            (r_20 = (-1) →
              vc_X10_in x4_15 97 122 σ_19 (fun (r_23 : Int32) (σ_22 : tzS) =>
                (r_23 = 0 →
                  (¬ x4_15 = 46 →
                    (¬ x1_8 = 1 →
                      ∀ x3_27 : Int32, x3_27 = x3_10 + 1 →
                      ag_6 3 x2_9 x3_27 σ_22) ∧
                    (x1_8 = 1 →
                      ∀ x3_28 : Int32, x3_28 = x3_10 + 1 →
                      ag_6 0 x2_9 x3_28 σ_22)) ∧
                  (x4_15 = 46 →
                    ∀ σ_29 : tzS, σ_29 = tz_st σ_22 133 7 ((σ_22.1 133 7) + 1) →
                    ∀ x3_30 : Int32, x3_30 = x3_10 + 1 →
                    ag_6 1 0 x3_30 σ_29)) ∧
                (¬ r_23 = 0 →
                  (x1_8 = 2 →
                    vp_in ((σ_22.1 133 8) - 1) 110 ∧ (
                      ∀ σ_33 : tzS, σ_33 = tz_st σ_22 137 ((σ_22.1 133 8) - 1).toNatClampNeg ((σ_22.1 137 ((σ_22.1 133 8) - 1).toNatClampNeg) + 1) →
                      ∀ x3_34 : Int32, x3_34 = x3_10 + 1 →
                      ag_6 2 x2_9 x3_34 σ_33)) ∧
                  (¬ x1_8 = 2 →
                    vc_X10_begins x3_10 x2_9 σ_22 (fun (σ_35 : tzS) =>
                      ∀ x2_36 : Int32, x2_36 = x2_9 + 1 →
                      vp_in ((σ_35.1 133 8) - 1) 110 ∧ (
                        ∀ σ_38 : tzS, σ_38 = tz_st σ_35 137 ((σ_35.1 133 8) - 1).toNatClampNeg ((σ_35.1 137 ((σ_35.1 133 8) - 1).toNatClampNeg) + 1) →
                        ∀ x3_39 : Int32, x3_39 = x3_10 + 1 →
                        ag_6 2 x2_36 x3_39 σ_38)))))) ∧
            (¬ r_20 = (-1) →
              vc_X10_fails x3_10 r_20 σ_19 (fun (σ_40 : tzS) =>
                Q σ_40)))) (fun (K_16 : Int32 → tzS → Prop) =>
          (¬ x1_8 = 2 →
            K_16 0 σ_7) ∧
          (x1_8 = 2 →
            vp_in ((σ_7.1 133 8) - 1) 110 ∧ (
              K_16 (σ_7.1 137 ((σ_7.1 133 8) - 1).toNatClampNeg) σ_7)))))) (0 : Int32) (0 : Int32) (0 : Int32) σ_5
set_option maxRecDepth 20000 in
set_option maxHeartbeats 4000000 in
theorem m_X10_readsText (G : tzG) (hG : tz_ok G)   {σ : tzS} {Q : tzS → Prop} (h : vc_X10_readsText  σ Q) : tz_M G yX10_readsText cX10_readsText 6 (none) 2 47 [.ref 133] σ (tz_Qv G Q) := by
  unfold vc_X10_readsText at h
  refine tz_startv hG RX10 [(0, .ref 133)] (by decide) rfl (Nat.le_of_ble_eq_true rfl) rfl (fun E C hret => ?_)
  refine tz_aload_n 0 0 C dX10_readsText_0 rfl rfl ?_
  refine tz_iconst 0 (by decide) C dX10_readsText_1 ?_
  refine tz_put C dX10_readsText_2 fp_RX10_109 (by decide) rfl rfl rfl rfl h (fun σ_1 h => ?_)
  refine tz_aload_n 0 0 C dX10_readsText_5 rfl rfl ?_
  refine tz_iconst 0 (by decide) C dX10_readsText_6 ?_
  refine tz_put C dX10_readsText_7 fp_RX10_115 (by decide) rfl rfl rfl rfl h (fun σ_2 h => ?_)
  refine tz_aload_n 0 0 C dX10_readsText_10 rfl rfl ?_
  refine tz_iconst (-1) (by decide) C dX10_readsText_11 ?_
  refine tz_put C dX10_readsText_12 fp_RX10_103 (by decide) rfl rfl rfl rfl h (fun σ_3 h => ?_)
  refine tz_aload_n 0 0 C dX10_readsText_15 rfl rfl ?_
  refine tz_iconst (-1) (by decide) C dX10_readsText_16 ?_
  refine tz_put C dX10_readsText_17 fp_RX10_106 (by decide) rfl rfl rfl rfl h (fun σ_4 h => ?_)
  refine tz_aload_n 0 0 C dX10_readsText_20 rfl rfl ?_
  refine tz_iconst (-1) (by decide) C dX10_readsText_21 ?_
  refine tz_put C dX10_readsText_22 fp_RX10_112 (by decide) rfl rfl rfl rfl h (fun σ_5 h => ?_)
  refine tz_iconst 0 (by decide) C dX10_readsText_25 ?_
  refine tz_istore_n_k 1 [(0, .ref 133)] C dX10_readsText_26 rfl (Nat.le_of_ble_eq_true rfl) rfl ?_
  refine tz_iconst 0 (by decide) C dX10_readsText_27 ?_
  refine tz_istore_n_k 2 [(1, .int 0), (0, .ref 133)] C dX10_readsText_28 rfl (Nat.le_of_ble_eq_true rfl) rfl ?_
  refine tz_iconst 0 (by decide) C dX10_readsText_29 ?_
  refine tz_istore_n_k 3 [(2, .int 0), (1, .int 0), (0, .ref 133)] C dX10_readsText_30 rfl (Nat.le_of_ble_eq_true rfl) rfl ?_
  refine tz_sub (L := [(0, .ref 133), (1, .int 0), (2, .int 0), (3, .int 0)]) ?_ [3, 2, 1, 0] rfl
  refine tz_loop3_w (V := fun (x1_8 : Int32) (x2_9 : Int32) (x3_10 : Int32) (σ_7 : tzS) => tz_V G E 31 [(0, .ref 133), (1, .int x1_8), (2, .int x2_9), (3, .int x3_10)] [] σ_7) h (fun ag_6 ihag_6 x1_8 x2_9 x3_10 σ_7 h => ?_)
  refine tz_iload_n 3 3 C dX10_readsText_31 rfl rfl ?_
  refine tz_aload_n 0 0 C dX10_readsText_32 rfl rfl ?_
  refine tz_getI C dX10_readsText_33 fl_RX10_81 (by decide) rfl rfl ?_
  refine tz_icmp_ge 178 C dX10_readsText_36 (by decide) h (fun c_11 h => ?_) (fun c_11 h => ?_)
  · refine tz_iload_n 1 1 C dX10_readsText_178 rfl rfl ?_
    refine tz_iconst 1 (by decide) C dX10_readsText_179 ?_
    refine tz_icmp_le 192 C dX10_readsText_180 (by decide) h (fun c_12 h => ?_) (fun c_12 h => ?_)
    · exact hret _ _ _ dX10_readsText_192 h
    · refine tz_aload_n 0 0 C dX10_readsText_183 rfl rfl ?_
      refine tz_aload_n 0 0 C dX10_readsText_184 rfl rfl ?_
      refine tz_getI C dX10_readsText_185 fl_RX10_81 (by decide) rfl rfl ?_
      refine tz_iconst 5 (by decide) C dX10_readsText_188 ?_
      refine tz_callvv C dX10_readsText_189 lk_RX10_122 (m_X10_fails G hG  h) (by decide) rfl rfl rfl rfl ⟨Nat.le_of_ble_eq_true rfl, Nat.le_of_ble_eq_true rfl⟩ (Nat.le_of_ble_eq_true rfl) rfl (fun σ_13 h => ?_)
      exact hret _ _ _ dX10_readsText_192 h
  · refine tz_aload_n 0 0 C dX10_readsText_39 rfl rfl ?_
    refine tz_getR C dX10_readsText_40 fl_RX10_7 (by decide) rfl rfl ?_
    refine tz_iload_n 3 3 C dX10_readsText_43 rfl rfl ?_
    obtain ⟨hin_14, h⟩ := h
    refine tz_iald C dX10_readsText_44 (by decide) rfl hin_14 ?_
    refine tz_istore [(0, .ref 133), (1, .int x1_8), (2, .int x2_9), (3, .int x3_10)] C dX10_readsText_45 (Nat.le_of_ble_eq_true rfl) rfl h (fun x4_15 h => ?_)
    refine tz_aload_n 0 1 C dX10_readsText_47 rfl rfl ?_
    refine tz_iload 0 C dX10_readsText_48 rfl ?_
    refine tz_iload_n 1 2 C dX10_readsText_50 rfl rfl ?_
    refine tz_iload_n 2 3 C dX10_readsText_51 rfl rfl ?_
    refine tz_iload_n 1 2 C dX10_readsText_52 rfl rfl ?_
    refine tz_iconst 2 (by decide) C dX10_readsText_53 ?_
    obtain ⟨K_16, hrK_16, h⟩ := h
    have hK_16 : ∀ (y_18 : Int32) (σ_17 : tzS), K_16 y_18 σ_17 → tz_V G E 72 [(0, .ref 133), (1, .int x1_8), (2, .int x2_9), (3, .int x3_10), (4, .int x4_15)] [.int y_18, .int x2_9, .int x1_8, .int x4_15, .ref 133] σ_17 := by
      intro y_18 σ_17 h
      replace h := hrK_16 y_18 σ_17 h
      refine tz_calliv C dX10_readsText_72 lk_RX10_118 (m_X10_whyNot G hG  h) (by decide) rfl rfl rfl rfl ⟨Nat.le_of_ble_eq_true rfl, Nat.le_of_ble_eq_true rfl⟩ (Nat.le_of_ble_eq_true rfl) rfl (fun r_20 σ_19 h => ?_)
      refine tz_istore_k [(0, .ref 133), (1, .int x1_8), (2, .int x2_9), (3, .int x3_10), (4, .int x4_15)] C dX10_readsText_75 (Nat.le_of_ble_eq_true rfl) rfl ?_
      refine tz_iload 0 C dX10_readsText_77 rfl ?_
      refine tz_iconst (-1) (by decide) C dX10_readsText_79 ?_
      refine tz_icmp_eq 91 C dX10_readsText_80 (by decide) h (fun c_21 h => ?_) (fun c_21 h => ?_)
      · refine tz_iload 5 C dX10_readsText_91 rfl ?_
        refine tz_bipush 97 (by decide) C dX10_readsText_93 ?_
        refine tz_bipush 122 (by decide) C dX10_readsText_95 ?_
        refine tz_callis C dX10_readsText_97 lk_RX10_77 (m_X10_in G hG  h) rfl ⟨Nat.le_of_ble_eq_true rfl, Nat.le_of_ble_eq_true rfl⟩ (Nat.le_of_ble_eq_true rfl) rfl (fun r_23 σ_22 h => ?_)
        refine tz_if_eq 137 C dX10_readsText_100 (by decide) h (fun c_24 h => ?_) (fun c_24 h => ?_)
        · refine tz_iload 5 C dX10_readsText_137 rfl ?_
          refine tz_bipush 46 (by decide) C dX10_readsText_139 ?_
          refine tz_icmp_ne 161 C dX10_readsText_141 (by decide) h (fun c_25 h => ?_) (fun c_25 h => ?_)
          · refine tz_iload_n 1 2 C dX10_readsText_161 rfl rfl ?_
            refine tz_iconst 1 (by decide) C dX10_readsText_162 ?_
            refine tz_icmp_ne 170 C dX10_readsText_163 (by decide) h (fun c_26 h => ?_) (fun c_26 h => ?_)
            · refine tz_iconst 3 (by decide) C dX10_readsText_170 ?_
              refine tz_istore_n_k 1 [(5, .int r_20), (0, .ref 133), (2, .int x2_9), (3, .int x3_10), (4, .int x4_15)] C dX10_readsText_171 rfl (Nat.le_of_ble_eq_true rfl) rfl ?_
              refine tz_iinc 4 [(1, .int 3), (5, .int r_20), (0, .ref 133), (2, .int x2_9), (4, .int x4_15)] 1 C dX10_readsText_172 (by decide) rfl (Nat.le_of_ble_eq_true rfl) rfl h (fun x3_27 h => ?_)
              refine tz_goto 31 C dX10_readsText_175 (by decide) ?_
              exact tz_sub (ihag_6 _ _ _ _ h) [3, 1, 4, 0] rfl
            · refine tz_iconst 0 (by decide) C dX10_readsText_166 ?_
              refine tz_goto 171 C dX10_readsText_167 (by decide) ?_
              refine tz_istore_n_k 1 [(5, .int r_20), (0, .ref 133), (2, .int x2_9), (3, .int x3_10), (4, .int x4_15)] C dX10_readsText_171 rfl (Nat.le_of_ble_eq_true rfl) rfl ?_
              refine tz_iinc 4 [(1, .int 0), (5, .int r_20), (0, .ref 133), (2, .int x2_9), (4, .int x4_15)] 1 C dX10_readsText_172 (by decide) rfl (Nat.le_of_ble_eq_true rfl) rfl h (fun x3_28 h => ?_)
              refine tz_goto 31 C dX10_readsText_175 (by decide) ?_
              exact tz_sub (ihag_6 _ _ _ _ h) [3, 1, 4, 0] rfl
          · refine tz_aload_n 0 1 C dX10_readsText_144 rfl rfl ?_
            refine tz_dup C dX10_readsText_145 rfl ?_
            refine tz_getI C dX10_readsText_146 fl_RX10_109 (by decide) rfl rfl ?_
            refine tz_iconst 1 (by decide) C dX10_readsText_149 ?_
            refine tz_iadd C dX10_readsText_150 ?_
            refine tz_put C dX10_readsText_151 fp_RX10_109 (by decide) rfl rfl rfl rfl h (fun σ_29 h => ?_)
            refine tz_iconst 0 (by decide) C dX10_readsText_154 ?_
            refine tz_istore_n_k 2 [(5, .int r_20), (0, .ref 133), (1, .int x1_8), (3, .int x3_10), (4, .int x4_15)] C dX10_readsText_155 rfl (Nat.le_of_ble_eq_true rfl) rfl ?_
            refine tz_iconst 1 (by decide) C dX10_readsText_156 ?_
            refine tz_istore_n_k 1 [(2, .int 0), (5, .int r_20), (0, .ref 133), (3, .int x3_10), (4, .int x4_15)] C dX10_readsText_157 rfl (Nat.le_of_ble_eq_true rfl) rfl ?_
            refine tz_goto 172 C dX10_readsText_158 (by decide) ?_
            refine tz_iinc 4 [(1, .int 1), (2, .int 0), (5, .int r_20), (0, .ref 133), (4, .int x4_15)] 1 C dX10_readsText_172 (by decide) rfl (Nat.le_of_ble_eq_true rfl) rfl h (fun x3_30 h => ?_)
            refine tz_goto 31 C dX10_readsText_175 (by decide) ?_
            exact tz_sub (ihag_6 _ _ _ _ h) [4, 1, 2, 0] rfl
        · refine tz_iload_n 1 2 C dX10_readsText_103 rfl rfl ?_
          refine tz_iconst 2 (by decide) C dX10_readsText_104 ?_
          refine tz_icmp_eq 117 C dX10_readsText_105 (by decide) h (fun c_31 h => ?_) (fun c_31 h => ?_)
          · refine tz_aload_n 0 1 C dX10_readsText_117 rfl rfl ?_
            refine tz_getR C dX10_readsText_118 fl_RX10_19 (by decide) rfl rfl ?_
            refine tz_aload_n 0 1 C dX10_readsText_121 rfl rfl ?_
            refine tz_getI C dX10_readsText_122 fl_RX10_115 (by decide) rfl rfl ?_
            refine tz_iconst 1 (by decide) C dX10_readsText_125 ?_
            refine tz_isub C dX10_readsText_126 ?_
            refine tz_dup2 C dX10_readsText_127 rfl rfl ?_
            obtain ⟨hin_32, h⟩ := h
            refine tz_iald C dX10_readsText_128 (by decide) rfl hin_32 ?_
            refine tz_iconst 1 (by decide) C dX10_readsText_129 ?_
            refine tz_iadd C dX10_readsText_130 ?_
            refine tz_iast_c _ C dX10_readsText_131 (by decide) rfl hin_32 rfl h (fun σ_33 h => ?_)
            refine tz_iconst 2 (by decide) C dX10_readsText_132 ?_
            refine tz_istore_n_k 1 [(5, .int r_20), (0, .ref 133), (2, .int x2_9), (3, .int x3_10), (4, .int x4_15)] C dX10_readsText_133 rfl (Nat.le_of_ble_eq_true rfl) rfl ?_
            refine tz_goto 172 C dX10_readsText_134 (by decide) ?_
            refine tz_iinc 4 [(1, .int 2), (5, .int r_20), (0, .ref 133), (2, .int x2_9), (4, .int x4_15)] 1 C dX10_readsText_172 (by decide) rfl (Nat.le_of_ble_eq_true rfl) rfl h (fun x3_34 h => ?_)
            refine tz_goto 31 C dX10_readsText_175 (by decide) ?_
            exact tz_sub (ihag_6 _ _ _ _ h) [3, 1, 4, 0] rfl
          · refine tz_aload_n 0 1 C dX10_readsText_108 rfl rfl ?_
            refine tz_iload_n 3 4 C dX10_readsText_109 rfl rfl ?_
            refine tz_iload_n 2 3 C dX10_readsText_110 rfl rfl ?_
            refine tz_callvv C dX10_readsText_111 lk_RX10_126 (m_X10_begins G hG  h) (by decide) rfl rfl rfl rfl ⟨Nat.le_of_ble_eq_true rfl, Nat.le_of_ble_eq_true rfl⟩ (Nat.le_of_ble_eq_true rfl) rfl (fun σ_35 h => ?_)
            refine tz_iinc 3 [(5, .int r_20), (0, .ref 133), (1, .int x1_8), (3, .int x3_10), (4, .int x4_15)] 1 C dX10_readsText_114 (by decide) rfl (Nat.le_of_ble_eq_true rfl) rfl h (fun x2_36 h => ?_)
            refine tz_aload_n 0 2 C dX10_readsText_117 rfl rfl ?_
            refine tz_getR C dX10_readsText_118 fl_RX10_19 (by decide) rfl rfl ?_
            refine tz_aload_n 0 2 C dX10_readsText_121 rfl rfl ?_
            refine tz_getI C dX10_readsText_122 fl_RX10_115 (by decide) rfl rfl ?_
            refine tz_iconst 1 (by decide) C dX10_readsText_125 ?_
            refine tz_isub C dX10_readsText_126 ?_
            refine tz_dup2 C dX10_readsText_127 rfl rfl ?_
            obtain ⟨hin_37, h⟩ := h
            refine tz_iald C dX10_readsText_128 (by decide) rfl hin_37 ?_
            refine tz_iconst 1 (by decide) C dX10_readsText_129 ?_
            refine tz_iadd C dX10_readsText_130 ?_
            refine tz_iast_c _ C dX10_readsText_131 (by decide) rfl hin_37 rfl h (fun σ_38 h => ?_)
            refine tz_iconst 2 (by decide) C dX10_readsText_132 ?_
            refine tz_istore_n_k 1 [(2, .int x2_36), (5, .int r_20), (0, .ref 133), (3, .int x3_10), (4, .int x4_15)] C dX10_readsText_133 rfl (Nat.le_of_ble_eq_true rfl) rfl ?_
            refine tz_goto 172 C dX10_readsText_134 (by decide) ?_
            refine tz_iinc 4 [(1, .int 2), (2, .int x2_36), (5, .int r_20), (0, .ref 133), (4, .int x4_15)] 1 C dX10_readsText_172 (by decide) rfl (Nat.le_of_ble_eq_true rfl) rfl h (fun x3_39 h => ?_)
            refine tz_goto 31 C dX10_readsText_175 (by decide) ?_
            exact tz_sub (ihag_6 _ _ _ _ h) [4, 1, 2, 0] rfl
      · refine tz_aload_n 0 1 C dX10_readsText_83 rfl rfl ?_
        refine tz_iload_n 3 4 C dX10_readsText_84 rfl rfl ?_
        refine tz_iload 0 C dX10_readsText_85 rfl ?_
        refine tz_callvv C dX10_readsText_87 lk_RX10_122 (m_X10_fails G hG  h) (by decide) rfl rfl rfl rfl ⟨Nat.le_of_ble_eq_true rfl, Nat.le_of_ble_eq_true rfl⟩ (Nat.le_of_ble_eq_true rfl) rfl (fun σ_40 h => ?_)
        exact hret _ _ _ dX10_readsText_90 h
    refine tz_icmp_ne 71 C dX10_readsText_54 (by decide) h (fun c_41 h => ?_) (fun c_41 h => ?_)
    · refine tz_iconst 0 (by decide) C dX10_readsText_71 ?_
      exact tz_sub (hK_16 _ _ h) [1, 2, 3, 4, 0] rfl
    · refine tz_aload_n 0 1 C dX10_readsText_57 rfl rfl ?_
      refine tz_getR C dX10_readsText_58 fl_RX10_19 (by decide) rfl rfl ?_
      refine tz_aload_n 0 1 C dX10_readsText_61 rfl rfl ?_
      refine tz_getI C dX10_readsText_62 fl_RX10_115 (by decide) rfl rfl ?_
      refine tz_iconst 1 (by decide) C dX10_readsText_65 ?_
      refine tz_isub C dX10_readsText_66 ?_
      obtain ⟨hin_42, h⟩ := h
      refine tz_iald C dX10_readsText_67 (by decide) rfl hin_42 ?_
      refine tz_goto 72 C dX10_readsText_68 (by decide) ?_
      exact tz_sub (hK_16 _ _ h) [1, 2, 3, 4, 0] rfl

def vc_X10_endsWith (x1 : Int32) (x2 : Int32) (x3 : Int32) (σ : tzS) (Q : Int32 → tzS → Prop) : Prop :=
  vp_in x1 110 ∧ (
    vp_in (((σ.1 136 x1.toNatClampNeg) + (σ.1 137 x1.toNatClampNeg)) - x2) 200 ∧ (
      (¬ (σ.1 134 (((σ.1 136 x1.toNatClampNeg) + (σ.1 137 x1.toNatClampNeg)) - x2).toNatClampNeg) = x3 →
        Q 0 σ) ∧
      ((σ.1 134 (((σ.1 136 x1.toNatClampNeg) + (σ.1 137 x1.toNatClampNeg)) - x2).toNatClampNeg) = x3 →
        Q 1 σ)))
set_option maxRecDepth 20000 in
set_option maxHeartbeats 4000000 in
theorem m_X10_endsWith (G : tzG) (hG : tz_ok G) {x1 : Int32} {x2 : Int32} {x3 : Int32}  {σ : tzS} {Q : Int32 → tzS → Prop} (h : vc_X10_endsWith x1 x2 x3 σ Q) : tz_M G yX10_endsWith cX10_endsWith 4 (some .boolean) 0 0 [.ref 133, .int x1, .int x2, .int x3] σ (tz_Qi G Q) := by
  unfold vc_X10_endsWith at h
  refine tz_startz hG RX10 [(0, .ref 133), (1, .int x1), (2, .int x2), (3, .int x3)] (by decide) rfl (Nat.le_of_ble_eq_true rfl) rfl (fun E C hret => ?_)
  refine tz_aload_n 0 0 C dX10_endsWith_0 rfl rfl ?_
  refine tz_getR C dX10_endsWith_1 fl_RX10_7 (by decide) rfl rfl ?_
  refine tz_aload_n 0 0 C dX10_endsWith_4 rfl rfl ?_
  refine tz_getR C dX10_endsWith_5 fl_RX10_16 (by decide) rfl rfl ?_
  refine tz_iload_n 1 1 C dX10_endsWith_8 rfl rfl ?_
  obtain ⟨hin_1, h⟩ := h
  refine tz_iald C dX10_endsWith_9 (by decide) rfl hin_1 ?_
  refine tz_aload_n 0 0 C dX10_endsWith_10 rfl rfl ?_
  refine tz_getR C dX10_endsWith_11 fl_RX10_19 (by decide) rfl rfl ?_
  refine tz_iload_n 1 1 C dX10_endsWith_14 rfl rfl ?_
  refine tz_iald C dX10_endsWith_15 (by decide) rfl hin_1 ?_
  refine tz_iadd C dX10_endsWith_16 ?_
  refine tz_iload_n 2 2 C dX10_endsWith_17 rfl rfl ?_
  refine tz_isub C dX10_endsWith_18 ?_
  obtain ⟨hin_2, h⟩ := h
  refine tz_iald C dX10_endsWith_19 (by decide) rfl hin_2 ?_
  refine tz_iload_n 3 3 C dX10_endsWith_20 rfl rfl ?_
  refine tz_icmp_ne 28 C dX10_endsWith_21 (by decide) h (fun c_3 h => ?_) (fun c_3 h => ?_)
  · refine tz_iconst 0 (by decide) C dX10_endsWith_28 ?_
    exact hret _ _ _ _ dX10_endsWith_29 rfl h
  · refine tz_iconst 1 (by decide) C dX10_endsWith_24 ?_
    refine tz_goto 29 C dX10_endsWith_25 (by decide) ?_
    exact hret _ _ _ _ dX10_endsWith_29 rfl h

def vc_X10_longOf (x1 : Int32) (σ : tzS) (Q : Int32 → tzS → Prop) : Prop :=
  vp_in x1 110 ∧ (
    ∀ x2_2 : Int32, x2_2 = (σ.1 137 x1.toNatClampNeg) →
    tz_join0 (fun (σ_4 : tzS) =>
      tz_join0 (fun (σ_6 : tzS) =>
        (x2_2 < 4 →
          Q x2_2 σ_6) ∧
        (¬ x2_2 < 4 →
          vc_X10_endsWith x1 1 115 σ_6 (fun (r_9 : Int32) (σ_8 : tzS) =>
            (r_9 = 0 →
              Q x2_2 σ_8) ∧
            (¬ r_9 = 0 →
              vc_X10_endsWith x1 2 115 σ_8 (fun (r_12 : Int32) (σ_11 : tzS) =>
                (¬ r_12 = 0 →
                  Q x2_2 σ_11) ∧
                (r_12 = 0 →
                  Q (x2_2 - 1) σ_11)))))) (fun (K_5 : tzS → Prop) =>
        (x2_2 < 5 →
          K_5  σ_4) ∧
        (¬ x2_2 < 5 →
          vc_X10_endsWith x1 2 101 σ_4 (fun (r_16 : Int32) (σ_15 : tzS) =>
            (r_16 = 0 →
              K_5  σ_15) ∧
            (¬ r_16 = 0 →
              vc_X10_endsWith x1 1 100 σ_15 (fun (r_19 : Int32) (σ_18 : tzS) =>
                (r_19 = 0 →
                  K_5  σ_18) ∧
                (¬ r_19 = 0 →
                  Q (x2_2 - 2) σ_18))))))) (fun (K_3 : tzS → Prop) =>
      (x2_2 < 6 →
        K_3  σ) ∧
      (¬ x2_2 < 6 →
        vc_X10_endsWith x1 3 105 σ (fun (r_23 : Int32) (σ_22 : tzS) =>
          (r_23 = 0 →
            K_3  σ_22) ∧
          (¬ r_23 = 0 →
            vc_X10_endsWith x1 2 110 σ_22 (fun (r_26 : Int32) (σ_25 : tzS) =>
              (r_26 = 0 →
                K_3  σ_25) ∧
              (¬ r_26 = 0 →
                vc_X10_endsWith x1 1 103 σ_25 (fun (r_29 : Int32) (σ_28 : tzS) =>
                  (r_29 = 0 →
                    K_3  σ_28) ∧
                  (¬ r_29 = 0 →
                    Q (x2_2 - 3) σ_28)))))))))
set_option maxRecDepth 20000 in
set_option maxHeartbeats 4000000 in
theorem m_X10_longOf (G : tzG) (hG : tz_ok G) {x1 : Int32}  {σ : tzS} {Q : Int32 → tzS → Prop} (h : vc_X10_longOf x1 σ Q) : tz_M G yX10_longOf cX10_longOf 3 (some .int) 1 23 [.ref 133, .int x1] σ (tz_Qi G Q) := by
  unfold vc_X10_longOf at h
  refine tz_starti hG RX10 [(0, .ref 133), (1, .int x1)] (by decide) rfl (Nat.le_of_ble_eq_true rfl) rfl (fun E C hret => ?_)
  refine tz_aload_n 0 0 C dX10_longOf_0 rfl rfl ?_
  refine tz_getR C dX10_longOf_1 fl_RX10_19 (by decide) rfl rfl ?_
  refine tz_iload_n 1 1 C dX10_longOf_4 rfl rfl ?_
  obtain ⟨hin_1, h⟩ := h
  refine tz_iald C dX10_longOf_5 (by decide) rfl hin_1 ?_
  refine tz_istore_n 2 [(0, .ref 133), (1, .int x1)] C dX10_longOf_6 rfl (Nat.le_of_ble_eq_true rfl) rfl h (fun x2_2 h => ?_)
  refine tz_iload_n 2 0 C dX10_longOf_7 rfl rfl ?_
  refine tz_bipush 6 (by decide) C dX10_longOf_8 ?_
  obtain ⟨K_3, hrK_3, h⟩ := h
  have hK_3 : ∀ (σ_4 : tzS), K_3  σ_4 → tz_V G E 50 [(0, .ref 133), (1, .int x1), (2, .int x2_2)] [] σ_4 := by
    intro σ_4 h
    replace h := hrK_3 σ_4 h
    refine tz_iload_n 2 2 C dX10_longOf_50 rfl rfl ?_
    refine tz_iconst 5 (by decide) C dX10_longOf_51 ?_
    obtain ⟨K_5, hrK_5, h⟩ := h
    have hK_5 : ∀ (σ_6 : tzS), K_5  σ_6 → tz_V G E 81 [(0, .ref 133), (1, .int x1), (2, .int x2_2)] [] σ_6 := by
      intro σ_6 h
      replace h := hrK_5 σ_6 h
      refine tz_iload_n 2 2 C dX10_longOf_81 rfl rfl ?_
      refine tz_iconst 4 (by decide) C dX10_longOf_82 ?_
      refine tz_icmp_lt 114 C dX10_longOf_83 (by decide) h (fun c_7 h => ?_) (fun c_7 h => ?_)
      · refine tz_iload_n 2 2 C dX10_longOf_114 rfl rfl ?_
        exact hret _ _ _ _ dX10_longOf_115 h
      · refine tz_aload_n 0 0 C dX10_longOf_86 rfl rfl ?_
        refine tz_iload_n 1 1 C dX10_longOf_87 rfl rfl ?_
        refine tz_iconst 1 (by decide) C dX10_longOf_88 ?_
        refine tz_bipush 115 (by decide) C dX10_longOf_89 ?_
        refine tz_calliv C dX10_longOf_91 lk_RX10_129 (m_X10_endsWith G hG  h) (by decide) rfl rfl rfl rfl ⟨Nat.le_of_ble_eq_true rfl, Nat.le_of_ble_eq_true rfl⟩ (Nat.le_of_ble_eq_true rfl) rfl (fun r_9 σ_8 h => ?_)
        refine tz_if_eq 114 C dX10_longOf_94 (by decide) h (fun c_10 h => ?_) (fun c_10 h => ?_)
        · refine tz_iload_n 2 2 C dX10_longOf_114 rfl rfl ?_
          exact hret _ _ _ _ dX10_longOf_115 h
        · refine tz_aload_n 0 0 C dX10_longOf_97 rfl rfl ?_
          refine tz_iload_n 1 1 C dX10_longOf_98 rfl rfl ?_
          refine tz_iconst 2 (by decide) C dX10_longOf_99 ?_
          refine tz_bipush 115 (by decide) C dX10_longOf_100 ?_
          refine tz_calliv C dX10_longOf_102 lk_RX10_129 (m_X10_endsWith G hG  h) (by decide) rfl rfl rfl rfl ⟨Nat.le_of_ble_eq_true rfl, Nat.le_of_ble_eq_true rfl⟩ (Nat.le_of_ble_eq_true rfl) rfl (fun r_12 σ_11 h => ?_)
          refine tz_if_ne 114 C dX10_longOf_105 (by decide) h (fun c_13 h => ?_) (fun c_13 h => ?_)
          · refine tz_iload_n 2 2 C dX10_longOf_114 rfl rfl ?_
            exact hret _ _ _ _ dX10_longOf_115 h
          · refine tz_iload_n 2 2 C dX10_longOf_108 rfl rfl ?_
            refine tz_iconst 1 (by decide) C dX10_longOf_109 ?_
            refine tz_isub C dX10_longOf_110 ?_
            refine tz_goto 115 C dX10_longOf_111 (by decide) ?_
            exact hret _ _ _ _ dX10_longOf_115 h
    refine tz_icmp_lt 81 C dX10_longOf_52 (by decide) h (fun c_14 h => ?_) (fun c_14 h => ?_)
    · exact tz_sub (hK_5 _ h) [0, 1, 2] rfl
    · refine tz_aload_n 0 0 C dX10_longOf_55 rfl rfl ?_
      refine tz_iload_n 1 1 C dX10_longOf_56 rfl rfl ?_
      refine tz_iconst 2 (by decide) C dX10_longOf_57 ?_
      refine tz_bipush 101 (by decide) C dX10_longOf_58 ?_
      refine tz_calliv C dX10_longOf_60 lk_RX10_129 (m_X10_endsWith G hG  h) (by decide) rfl rfl rfl rfl ⟨Nat.le_of_ble_eq_true rfl, Nat.le_of_ble_eq_true rfl⟩ (Nat.le_of_ble_eq_true rfl) rfl (fun r_16 σ_15 h => ?_)
      refine tz_if_eq 81 C dX10_longOf_63 (by decide) h (fun c_17 h => ?_) (fun c_17 h => ?_)
      · exact tz_sub (hK_5 _ h) [0, 1, 2] rfl
      · refine tz_aload_n 0 0 C dX10_longOf_66 rfl rfl ?_
        refine tz_iload_n 1 1 C dX10_longOf_67 rfl rfl ?_
        refine tz_iconst 1 (by decide) C dX10_longOf_68 ?_
        refine tz_bipush 100 (by decide) C dX10_longOf_69 ?_
        refine tz_calliv C dX10_longOf_71 lk_RX10_129 (m_X10_endsWith G hG  h) (by decide) rfl rfl rfl rfl ⟨Nat.le_of_ble_eq_true rfl, Nat.le_of_ble_eq_true rfl⟩ (Nat.le_of_ble_eq_true rfl) rfl (fun r_19 σ_18 h => ?_)
        refine tz_if_eq 81 C dX10_longOf_74 (by decide) h (fun c_20 h => ?_) (fun c_20 h => ?_)
        · exact tz_sub (hK_5 _ h) [0, 1, 2] rfl
        · refine tz_iload_n 2 2 C dX10_longOf_77 rfl rfl ?_
          refine tz_iconst 2 (by decide) C dX10_longOf_78 ?_
          refine tz_isub C dX10_longOf_79 ?_
          exact hret _ _ _ _ dX10_longOf_80 h
  refine tz_icmp_lt 50 C dX10_longOf_10 (by decide) h (fun c_21 h => ?_) (fun c_21 h => ?_)
  · exact tz_sub (hK_3 _ h) [1, 2, 0] rfl
  · refine tz_aload_n 0 1 C dX10_longOf_13 rfl rfl ?_
    refine tz_iload_n 1 2 C dX10_longOf_14 rfl rfl ?_
    refine tz_iconst 3 (by decide) C dX10_longOf_15 ?_
    refine tz_bipush 105 (by decide) C dX10_longOf_16 ?_
    refine tz_calliv C dX10_longOf_18 lk_RX10_129 (m_X10_endsWith G hG  h) (by decide) rfl rfl rfl rfl ⟨Nat.le_of_ble_eq_true rfl, Nat.le_of_ble_eq_true rfl⟩ (Nat.le_of_ble_eq_true rfl) rfl (fun r_23 σ_22 h => ?_)
    refine tz_if_eq 50 C dX10_longOf_21 (by decide) h (fun c_24 h => ?_) (fun c_24 h => ?_)
    · exact tz_sub (hK_3 _ h) [1, 2, 0] rfl
    · refine tz_aload_n 0 1 C dX10_longOf_24 rfl rfl ?_
      refine tz_iload_n 1 2 C dX10_longOf_25 rfl rfl ?_
      refine tz_iconst 2 (by decide) C dX10_longOf_26 ?_
      refine tz_bipush 110 (by decide) C dX10_longOf_27 ?_
      refine tz_calliv C dX10_longOf_29 lk_RX10_129 (m_X10_endsWith G hG  h) (by decide) rfl rfl rfl rfl ⟨Nat.le_of_ble_eq_true rfl, Nat.le_of_ble_eq_true rfl⟩ (Nat.le_of_ble_eq_true rfl) rfl (fun r_26 σ_25 h => ?_)
      refine tz_if_eq 50 C dX10_longOf_32 (by decide) h (fun c_27 h => ?_) (fun c_27 h => ?_)
      · exact tz_sub (hK_3 _ h) [1, 2, 0] rfl
      · refine tz_aload_n 0 1 C dX10_longOf_35 rfl rfl ?_
        refine tz_iload_n 1 2 C dX10_longOf_36 rfl rfl ?_
        refine tz_iconst 1 (by decide) C dX10_longOf_37 ?_
        refine tz_bipush 103 (by decide) C dX10_longOf_38 ?_
        refine tz_calliv C dX10_longOf_40 lk_RX10_129 (m_X10_endsWith G hG  h) (by decide) rfl rfl rfl rfl ⟨Nat.le_of_ble_eq_true rfl, Nat.le_of_ble_eq_true rfl⟩ (Nat.le_of_ble_eq_true rfl) rfl (fun r_29 σ_28 h => ?_)
        refine tz_if_eq 50 C dX10_longOf_43 (by decide) h (fun c_30 h => ?_) (fun c_30 h => ?_)
        · exact tz_sub (hK_3 _ h) [1, 2, 0] rfl
        · refine tz_iload_n 2 0 C dX10_longOf_46 rfl rfl ?_
          refine tz_iconst 3 (by decide) C dX10_longOf_47 ?_
          refine tz_isub C dX10_longOf_48 ?_
          exact hret _ _ _ _ dX10_longOf_49 h

def vc_X10_isLike (x1 : Int32) (x2 : Int32) (x3 : Int32) (σ : tzS) (Q : Int32 → tzS → Prop) : Prop :=
  vp_in x3 110 ∧ (
    tz_join1 (fun (y_4 : Int32) (σ_3 : tzS) =>
      ∀ x4_5 : Int32, x4_5 = y_4 →
      tz_loop2 (fun (x4_8 : Int32) (x5_9 : Int32) (σ_7 : tzS) (ag_6 : Int32 → Int32 → tzS → Prop) =>
        (x2 ≤ x5_9 →
          tz_bool x4_8 ∧ Q x4_8 σ_7) ∧
        (¬ x2 ≤ x5_9 →
          (x4_8 = 0 →
            tz_bool x4_8 ∧ Q x4_8 σ_7) ∧
          (¬ x4_8 = 0 →
            vp_in x1 110 ∧ (
              vp_in ((σ_7.1 136 x1.toNatClampNeg) + x5_9) 200 ∧ (
                vp_in ((σ_7.1 140 x3.toNatClampNeg) + x5_9) 200 ∧ (
                  (¬ (σ_7.1 134 ((σ_7.1 136 x1.toNatClampNeg) + x5_9).toNatClampNeg) = (σ_7.1 134 ((σ_7.1 140 x3.toNatClampNeg) + x5_9).toNatClampNeg) →
                    ∀ x5_16 : Int32, x5_16 = x5_9 + 1 →
                    ag_6 0 x5_16 σ_7) ∧
                  ((σ_7.1 134 ((σ_7.1 136 x1.toNatClampNeg) + x5_9).toNatClampNeg) = (σ_7.1 134 ((σ_7.1 140 x3.toNatClampNeg) + x5_9).toNatClampNeg) →
                    ∀ x5_17 : Int32, x5_17 = x5_9 + 1 →
                    ag_6 1 x5_17 σ_7))))))) x4_5 (0 : Int32) σ_3) (fun (K_2 : Int32 → tzS → Prop) =>
      (¬ (σ.1 141 x3.toNatClampNeg) = x2 →
        K_2 0 σ) ∧
      ((σ.1 141 x3.toNatClampNeg) = x2 →
        K_2 1 σ)))
set_option maxRecDepth 20000 in
set_option maxHeartbeats 4000000 in
theorem m_X10_isLike (G : tzG) (hG : tz_ok G) {x1 : Int32} {x2 : Int32} {x3 : Int32}  {σ : tzS} {Q : Int32 → tzS → Prop} (h : vc_X10_isLike x1 x2 x3 σ Q) : tz_M G yX10_isLike cX10_isLike 6 (some .boolean) 0 0 [.ref 133, .int x1, .int x2, .int x3] σ (tz_Qi G Q) := by
  unfold vc_X10_isLike at h
  refine tz_startz hG RX10 [(0, .ref 133), (1, .int x1), (2, .int x2), (3, .int x3)] (by decide) rfl (Nat.le_of_ble_eq_true rfl) rfl (fun E C hret => ?_)
  refine tz_aload_n 0 0 C dX10_isLike_0 rfl rfl ?_
  refine tz_getR C dX10_isLike_1 fl_RX10_31 (by decide) rfl rfl ?_
  refine tz_iload_n 3 3 C dX10_isLike_4 rfl rfl ?_
  obtain ⟨hin_1, h⟩ := h
  refine tz_iald C dX10_isLike_5 (by decide) rfl hin_1 ?_
  refine tz_iload_n 2 2 C dX10_isLike_6 rfl rfl ?_
  obtain ⟨K_2, hrK_2, h⟩ := h
  have hK_2 : ∀ (y_4 : Int32) (σ_3 : tzS), K_2 y_4 σ_3 → tz_V G E 15 [(0, .ref 133), (1, .int x1), (2, .int x2), (3, .int x3)] [.int y_4] σ_3 := by
    intro y_4 σ_3 h
    replace h := hrK_2 y_4 σ_3 h
    refine tz_istore [(0, .ref 133), (1, .int x1), (2, .int x2), (3, .int x3)] C dX10_isLike_15 (Nat.le_of_ble_eq_true rfl) rfl h (fun x4_5 h => ?_)
    refine tz_iconst 0 (by decide) C dX10_isLike_17 ?_
    refine tz_istore_k [(4, .int x4_5), (0, .ref 133), (1, .int x1), (2, .int x2), (3, .int x3)] C dX10_isLike_18 (Nat.le_of_ble_eq_true rfl) rfl ?_
    refine tz_sub (L := [(0, .ref 133), (1, .int x1), (2, .int x2), (3, .int x3), (4, .int x4_5), (5, .int 0)]) ?_ [2, 3, 4, 5, 1, 0] rfl
    refine tz_loop2_w (V := fun (x4_8 : Int32) (x5_9 : Int32) (σ_7 : tzS) => tz_V G E 20 [(0, .ref 133), (1, .int x1), (2, .int x2), (3, .int x3), (4, .int x4_8), (5, .int x5_9)] [] σ_7) h (fun ag_6 ihag_6 x4_8 x5_9 σ_7 h => ?_)
    refine tz_iload 5 C dX10_isLike_20 rfl ?_
    refine tz_iload_n 2 2 C dX10_isLike_22 rfl rfl ?_
    refine tz_icmp_ge 75 C dX10_isLike_23 (by decide) h (fun c_10 h => ?_) (fun c_10 h => ?_)
    · refine tz_iload 4 C dX10_isLike_75 rfl ?_
      exact hret _ _ _ _ dX10_isLike_77 (tz_narz h.1) h.2
    · refine tz_iload 4 C dX10_isLike_26 rfl ?_
      refine tz_if_eq 75 C dX10_isLike_28 (by decide) h (fun c_11 h => ?_) (fun c_11 h => ?_)
      · refine tz_iload 4 C dX10_isLike_75 rfl ?_
        exact hret _ _ _ _ dX10_isLike_77 (tz_narz h.1) h.2
      · refine tz_aload_n 0 0 C dX10_isLike_31 rfl rfl ?_
        refine tz_getR C dX10_isLike_32 fl_RX10_7 (by decide) rfl rfl ?_
        refine tz_aload_n 0 0 C dX10_isLike_35 rfl rfl ?_
        refine tz_getR C dX10_isLike_36 fl_RX10_16 (by decide) rfl rfl ?_
        refine tz_iload_n 1 1 C dX10_isLike_39 rfl rfl ?_
        obtain ⟨hin_12, h⟩ := h
        refine tz_iald C dX10_isLike_40 (by decide) rfl hin_12 ?_
        refine tz_iload 5 C dX10_isLike_41 rfl ?_
        refine tz_iadd C dX10_isLike_43 ?_
        obtain ⟨hin_13, h⟩ := h
        refine tz_iald C dX10_isLike_44 (by decide) rfl hin_13 ?_
        refine tz_aload_n 0 0 C dX10_isLike_45 rfl rfl ?_
        refine tz_getR C dX10_isLike_46 fl_RX10_7 (by decide) rfl rfl ?_
        refine tz_aload_n 0 0 C dX10_isLike_49 rfl rfl ?_
        refine tz_getR C dX10_isLike_50 fl_RX10_28 (by decide) rfl rfl ?_
        refine tz_iload_n 3 3 C dX10_isLike_53 rfl rfl ?_
        refine tz_iald C dX10_isLike_54 (by decide) rfl hin_1 ?_
        refine tz_iload 5 C dX10_isLike_55 rfl ?_
        refine tz_iadd C dX10_isLike_57 ?_
        obtain ⟨hin_14, h⟩ := h
        refine tz_iald C dX10_isLike_58 (by decide) rfl hin_14 ?_
        refine tz_icmp_ne 66 C dX10_isLike_59 (by decide) h (fun c_15 h => ?_) (fun c_15 h => ?_)
        · refine tz_iconst 0 (by decide) C dX10_isLike_66 ?_
          refine tz_istore_k [(0, .ref 133), (1, .int x1), (2, .int x2), (3, .int x3), (5, .int x5_9)] C dX10_isLike_67 (Nat.le_of_ble_eq_true rfl) rfl ?_
          refine tz_iinc 5 [(4, .int 0), (0, .ref 133), (1, .int x1), (2, .int x2), (3, .int x3)] 1 C dX10_isLike_69 (by decide) rfl (Nat.le_of_ble_eq_true rfl) rfl h (fun x5_16 h => ?_)
          refine tz_goto 20 C dX10_isLike_72 (by decide) ?_
          exact tz_sub (ihag_6 _ _ _ h) [2, 3, 4, 5, 1, 0] rfl
        · refine tz_iconst 1 (by decide) C dX10_isLike_62 ?_
          refine tz_goto 67 C dX10_isLike_63 (by decide) ?_
          refine tz_istore_k [(0, .ref 133), (1, .int x1), (2, .int x2), (3, .int x3), (5, .int x5_9)] C dX10_isLike_67 (Nat.le_of_ble_eq_true rfl) rfl ?_
          refine tz_iinc 5 [(4, .int 1), (0, .ref 133), (1, .int x1), (2, .int x2), (3, .int x3)] 1 C dX10_isLike_69 (by decide) rfl (Nat.le_of_ble_eq_true rfl) rfl h (fun x5_17 h => ?_)
          refine tz_goto 20 C dX10_isLike_72 (by decide) ?_
          exact tz_sub (ihag_6 _ _ _ h) [2, 3, 4, 5, 1, 0] rfl
  refine tz_icmp_ne 14 C dX10_isLike_7 (by decide) h (fun c_18 h => ?_) (fun c_18 h => ?_)
  · refine tz_iconst 0 (by decide) C dX10_isLike_14 ?_
    exact tz_sub (hK_2 _ _ h) [0, 1, 2, 3] rfl
  · refine tz_iconst 1 (by decide) C dX10_isLike_10 ?_
    refine tz_goto 15 C dX10_isLike_11 (by decide) ?_
    exact tz_sub (hK_2 _ _ h) [0, 1, 2, 3] rfl

def vc_X10_reads  (σ : tzS) (Q : tzS → Prop) : Prop :=
  vc_X10_readsText  σ (fun (σ_1 : tzS) =>
    tz_join0 (fun (σ_3 : tzS) =>
      ∀ σ_4 : tzS, σ_4 = tz_st σ_3 133 9 0 →
      tz_loop1 (fun (x1_7 : Int32) (σ_6 : tzS) (ag_5 : Int32 → tzS → Prop) =>
        ((1320 : Int32) ≤ x1_7 →
          tz_loop1 (fun (x1_11 : Int32) (σ_10 : tzS) (ag_9 : Int32 → tzS → Prop) =>
            ((σ_10.1 133 8) ≤ x1_11 →
              vp_in (σ_10.1 133 7) 14 ∧ (
                ∀ σ_13 : tzS, σ_13 = tz_st σ_10 142 (σ_10.1 133 7).toNatClampNeg (σ_10.1 133 8) →
                ∀ σ_15 : tzS, σ_15 = tz_st σ_13 133 18 (-1) →
                Q σ_15)) ∧
            (¬ (σ_10.1 133 8) ≤ x1_11 →
              vc_X10_longOf x1_11 σ_10 (fun (r_17 : Int32) (σ_16 : tzS) =>
                tz_loop1 (fun (x3_20 : Int32) (σ_19 : tzS) (ag_18 : Int32 → tzS → Prop) =>
                  tz_join0 (fun (σ_22 : tzS) =>
                    tz_join0 (fun (σ_24 : tzS) =>
                      vp_in x1_11 110 ∧ (
                        ∀ σ_25 : tzS, σ_25 = tz_st σ_24 139 x1_11.toNatClampNeg x3_20 →
                        vp_in ((110 * (σ_25.1 138 x1_11.toNatClampNeg)) + x3_20) 1320 ∧ (
                          ∀ σ_28 : tzS, σ_28 = tz_st σ_25 143 ((110 * (σ_25.1 138 x1_11.toNatClampNeg)) + x3_20).toNatClampNeg ((σ_25.1 143 ((110 * (σ_25.1 138 x1_11.toNatClampNeg)) + x3_20).toNatClampNeg) + 1) →
                          ∀ x1_29 : Int32, x1_29 = x1_11 + 1 →
                          ag_9 x1_29 σ_28))) (fun (K_23 : tzS → Prop) =>
                      (¬ x3_20 = (σ_22.1 133 9) →
                        K_23  σ_22) ∧
                      (x3_20 = (σ_22.1 133 9) →
                        vp_in x1_11 110 ∧ (
                          vp_in (σ_22.1 133 9) 110 ∧ (
                            ∀ σ_32 : tzS, σ_32 = tz_st σ_22 140 (σ_22.1 133 9).toNatClampNeg (σ_22.1 136 x1_11.toNatClampNeg) →
                            vp_in (σ_32.1 133 9) 110 ∧ (
                              ∀ σ_34 : tzS, σ_34 = tz_st σ_32 141 (σ_32.1 133 9).toNatClampNeg r_17 →
                              ∀ σ_36 : tzS, σ_36 = tz_st σ_34 133 9 ((σ_34.1 133 9) + 1) →
                              K_23  σ_36)))))) (fun (K_21 : tzS → Prop) =>
                    ((σ_19.1 133 9) ≤ x3_20 →
                      K_21  σ_19) ∧
                    (¬ (σ_19.1 133 9) ≤ x3_20 →
                      vc_X10_isLike x1_11 r_17 x3_20 σ_19 (fun (r_39 : Int32) (σ_38 : tzS) =>
                        (¬ r_39 = 0 →
                          K_21  σ_38) ∧
                        (r_39 = 0 →
                          ∀ x3_41 : Int32, x3_41 = x3_20 + 1 →
                          ag_18 x3_41 σ_38))))) (0 : Int32) σ_16))) (0 : Int32) σ_6) ∧
        (¬ (1320 : Int32) ≤ x1_7 →
          vp_in x1_7 1320 ∧ (
            ∀ σ_42 : tzS, σ_42 = tz_st σ_6 143 x1_7.toNatClampNeg 0 →
            ∀ x1_44 : Int32, x1_44 = x1_7 + 1 →
            ag_5 x1_44 σ_42))) (0 : Int32) σ_4) (fun (K_2 : tzS → Prop) =>
      ((σ_1.1 133 4) = (-1) →
        K_2  σ_1) ∧
      (¬ (σ_1.1 133 4) = (-1) →
        ∀ σ_46 : tzS, σ_46 = tz_st σ_1 133 7 0 →
        ∀ σ_47 : tzS, σ_47 = tz_st σ_46 133 8 0 →
        K_2  σ_47)))
set_option maxRecDepth 20000 in
set_option maxHeartbeats 4000000 in
theorem m_X10_reads (G : tzG) (hG : tz_ok G)   {σ : tzS} {Q : tzS → Prop} (h : vc_X10_reads  σ Q) : tz_M G yX10_reads cX10_reads 4 (none) 3 72 [.ref 133] σ (tz_Qv G Q) := by
  unfold vc_X10_reads at h
  refine tz_startv hG RX10 [(0, .ref 133)] (by decide) rfl (Nat.le_of_ble_eq_true rfl) rfl (fun E C hret => ?_)
  refine tz_aload_n 0 0 C dX10_reads_0 rfl rfl ?_
  refine tz_callvv C dX10_reads_1 lk_RX10_132 (m_X10_readsText G hG  h) (by decide) rfl rfl rfl rfl ⟨Nat.le_of_ble_eq_true rfl, Nat.le_of_ble_eq_true rfl⟩ (Nat.le_of_ble_eq_true rfl) rfl (fun σ_1 h => ?_)
  refine tz_aload_n 0 0 C dX10_reads_4 rfl rfl ?_
  refine tz_getI C dX10_reads_5 fl_RX10_103 (by decide) rfl rfl ?_
  refine tz_iconst (-1) (by decide) C dX10_reads_8 ?_
  obtain ⟨K_2, hrK_2, h⟩ := h
  have hK_2 : ∀ (σ_3 : tzS), K_2  σ_3 → tz_V G E 22 [(0, .ref 133)] [] σ_3 := by
    intro σ_3 h
    replace h := hrK_2 σ_3 h
    refine tz_aload_n 0 0 C dX10_reads_22 rfl rfl ?_
    refine tz_iconst 0 (by decide) C dX10_reads_23 ?_
    refine tz_put C dX10_reads_24 fp_RX10_135 (by decide) rfl rfl rfl rfl h (fun σ_4 h => ?_)
    refine tz_iconst 0 (by decide) C dX10_reads_27 ?_
    refine tz_istore_n_k 1 [(0, .ref 133)] C dX10_reads_28 rfl (Nat.le_of_ble_eq_true rfl) rfl ?_
    refine tz_sub (L := [(0, .ref 133), (1, .int 0)]) ?_ [1, 0] rfl
    refine tz_loop1_w (V := fun (x1_7 : Int32) (σ_6 : tzS) => tz_V G E 29 [(0, .ref 133), (1, .int x1_7)] [] σ_6) h (fun ag_5 ihag_5 x1_7 σ_6 h => ?_)
    refine tz_iload_n 1 1 C dX10_reads_29 rfl rfl ?_
    refine tz_sipush 1320 (by decide) C dX10_reads_30 ?_
    refine tz_icmp_ge 49 C dX10_reads_33 (by decide) h (fun c_8 h => ?_) (fun c_8 h => ?_)
    · refine tz_iconst 0 (by decide) C dX10_reads_49 ?_
      refine tz_istore_n_k 1 [(0, .ref 133)] C dX10_reads_50 rfl (Nat.le_of_ble_eq_true rfl) rfl ?_
      refine tz_sub (L := [(0, .ref 133), (1, .int 0)]) ?_ [1, 0] rfl
      refine tz_loop1_w (V := fun (x1_11 : Int32) (σ_10 : tzS) => tz_V G E 51 [(0, .ref 133), (1, .int x1_11)] [] σ_10) h (fun ag_9 ihag_9 x1_11 σ_10 h => ?_)
      refine tz_iload_n 1 1 C dX10_reads_51 rfl rfl ?_
      refine tz_aload_n 0 0 C dX10_reads_52 rfl rfl ?_
      refine tz_getI C dX10_reads_53 fl_RX10_115 (by decide) rfl rfl ?_
      refine tz_icmp_ge 167 C dX10_reads_56 (by decide) h (fun c_12 h => ?_) (fun c_12 h => ?_)
      · refine tz_aload_n 0 0 C dX10_reads_167 rfl rfl ?_
        refine tz_getR C dX10_reads_168 fl_RX10_34 (by decide) rfl rfl ?_
        refine tz_aload_n 0 0 C dX10_reads_171 rfl rfl ?_
        refine tz_getI C dX10_reads_172 fl_RX10_109 (by decide) rfl rfl ?_
        refine tz_aload_n 0 0 C dX10_reads_175 rfl rfl ?_
        refine tz_getI C dX10_reads_176 fl_RX10_115 (by decide) rfl rfl ?_
        have hin_14 := h.1
        refine tz_iast C dX10_reads_179 (by decide) rfl h (fun σ_13 h => ?_)
        refine tz_aload_n 0 0 C dX10_reads_180 rfl rfl ?_
        refine tz_iconst (-1) (by decide) C dX10_reads_181 ?_
        refine tz_put C dX10_reads_182 fp_RX10_144 (by decide) rfl rfl rfl rfl h (fun σ_15 h => ?_)
        exact hret _ _ _ dX10_reads_185 h
      · refine tz_aload_n 0 0 C dX10_reads_59 rfl rfl ?_
        refine tz_iload_n 1 1 C dX10_reads_60 rfl rfl ?_
        refine tz_calliv C dX10_reads_61 lk_RX10_138 (m_X10_longOf G hG  h) (by decide) rfl rfl rfl rfl ⟨Nat.le_of_ble_eq_true rfl, Nat.le_of_ble_eq_true rfl⟩ (Nat.le_of_ble_eq_true rfl) rfl (fun r_17 σ_16 h => ?_)
        refine tz_istore_n_k 2 [(0, .ref 133), (1, .int x1_11)] C dX10_reads_64 rfl (Nat.le_of_ble_eq_true rfl) rfl ?_
        refine tz_iconst 0 (by decide) C dX10_reads_65 ?_
        refine tz_istore_n_k 3 [(2, .int r_17), (0, .ref 133), (1, .int x1_11)] C dX10_reads_66 rfl (Nat.le_of_ble_eq_true rfl) rfl ?_
        refine tz_sub (L := [(0, .ref 133), (1, .int x1_11), (2, .int r_17), (3, .int 0)]) ?_ [2, 3, 1, 0] rfl
        refine tz_loop1_w (V := fun (x3_20 : Int32) (σ_19 : tzS) => tz_V G E 67 [(0, .ref 133), (1, .int x1_11), (2, .int r_17), (3, .int x3_20)] [] σ_19) h (fun ag_18 ihag_18 x3_20 σ_19 h => ?_)
        refine tz_iload_n 3 3 C dX10_reads_67 rfl rfl ?_
        refine tz_aload_n 0 0 C dX10_reads_68 rfl rfl ?_
        refine tz_getI C dX10_reads_69 fl_RX10_135 (by decide) rfl rfl ?_
        obtain ⟨K_21, hrK_21, h⟩ := h
        have hK_21 : ∀ (σ_22 : tzS), K_21  σ_22 → tz_V G E 91 [(0, .ref 133), (1, .int x1_11), (2, .int r_17), (3, .int x3_20)] [] σ_22 := by
          intro σ_22 h
          replace h := hrK_21 σ_22 h
          refine tz_iload_n 3 3 C dX10_reads_91 rfl rfl ?_
          refine tz_aload_n 0 0 C dX10_reads_92 rfl rfl ?_
          refine tz_getI C dX10_reads_93 fl_RX10_135 (by decide) rfl rfl ?_
          obtain ⟨K_23, hrK_23, h⟩ := h
          have hK_23 : ∀ (σ_24 : tzS), K_23  σ_24 → tz_V G E 134 [(0, .ref 133), (1, .int x1_11), (3, .int x3_20)] [] σ_24 := by
            intro σ_24 h
            replace h := hrK_23 σ_24 h
            refine tz_aload_n 0 0 C dX10_reads_134 rfl rfl ?_
            refine tz_getR C dX10_reads_135 fl_RX10_25 (by decide) rfl rfl ?_
            refine tz_iload_n 1 1 C dX10_reads_138 rfl rfl ?_
            refine tz_iload_n 3 2 C dX10_reads_139 rfl rfl ?_
            have hin_26 := h.1
            refine tz_iast C dX10_reads_140 (by decide) rfl h (fun σ_25 h => ?_)
            refine tz_aload_n 0 0 C dX10_reads_141 rfl rfl ?_
            refine tz_getR C dX10_reads_142 fl_RX10_37 (by decide) rfl rfl ?_
            refine tz_bipush 110 (by decide) C dX10_reads_145 ?_
            refine tz_aload_n 0 0 C dX10_reads_147 rfl rfl ?_
            refine tz_getR C dX10_reads_148 fl_RX10_22 (by decide) rfl rfl ?_
            refine tz_iload_n 1 1 C dX10_reads_151 rfl rfl ?_
            refine tz_iald C dX10_reads_152 (by decide) rfl hin_26 ?_
            refine tz_imul C dX10_reads_153 ?_
            refine tz_iload_n 3 2 C dX10_reads_154 rfl rfl ?_
            refine tz_iadd C dX10_reads_155 ?_
            refine tz_dup2 C dX10_reads_156 rfl rfl ?_
            obtain ⟨hin_27, h⟩ := h
            refine tz_iald C dX10_reads_157 (by decide) rfl hin_27 ?_
            refine tz_iconst 1 (by decide) C dX10_reads_158 ?_
            refine tz_iadd C dX10_reads_159 ?_
            refine tz_iast_c _ C dX10_reads_160 (by decide) rfl hin_27 rfl h (fun σ_28 h => ?_)
            refine tz_iinc 1 [(0, .ref 133), (3, .int x3_20)] 1 C dX10_reads_161 (by decide) rfl (Nat.le_of_ble_eq_true rfl) rfl h (fun x1_29 h => ?_)
            refine tz_goto 51 C dX10_reads_164 (by decide) ?_
            exact tz_sub (ihag_9 _ _ h) [1, 0] rfl
          refine tz_icmp_ne 134 C dX10_reads_96 (by decide) h (fun c_30 h => ?_) (fun c_30 h => ?_)
          · exact tz_sub (hK_23 _ h) [0, 1, 3] rfl
          · refine tz_aload_n 0 0 C dX10_reads_99 rfl rfl ?_
            refine tz_getR C dX10_reads_100 fl_RX10_28 (by decide) rfl rfl ?_
            refine tz_aload_n 0 0 C dX10_reads_103 rfl rfl ?_
            refine tz_getI C dX10_reads_104 fl_RX10_135 (by decide) rfl rfl ?_
            refine tz_aload_n 0 0 C dX10_reads_107 rfl rfl ?_
            refine tz_getR C dX10_reads_108 fl_RX10_16 (by decide) rfl rfl ?_
            refine tz_iload_n 1 1 C dX10_reads_111 rfl rfl ?_
            obtain ⟨hin_31, h⟩ := h
            refine tz_iald C dX10_reads_112 (by decide) rfl hin_31 ?_
            have hin_33 := h.1
            refine tz_iast C dX10_reads_113 (by decide) rfl h (fun σ_32 h => ?_)
            refine tz_aload_n 0 0 C dX10_reads_114 rfl rfl ?_
            refine tz_getR C dX10_reads_115 fl_RX10_31 (by decide) rfl rfl ?_
            refine tz_aload_n 0 0 C dX10_reads_118 rfl rfl ?_
            refine tz_getI C dX10_reads_119 fl_RX10_135 (by decide) rfl rfl ?_
            refine tz_iload_n 2 2 C dX10_reads_122 rfl rfl ?_
            have hin_35 := h.1
            refine tz_iast C dX10_reads_123 (by decide) rfl h (fun σ_34 h => ?_)
            refine tz_aload_n 0 0 C dX10_reads_124 rfl rfl ?_
            refine tz_dup C dX10_reads_125 rfl ?_
            refine tz_getI C dX10_reads_126 fl_RX10_135 (by decide) rfl rfl ?_
            refine tz_iconst 1 (by decide) C dX10_reads_129 ?_
            refine tz_iadd C dX10_reads_130 ?_
            refine tz_put C dX10_reads_131 fp_RX10_135 (by decide) rfl rfl rfl rfl h (fun σ_36 h => ?_)
            exact tz_sub (hK_23 _ h) [0, 1, 3] rfl
        refine tz_icmp_ge 91 C dX10_reads_72 (by decide) h (fun c_37 h => ?_) (fun c_37 h => ?_)
        · exact tz_sub (hK_21 _ h) [0, 1, 2, 3] rfl
        · refine tz_aload_n 0 0 C dX10_reads_75 rfl rfl ?_
          refine tz_iload_n 1 1 C dX10_reads_76 rfl rfl ?_
          refine tz_iload_n 2 2 C dX10_reads_77 rfl rfl ?_
          refine tz_iload_n 3 3 C dX10_reads_78 rfl rfl ?_
          refine tz_calliv C dX10_reads_79 lk_RX10_141 (m_X10_isLike G hG  h) (by decide) rfl rfl rfl rfl ⟨Nat.le_of_ble_eq_true rfl, Nat.le_of_ble_eq_true rfl⟩ (Nat.le_of_ble_eq_true rfl) rfl (fun r_39 σ_38 h => ?_)
          refine tz_if_ne 91 C dX10_reads_82 (by decide) h (fun c_40 h => ?_) (fun c_40 h => ?_)
          · exact tz_sub (hK_21 _ h) [0, 1, 2, 3] rfl
          · refine tz_iinc 3 [(0, .ref 133), (1, .int x1_11), (2, .int r_17)] 1 C dX10_reads_85 (by decide) rfl (Nat.le_of_ble_eq_true rfl) rfl h (fun x3_41 h => ?_)
            refine tz_goto 67 C dX10_reads_88 (by decide) ?_
            exact tz_sub (ihag_18 _ _ h) [1, 2, 3, 0] rfl
    · refine tz_aload_n 0 0 C dX10_reads_36 rfl rfl ?_
      refine tz_getR C dX10_reads_37 fl_RX10_37 (by decide) rfl rfl ?_
      refine tz_iload_n 1 1 C dX10_reads_40 rfl rfl ?_
      refine tz_iconst 0 (by decide) C dX10_reads_41 ?_
      have hin_43 := h.1
      refine tz_iast C dX10_reads_42 (by decide) rfl h (fun σ_42 h => ?_)
      refine tz_iinc 1 [(0, .ref 133)] 1 C dX10_reads_43 (by decide) rfl (Nat.le_of_ble_eq_true rfl) rfl h (fun x1_44 h => ?_)
      refine tz_goto 29 C dX10_reads_46 (by decide) ?_
      exact tz_sub (ihag_5 _ _ h) [1, 0] rfl
  refine tz_icmp_eq 22 C dX10_reads_9 (by decide) h (fun c_45 h => ?_) (fun c_45 h => ?_)
  · exact tz_sub (hK_2 _ h) [0] rfl
  · refine tz_aload_n 0 0 C dX10_reads_12 rfl rfl ?_
    refine tz_iconst 0 (by decide) C dX10_reads_13 ?_
    refine tz_put C dX10_reads_14 fp_RX10_109 (by decide) rfl rfl rfl rfl h (fun σ_46 h => ?_)
    refine tz_aload_n 0 0 C dX10_reads_17 rfl rfl ?_
    refine tz_iconst 0 (by decide) C dX10_reads_18 ?_
    refine tz_put C dX10_reads_19 fp_RX10_115 (by decide) rfl rfl rfl rfl h (fun σ_47 h => ?_)
    exact tz_sub (hK_2 _ h) [0] rfl

def vc_X10_faultOf (x1 : Int32) (σ : tzS) (Q : Int32 → tzS → Prop) : Prop :=
  vc_X10_reads  σ (fun (σ_1 : tzS) =>
    (¬ x1 = 0 →
      (¬ x1 = 1 →
        Q (σ_1.1 133 6) σ_1) ∧
      (x1 = 1 →
        Q (σ_1.1 133 5) σ_1)) ∧
    (x1 = 0 →
      Q (σ_1.1 133 4) σ_1))
set_option maxRecDepth 20000 in
set_option maxHeartbeats 4000000 in
theorem m_X10_faultOf (G : tzG) (hG : tz_ok G) {x1 : Int32}  {σ : tzS} {Q : Int32 → tzS → Prop} (h : vc_X10_faultOf x1 σ Q) : tz_M G yX10_faultOf cX10_faultOf 2 (some .int) 4 95 [.ref 133, .int x1] σ (tz_Qi G Q) := by
  unfold vc_X10_faultOf at h
  refine tz_starti hG RX10 [(0, .ref 133), (1, .int x1)] (by decide) rfl (Nat.le_of_ble_eq_true rfl) rfl (fun E C hret => ?_)
  refine tz_aload_n 0 0 C dX10_faultOf_0 rfl rfl ?_
  refine tz_callvv C dX10_faultOf_1 lk_RX10_147 (m_X10_reads G hG  h) (by decide) rfl rfl rfl rfl ⟨Nat.le_of_ble_eq_true rfl, Nat.le_of_ble_eq_true rfl⟩ (Nat.le_of_ble_eq_true rfl) rfl (fun σ_1 h => ?_)
  refine tz_iload_n 1 1 C dX10_faultOf_4 rfl rfl ?_
  refine tz_if_ne 15 C dX10_faultOf_5 (by decide) h (fun c_2 h => ?_) (fun c_2 h => ?_)
  · refine tz_iload_n 1 1 C dX10_faultOf_15 rfl rfl ?_
    refine tz_iconst 1 (by decide) C dX10_faultOf_16 ?_
    refine tz_icmp_ne 27 C dX10_faultOf_17 (by decide) h (fun c_3 h => ?_) (fun c_3 h => ?_)
    · refine tz_aload_n 0 0 C dX10_faultOf_27 rfl rfl ?_
      refine tz_getI C dX10_faultOf_28 fl_RX10_112 (by decide) rfl rfl ?_
      exact hret _ _ _ _ dX10_faultOf_31 h
    · refine tz_aload_n 0 0 C dX10_faultOf_20 rfl rfl ?_
      refine tz_getI C dX10_faultOf_21 fl_RX10_106 (by decide) rfl rfl ?_
      refine tz_goto 31 C dX10_faultOf_24 (by decide) ?_
      exact hret _ _ _ _ dX10_faultOf_31 h
  · refine tz_aload_n 0 0 C dX10_faultOf_8 rfl rfl ?_
    refine tz_getI C dX10_faultOf_9 fl_RX10_103 (by decide) rfl rfl ?_
    refine tz_goto 31 C dX10_faultOf_12 (by decide) ?_
    exact hret _ _ _ _ dX10_faultOf_31 h

def vc_X10_fault (x1 : Int32) (σ : tzS) (Q : Int32 → tzS → Prop) : Prop :=
  vc_X10_in x1 0 2 σ (fun (r_2 : Int32) (σ_1 : tzS) =>
    (r_2 = 0 →
      Q (-2) σ_1) ∧
    (¬ r_2 = 0 →
      vc_X10_faultOf x1 σ_1 (fun (r_5 : Int32) (σ_4 : tzS) =>
        Q r_5 σ_4)))
set_option maxRecDepth 20000 in
set_option maxHeartbeats 4000000 in
theorem m_X10_fault (G : tzG) (hG : tz_ok G) {x1 : Int32}  {σ : tzS} {Q : Int32 → tzS → Prop} (h : vc_X10_fault x1 σ Q) : tz_M G yX10_fault cX10_fault 2 (some .int) 5 116 [.ref 133, .int x1] σ (tz_Qi G Q) := by
  unfold vc_X10_fault at h
  refine tz_starti hG RX10 [(0, .ref 133), (1, .int x1)] (by decide) rfl (Nat.le_of_ble_eq_true rfl) rfl (fun E C hret => ?_)
  refine tz_iload_n 1 1 C dX10_fault_0 rfl rfl ?_
  refine tz_iconst 0 (by decide) C dX10_fault_1 ?_
  refine tz_iconst 2 (by decide) C dX10_fault_2 ?_
  refine tz_callis C dX10_fault_3 lk_RX10_77 (m_X10_in G hG  h) rfl ⟨Nat.le_of_ble_eq_true rfl, Nat.le_of_ble_eq_true rfl⟩ (Nat.le_of_ble_eq_true rfl) rfl (fun r_2 σ_1 h => ?_)
  refine tz_if_eq 17 C dX10_fault_6 (by decide) h (fun c_3 h => ?_) (fun c_3 h => ?_)
  · refine tz_bipush (-2) (by decide) C dX10_fault_17 ?_
    exact hret _ _ _ _ dX10_fault_19 h
  · refine tz_aload_n 0 0 C dX10_fault_9 rfl rfl ?_
    refine tz_iload_n 1 1 C dX10_fault_10 rfl rfl ?_
    refine tz_calliv C dX10_fault_11 lk_RX10_150 (m_X10_faultOf G hG  h) (by decide) rfl rfl rfl rfl ⟨Nat.le_of_ble_eq_true rfl, Nat.le_of_ble_eq_true rfl⟩ (Nat.le_of_ble_eq_true rfl) rfl (fun r_5 σ_4 h => ?_)
    refine tz_goto 19 C dX10_fault_14 (by decide) ?_
    exact hret _ _ _ _ dX10_fault_19 h

def vc_X10_isSentence (x1 : Int32) (σ : tzS) (Q : Int32 → tzS → Prop) : Prop :=
  vc_X10_reads  σ (fun (σ_1 : tzS) =>
    vc_X10_in x1 0 ((σ_1.1 133 7) - 1) σ_1 (fun (r_3 : Int32) (σ_2 : tzS) =>
      tz_bool r_3 ∧ Q r_3 σ_2))
set_option maxRecDepth 20000 in
set_option maxHeartbeats 4000000 in
theorem m_X10_isSentence (G : tzG) (hG : tz_ok G) {x1 : Int32}  {σ : tzS} {Q : Int32 → tzS → Prop} (h : vc_X10_isSentence x1 σ Q) : tz_M G yX10_isSentence cX10_isSentence 2 (some .boolean) 4 95 [.ref 133, .int x1] σ (tz_Qi G Q) := by
  unfold vc_X10_isSentence at h
  refine tz_startz hG RX10 [(0, .ref 133), (1, .int x1)] (by decide) rfl (Nat.le_of_ble_eq_true rfl) rfl (fun E C hret => ?_)
  refine tz_aload_n 0 0 C dX10_isSentence_0 rfl rfl ?_
  refine tz_callvv C dX10_isSentence_1 lk_RX10_147 (m_X10_reads G hG  h) (by decide) rfl rfl rfl rfl ⟨Nat.le_of_ble_eq_true rfl, Nat.le_of_ble_eq_true rfl⟩ (Nat.le_of_ble_eq_true rfl) rfl (fun σ_1 h => ?_)
  refine tz_iload_n 1 1 C dX10_isSentence_4 rfl rfl ?_
  refine tz_iconst 0 (by decide) C dX10_isSentence_5 ?_
  refine tz_aload_n 0 0 C dX10_isSentence_6 rfl rfl ?_
  refine tz_getI C dX10_isSentence_7 fl_RX10_109 (by decide) rfl rfl ?_
  refine tz_iconst 1 (by decide) C dX10_isSentence_10 ?_
  refine tz_isub C dX10_isSentence_11 ?_
  refine tz_callis C dX10_isSentence_12 lk_RX10_77 (m_X10_in G hG  h) rfl ⟨Nat.le_of_ble_eq_true rfl, Nat.le_of_ble_eq_true rfl⟩ (Nat.le_of_ble_eq_true rfl) rfl (fun r_3 σ_2 h => ?_)
  exact hret _ _ _ _ dX10_isSentence_15 (tz_narz h.1) h.2

def vc_X10_looksOver (x1 : Int32) (x2 : Int32) (σ : tzS) (Q : tzS → Prop) : Prop :=
  ∀ σ_1 : tzS, σ_1 = tz_st σ 133 19 0 →
  ∀ σ_2 : tzS, σ_2 = tz_st σ_1 133 20 0 →
  ∀ σ_3 : tzS, σ_3 = tz_st σ_2 133 21 0 →
  tz_loop1 (fun (x3_6 : Int32) (σ_5 : tzS) (ag_4 : Int32 → tzS → Prop) =>
    ((σ_5.1 133 9) ≤ x3_6 →
      Q σ_5) ∧
    (¬ (σ_5.1 133 9) ≤ x3_6 →
      tz_loop2 (fun (x4_10 : Int32) (x5_11 : Int32) (σ_9 : tzS) (ag_8 : Int32 → Int32 → tzS → Prop) =>
        (x2 ≤ x5_11 →
          ∀ σ_13 : tzS, σ_13 = tz_st σ_9 133 19 ((σ_9.1 133 19) + x4_10) →
          (x4_10 ≤ 0 →
            ∀ σ_15 : tzS, σ_15 = tz_st σ_13 133 20 ((σ_13.1 133 20) + 0) →
            (¬ x4_10 = 1 →
              ∀ σ_17 : tzS, σ_17 = tz_st σ_15 133 21 ((σ_15.1 133 21) + 0) →
              ∀ x3_18 : Int32, x3_18 = x3_6 + 1 →
              ag_4 x3_18 σ_17) ∧
            (x4_10 = 1 →
              ∀ σ_19 : tzS, σ_19 = tz_st σ_15 133 21 ((σ_15.1 133 21) + 1) →
              ∀ x3_20 : Int32, x3_20 = x3_6 + 1 →
              ag_4 x3_20 σ_19)) ∧
          (¬ x4_10 ≤ 0 →
            ∀ σ_21 : tzS, σ_21 = tz_st σ_13 133 20 ((σ_13.1 133 20) + 1) →
            (¬ x4_10 = 1 →
              ∀ σ_23 : tzS, σ_23 = tz_st σ_21 133 21 ((σ_21.1 133 21) + 0) →
              ∀ x3_24 : Int32, x3_24 = x3_6 + 1 →
              ag_4 x3_24 σ_23) ∧
            (x4_10 = 1 →
              ∀ σ_25 : tzS, σ_25 = tz_st σ_21 133 21 ((σ_21.1 133 21) + 1) →
              ∀ x3_26 : Int32, x3_26 = x3_6 + 1 →
              ag_4 x3_26 σ_25))) ∧
        (¬ x2 ≤ x5_11 →
          (¬ x5_11 = (σ_9.1 133 18) →
            vp_in ((110 * x5_11) + x3_6) 1320 ∧ (
              ∀ x4_29 : Int32, x4_29 = (x4_10 + (σ_9.1 143 ((110 * x5_11) + x3_6).toNatClampNeg)) →
              ∀ x5_30 : Int32, x5_30 = x5_11 + 1 →
              ag_8 x4_29 x5_30 σ_9)) ∧
          (x5_11 = (σ_9.1 133 18) →
            ∀ x4_31 : Int32, x4_31 = (x4_10 + 0) →
            ∀ x5_32 : Int32, x5_32 = x5_11 + 1 →
            ag_8 x4_31 x5_32 σ_9))) (0 : Int32) x1 σ_5)) (0 : Int32) σ_3
set_option maxRecDepth 20000 in
set_option maxHeartbeats 4000000 in
theorem m_X10_looksOver (G : tzG) (hG : tz_ok G) {x1 : Int32} {x2 : Int32}  {σ : tzS} {Q : tzS → Prop} (h : vc_X10_looksOver x1 x2 σ Q) : tz_M G yX10_looksOver cX10_looksOver 6 (none) 0 0 [.ref 133, .int x1, .int x2] σ (tz_Qv G Q) := by
  unfold vc_X10_looksOver at h
  refine tz_startv hG RX10 [(0, .ref 133), (1, .int x1), (2, .int x2)] (by decide) rfl (Nat.le_of_ble_eq_true rfl) rfl (fun E C hret => ?_)
  refine tz_aload_n 0 0 C dX10_looksOver_0 rfl rfl ?_
  refine tz_iconst 0 (by decide) C dX10_looksOver_1 ?_
  refine tz_put C dX10_looksOver_2 fp_RX10_153 (by decide) rfl rfl rfl rfl h (fun σ_1 h => ?_)
  refine tz_aload_n 0 0 C dX10_looksOver_5 rfl rfl ?_
  refine tz_iconst 0 (by decide) C dX10_looksOver_6 ?_
  refine tz_put C dX10_looksOver_7 fp_RX10_156 (by decide) rfl rfl rfl rfl h (fun σ_2 h => ?_)
  refine tz_aload_n 0 0 C dX10_looksOver_10 rfl rfl ?_
  refine tz_iconst 0 (by decide) C dX10_looksOver_11 ?_
  refine tz_put C dX10_looksOver_12 fp_RX10_159 (by decide) rfl rfl rfl rfl h (fun σ_3 h => ?_)
  refine tz_iconst 0 (by decide) C dX10_looksOver_15 ?_
  refine tz_istore_n_k 3 [(0, .ref 133), (1, .int x1), (2, .int x2)] C dX10_looksOver_16 rfl (Nat.le_of_ble_eq_true rfl) rfl ?_
  refine tz_sub (L := [(0, .ref 133), (1, .int x1), (2, .int x2), (3, .int 0)]) ?_ [1, 2, 3, 0] rfl
  refine tz_loop1_w (V := fun (x3_6 : Int32) (σ_5 : tzS) => tz_V G E 17 [(0, .ref 133), (1, .int x1), (2, .int x2), (3, .int x3_6)] [] σ_5) h (fun ag_4 ihag_4 x3_6 σ_5 h => ?_)
  refine tz_iload_n 3 3 C dX10_looksOver_17 rfl rfl ?_
  refine tz_aload_n 0 0 C dX10_looksOver_18 rfl rfl ?_
  refine tz_getI C dX10_looksOver_19 fl_RX10_135 (by decide) rfl rfl ?_
  refine tz_icmp_ge 129 C dX10_looksOver_22 (by decide) h (fun c_7 h => ?_) (fun c_7 h => ?_)
  · exact hret _ _ _ dX10_looksOver_129 h
  · refine tz_iconst 0 (by decide) C dX10_looksOver_25 ?_
    refine tz_istore_k [(0, .ref 133), (1, .int x1), (2, .int x2), (3, .int x3_6)] C dX10_looksOver_26 (Nat.le_of_ble_eq_true rfl) rfl ?_
    refine tz_iload_n 1 2 C dX10_looksOver_28 rfl rfl ?_
    refine tz_istore_k [(4, .int 0), (0, .ref 133), (1, .int x1), (2, .int x2), (3, .int x3_6)] C dX10_looksOver_29 (Nat.le_of_ble_eq_true rfl) rfl ?_
    refine tz_sub (L := [(0, .ref 133), (1, .int x1), (2, .int x2), (3, .int x3_6), (4, .int 0), (5, .int x1)]) ?_ [2, 3, 4, 5, 1, 0] rfl
    refine tz_loop2_w (V := fun (x4_10 : Int32) (x5_11 : Int32) (σ_9 : tzS) => tz_V G E 31 [(0, .ref 133), (1, .int x1), (2, .int x2), (3, .int x3_6), (4, .int x4_10), (5, .int x5_11)] [] σ_9) h (fun ag_8 ihag_8 x4_10 x5_11 σ_9 h => ?_)
    refine tz_iload 5 C dX10_looksOver_31 rfl ?_
    refine tz_iload_n 2 2 C dX10_looksOver_33 rfl rfl ?_
    refine tz_icmp_ge 73 C dX10_looksOver_34 (by decide) h (fun c_12 h => ?_) (fun c_12 h => ?_)
    · refine tz_aload_n 0 0 C dX10_looksOver_73 rfl rfl ?_
      refine tz_dup C dX10_looksOver_74 rfl ?_
      refine tz_getI C dX10_looksOver_75 fl_RX10_153 (by decide) rfl rfl ?_
      refine tz_iload 4 C dX10_looksOver_78 rfl ?_
      refine tz_iadd C dX10_looksOver_80 ?_
      refine tz_put C dX10_looksOver_81 fp_RX10_153 (by decide) rfl rfl rfl rfl h (fun σ_13 h => ?_)
      refine tz_aload_n 0 0 C dX10_looksOver_84 rfl rfl ?_
      refine tz_dup C dX10_looksOver_85 rfl ?_
      refine tz_getI C dX10_looksOver_86 fl_RX10_156 (by decide) rfl rfl ?_
      refine tz_iload 4 C dX10_looksOver_89 rfl ?_
      refine tz_if_le 98 C dX10_looksOver_91 (by decide) h (fun c_14 h => ?_) (fun c_14 h => ?_)
      · refine tz_iconst 0 (by decide) C dX10_looksOver_98 ?_
        refine tz_iadd C dX10_looksOver_99 ?_
        refine tz_put C dX10_looksOver_100 fp_RX10_156 (by decide) rfl rfl rfl rfl h (fun σ_15 h => ?_)
        refine tz_aload_n 0 0 C dX10_looksOver_103 rfl rfl ?_
        refine tz_dup C dX10_looksOver_104 rfl ?_
        refine tz_getI C dX10_looksOver_105 fl_RX10_159 (by decide) rfl rfl ?_
        refine tz_iload 4 C dX10_looksOver_108 rfl ?_
        refine tz_iconst 1 (by decide) C dX10_looksOver_110 ?_
        refine tz_icmp_ne 118 C dX10_looksOver_111 (by decide) h (fun c_16 h => ?_) (fun c_16 h => ?_)
        · refine tz_iconst 0 (by decide) C dX10_looksOver_118 ?_
          refine tz_iadd C dX10_looksOver_119 ?_
          refine tz_put C dX10_looksOver_120 fp_RX10_159 (by decide) rfl rfl rfl rfl h (fun σ_17 h => ?_)
          refine tz_iinc 3 [(0, .ref 133), (1, .int x1), (2, .int x2), (4, .int x4_10), (5, .int x5_11)] 1 C dX10_looksOver_123 (by decide) rfl (Nat.le_of_ble_eq_true rfl) rfl h (fun x3_18 h => ?_)
          refine tz_goto 17 C dX10_looksOver_126 (by decide) ?_
          exact tz_sub (ihag_4 _ _ h) [1, 2, 3, 0] rfl
        · refine tz_iconst 1 (by decide) C dX10_looksOver_114 ?_
          refine tz_goto 119 C dX10_looksOver_115 (by decide) ?_
          refine tz_iadd C dX10_looksOver_119 ?_
          refine tz_put C dX10_looksOver_120 fp_RX10_159 (by decide) rfl rfl rfl rfl h (fun σ_19 h => ?_)
          refine tz_iinc 3 [(0, .ref 133), (1, .int x1), (2, .int x2), (4, .int x4_10), (5, .int x5_11)] 1 C dX10_looksOver_123 (by decide) rfl (Nat.le_of_ble_eq_true rfl) rfl h (fun x3_20 h => ?_)
          refine tz_goto 17 C dX10_looksOver_126 (by decide) ?_
          exact tz_sub (ihag_4 _ _ h) [1, 2, 3, 0] rfl
      · refine tz_iconst 1 (by decide) C dX10_looksOver_94 ?_
        refine tz_goto 99 C dX10_looksOver_95 (by decide) ?_
        refine tz_iadd C dX10_looksOver_99 ?_
        refine tz_put C dX10_looksOver_100 fp_RX10_156 (by decide) rfl rfl rfl rfl h (fun σ_21 h => ?_)
        refine tz_aload_n 0 0 C dX10_looksOver_103 rfl rfl ?_
        refine tz_dup C dX10_looksOver_104 rfl ?_
        refine tz_getI C dX10_looksOver_105 fl_RX10_159 (by decide) rfl rfl ?_
        refine tz_iload 4 C dX10_looksOver_108 rfl ?_
        refine tz_iconst 1 (by decide) C dX10_looksOver_110 ?_
        refine tz_icmp_ne 118 C dX10_looksOver_111 (by decide) h (fun c_22 h => ?_) (fun c_22 h => ?_)
        · refine tz_iconst 0 (by decide) C dX10_looksOver_118 ?_
          refine tz_iadd C dX10_looksOver_119 ?_
          refine tz_put C dX10_looksOver_120 fp_RX10_159 (by decide) rfl rfl rfl rfl h (fun σ_23 h => ?_)
          refine tz_iinc 3 [(0, .ref 133), (1, .int x1), (2, .int x2), (4, .int x4_10), (5, .int x5_11)] 1 C dX10_looksOver_123 (by decide) rfl (Nat.le_of_ble_eq_true rfl) rfl h (fun x3_24 h => ?_)
          refine tz_goto 17 C dX10_looksOver_126 (by decide) ?_
          exact tz_sub (ihag_4 _ _ h) [1, 2, 3, 0] rfl
        · refine tz_iconst 1 (by decide) C dX10_looksOver_114 ?_
          refine tz_goto 119 C dX10_looksOver_115 (by decide) ?_
          refine tz_iadd C dX10_looksOver_119 ?_
          refine tz_put C dX10_looksOver_120 fp_RX10_159 (by decide) rfl rfl rfl rfl h (fun σ_25 h => ?_)
          refine tz_iinc 3 [(0, .ref 133), (1, .int x1), (2, .int x2), (4, .int x4_10), (5, .int x5_11)] 1 C dX10_looksOver_123 (by decide) rfl (Nat.le_of_ble_eq_true rfl) rfl h (fun x3_26 h => ?_)
          refine tz_goto 17 C dX10_looksOver_126 (by decide) ?_
          exact tz_sub (ihag_4 _ _ h) [1, 2, 3, 0] rfl
    · refine tz_iload 4 C dX10_looksOver_37 rfl ?_
      refine tz_iload 5 C dX10_looksOver_39 rfl ?_
      refine tz_aload_n 0 0 C dX10_looksOver_41 rfl rfl ?_
      refine tz_getI C dX10_looksOver_42 fl_RX10_144 (by decide) rfl rfl ?_
      refine tz_icmp_ne 52 C dX10_looksOver_45 (by decide) h (fun c_27 h => ?_) (fun c_27 h => ?_)
      · refine tz_aload_n 0 0 C dX10_looksOver_52 rfl rfl ?_
        refine tz_getR C dX10_looksOver_53 fl_RX10_37 (by decide) rfl rfl ?_
        refine tz_bipush 110 (by decide) C dX10_looksOver_56 ?_
        refine tz_iload 5 C dX10_looksOver_58 rfl ?_
        refine tz_imul C dX10_looksOver_60 ?_
        refine tz_iload_n 3 3 C dX10_looksOver_61 rfl rfl ?_
        refine tz_iadd C dX10_looksOver_62 ?_
        obtain ⟨hin_28, h⟩ := h
        refine tz_iald C dX10_looksOver_63 (by decide) rfl hin_28 ?_
        refine tz_iadd C dX10_looksOver_64 ?_
        refine tz_istore [(0, .ref 133), (1, .int x1), (2, .int x2), (3, .int x3_6), (5, .int x5_11)] C dX10_looksOver_65 (Nat.le_of_ble_eq_true rfl) rfl h (fun x4_29 h => ?_)
        refine tz_iinc 5 [(4, .int x4_29), (0, .ref 133), (1, .int x1), (2, .int x2), (3, .int x3_6)] 1 C dX10_looksOver_67 (by decide) rfl (Nat.le_of_ble_eq_true rfl) rfl h (fun x5_30 h => ?_)
        refine tz_goto 31 C dX10_looksOver_70 (by decide) ?_
        exact tz_sub (ihag_8 _ _ _ h) [2, 3, 4, 5, 1, 0] rfl
      · refine tz_iconst 0 (by decide) C dX10_looksOver_48 ?_
        refine tz_goto 64 C dX10_looksOver_49 (by decide) ?_
        refine tz_iadd C dX10_looksOver_64 ?_
        refine tz_istore [(0, .ref 133), (1, .int x1), (2, .int x2), (3, .int x3_6), (5, .int x5_11)] C dX10_looksOver_65 (Nat.le_of_ble_eq_true rfl) rfl h (fun x4_31 h => ?_)
        refine tz_iinc 5 [(4, .int x4_31), (0, .ref 133), (1, .int x1), (2, .int x2), (3, .int x3_6)] 1 C dX10_looksOver_67 (by decide) rfl (Nat.le_of_ble_eq_true rfl) rfl h (fun x5_32 h => ?_)
        refine tz_goto 31 C dX10_looksOver_70 (by decide) ?_
        exact tz_sub (ihag_8 _ _ _ h) [2, 3, 4, 5, 1, 0] rfl

def vc_X10_sentenceOf (x1 : Int32) (x2 : Int32) (σ : tzS) (Q : Int32 → tzS → Prop) : Prop :=
  vc_X10_looksOver x1 (x1 + 1) σ (fun (σ_1 : tzS) =>
    (¬ x2 = 0 →
      (¬ x2 = 1 →
        (¬ x2 = 2 →
          vp_in x1 14 ∧ (
            vp_in (σ_1.1 142 x1.toNatClampNeg) 110 ∧ (
              Q (σ_1.1 136 (σ_1.1 142 x1.toNatClampNeg).toNatClampNeg) σ_1))) ∧
        (x2 = 2 →
          Q (σ_1.1 133 21) σ_1)) ∧
      (x2 = 1 →
        Q (σ_1.1 133 20) σ_1)) ∧
    (x2 = 0 →
      Q (σ_1.1 133 19) σ_1))
set_option maxRecDepth 20000 in
set_option maxHeartbeats 4000000 in
theorem m_X10_sentenceOf (G : tzG) (hG : tz_ok G) {x1 : Int32} {x2 : Int32}  {σ : tzS} {Q : Int32 → tzS → Prop} (h : vc_X10_sentenceOf x1 x2 σ Q) : tz_M G yX10_sentenceOf cX10_sentenceOf 3 (some .int) 1 25 [.ref 133, .int x1, .int x2] σ (tz_Qi G Q) := by
  unfold vc_X10_sentenceOf at h
  refine tz_starti hG RX10 [(0, .ref 133), (1, .int x1), (2, .int x2)] (by decide) rfl (Nat.le_of_ble_eq_true rfl) rfl (fun E C hret => ?_)
  refine tz_aload_n 0 0 C dX10_sentenceOf_0 rfl rfl ?_
  refine tz_iload_n 1 1 C dX10_sentenceOf_1 rfl rfl ?_
  refine tz_iload_n 1 1 C dX10_sentenceOf_2 rfl rfl ?_
  refine tz_iconst 1 (by decide) C dX10_sentenceOf_3 ?_
  refine tz_iadd C dX10_sentenceOf_4 ?_
  refine tz_callvv C dX10_sentenceOf_5 lk_RX10_162 (m_X10_looksOver G hG  h) (by decide) rfl rfl rfl rfl ⟨Nat.le_of_ble_eq_true rfl, Nat.le_of_ble_eq_true rfl⟩ (Nat.le_of_ble_eq_true rfl) rfl (fun σ_1 h => ?_)
  refine tz_iload_n 2 2 C dX10_sentenceOf_8 rfl rfl ?_
  refine tz_if_ne 19 C dX10_sentenceOf_9 (by decide) h (fun c_2 h => ?_) (fun c_2 h => ?_)
  · refine tz_iload_n 2 2 C dX10_sentenceOf_19 rfl rfl ?_
    refine tz_iconst 1 (by decide) C dX10_sentenceOf_20 ?_
    refine tz_icmp_ne 31 C dX10_sentenceOf_21 (by decide) h (fun c_3 h => ?_) (fun c_3 h => ?_)
    · refine tz_iload_n 2 2 C dX10_sentenceOf_31 rfl rfl ?_
      refine tz_iconst 2 (by decide) C dX10_sentenceOf_32 ?_
      refine tz_icmp_ne 43 C dX10_sentenceOf_33 (by decide) h (fun c_4 h => ?_) (fun c_4 h => ?_)
      · refine tz_aload_n 0 0 C dX10_sentenceOf_43 rfl rfl ?_
        refine tz_getR C dX10_sentenceOf_44 fl_RX10_16 (by decide) rfl rfl ?_
        refine tz_aload_n 0 0 C dX10_sentenceOf_47 rfl rfl ?_
        refine tz_getR C dX10_sentenceOf_48 fl_RX10_34 (by decide) rfl rfl ?_
        refine tz_iload_n 1 1 C dX10_sentenceOf_51 rfl rfl ?_
        obtain ⟨hin_5, h⟩ := h
        refine tz_iald C dX10_sentenceOf_52 (by decide) rfl hin_5 ?_
        obtain ⟨hin_6, h⟩ := h
        refine tz_iald C dX10_sentenceOf_53 (by decide) rfl hin_6 ?_
        exact hret _ _ _ _ dX10_sentenceOf_54 h
      · refine tz_aload_n 0 0 C dX10_sentenceOf_36 rfl rfl ?_
        refine tz_getI C dX10_sentenceOf_37 fl_RX10_159 (by decide) rfl rfl ?_
        refine tz_goto 54 C dX10_sentenceOf_40 (by decide) ?_
        exact hret _ _ _ _ dX10_sentenceOf_54 h
    · refine tz_aload_n 0 0 C dX10_sentenceOf_24 rfl rfl ?_
      refine tz_getI C dX10_sentenceOf_25 fl_RX10_156 (by decide) rfl rfl ?_
      refine tz_goto 54 C dX10_sentenceOf_28 (by decide) ?_
      exact hret _ _ _ _ dX10_sentenceOf_54 h
  · refine tz_aload_n 0 0 C dX10_sentenceOf_12 rfl rfl ?_
    refine tz_getI C dX10_sentenceOf_13 fl_RX10_153 (by decide) rfl rfl ?_
    refine tz_goto 54 C dX10_sentenceOf_16 (by decide) ?_
    exact hret _ _ _ _ dX10_sentenceOf_54 h

def vc_X10_sentence (x1 : Int32) (x2 : Int32) (σ : tzS) (Q : Int32 → tzS → Prop) : Prop :=
  vc_X10_isSentence x1 σ (fun (r_2 : Int32) (σ_1 : tzS) =>
    (r_2 = 0 →
      Q (-2) σ_1) ∧
    (¬ r_2 = 0 →
      vc_X10_in x2 0 3 σ_1 (fun (r_5 : Int32) (σ_4 : tzS) =>
        (r_5 = 0 →
          Q (-2) σ_4) ∧
        (¬ r_5 = 0 →
          vc_X10_sentenceOf x1 x2 σ_4 (fun (r_8 : Int32) (σ_7 : tzS) =>
            Q r_8 σ_7)))))
set_option maxRecDepth 20000 in
set_option maxHeartbeats 4000000 in
theorem m_X10_sentence (G : tzG) (hG : tz_ok G) {x1 : Int32} {x2 : Int32}  {σ : tzS} {Q : Int32 → tzS → Prop} (h : vc_X10_sentence x1 x2 σ Q) : tz_M G yX10_sentence cX10_sentence 3 (some .int) 5 116 [.ref 133, .int x1, .int x2] σ (tz_Qi G Q) := by
  unfold vc_X10_sentence at h
  refine tz_starti hG RX10 [(0, .ref 133), (1, .int x1), (2, .int x2)] (by decide) rfl (Nat.le_of_ble_eq_true rfl) rfl (fun E C hret => ?_)
  refine tz_aload_n 0 0 C dX10_sentence_0 rfl rfl ?_
  refine tz_iload_n 1 1 C dX10_sentence_1 rfl rfl ?_
  refine tz_calliv C dX10_sentence_2 lk_RX10_165 (m_X10_isSentence G hG  h) (by decide) rfl rfl rfl rfl ⟨Nat.le_of_ble_eq_true rfl, Nat.le_of_ble_eq_true rfl⟩ (Nat.le_of_ble_eq_true rfl) rfl (fun r_2 σ_1 h => ?_)
  refine tz_if_eq 26 C dX10_sentence_5 (by decide) h (fun c_3 h => ?_) (fun c_3 h => ?_)
  · refine tz_bipush (-2) (by decide) C dX10_sentence_26 ?_
    exact hret _ _ _ _ dX10_sentence_28 h
  · refine tz_iload_n 2 2 C dX10_sentence_8 rfl rfl ?_
    refine tz_iconst 0 (by decide) C dX10_sentence_9 ?_
    refine tz_iconst 3 (by decide) C dX10_sentence_10 ?_
    refine tz_callis C dX10_sentence_11 lk_RX10_77 (m_X10_in G hG  h) rfl ⟨Nat.le_of_ble_eq_true rfl, Nat.le_of_ble_eq_true rfl⟩ (Nat.le_of_ble_eq_true rfl) rfl (fun r_5 σ_4 h => ?_)
    refine tz_if_eq 26 C dX10_sentence_14 (by decide) h (fun c_6 h => ?_) (fun c_6 h => ?_)
    · refine tz_bipush (-2) (by decide) C dX10_sentence_26 ?_
      exact hret _ _ _ _ dX10_sentence_28 h
    · refine tz_aload_n 0 0 C dX10_sentence_17 rfl rfl ?_
      refine tz_iload_n 1 1 C dX10_sentence_18 rfl rfl ?_
      refine tz_iload_n 2 2 C dX10_sentence_19 rfl rfl ?_
      refine tz_calliv C dX10_sentence_20 lk_RX10_168 (m_X10_sentenceOf G hG  h) (by decide) rfl rfl rfl rfl ⟨Nat.le_of_ble_eq_true rfl, Nat.le_of_ble_eq_true rfl⟩ (Nat.le_of_ble_eq_true rfl) rfl (fun r_8 σ_7 h => ?_)
      refine tz_goto 28 C dX10_sentence_23 (by decide) ?_
      exact hret _ _ _ _ dX10_sentence_28 h

def vc_X10_wordOf (x1 : Int32) (x2 : Int32) (σ : tzS) (Q : Int32 → tzS → Prop) : Prop :=
  vp_in (x1 + 1) 14 ∧ (
    vp_in x1 14 ∧ (
      vc_X10_in x2 0 (((σ.1 142 (x1 + 1).toNatClampNeg) - (σ.1 142 x1.toNatClampNeg)) - 1) σ (fun (r_4 : Int32) (σ_3 : tzS) =>
        (r_4 = 0 →
          Q (-2) σ_3) ∧
        (¬ r_4 = 0 →
          vp_in ((σ_3.1 142 x1.toNatClampNeg) + x2) 110 ∧ (
            Q (σ_3.1 139 ((σ_3.1 142 x1.toNatClampNeg) + x2).toNatClampNeg) σ_3)))))
set_option maxRecDepth 20000 in
set_option maxHeartbeats 4000000 in
theorem m_X10_wordOf (G : tzG) (hG : tz_ok G) {x1 : Int32} {x2 : Int32}  {σ : tzS} {Q : Int32 → tzS → Prop} (h : vc_X10_wordOf x1 x2 σ Q) : tz_M G yX10_wordOf cX10_wordOf 3 (some .int) 1 22 [.ref 133, .int x1, .int x2] σ (tz_Qi G Q) := by
  unfold vc_X10_wordOf at h
  refine tz_starti hG RX10 [(0, .ref 133), (1, .int x1), (2, .int x2)] (by decide) rfl (Nat.le_of_ble_eq_true rfl) rfl (fun E C hret => ?_)
  refine tz_iload_n 2 2 C dX10_wordOf_0 rfl rfl ?_
  refine tz_iconst 0 (by decide) C dX10_wordOf_1 ?_
  refine tz_aload_n 0 0 C dX10_wordOf_2 rfl rfl ?_
  refine tz_getR C dX10_wordOf_3 fl_RX10_34 (by decide) rfl rfl ?_
  refine tz_iload_n 1 1 C dX10_wordOf_6 rfl rfl ?_
  refine tz_iconst 1 (by decide) C dX10_wordOf_7 ?_
  refine tz_iadd C dX10_wordOf_8 ?_
  obtain ⟨hin_1, h⟩ := h
  refine tz_iald C dX10_wordOf_9 (by decide) rfl hin_1 ?_
  refine tz_aload_n 0 0 C dX10_wordOf_10 rfl rfl ?_
  refine tz_getR C dX10_wordOf_11 fl_RX10_34 (by decide) rfl rfl ?_
  refine tz_iload_n 1 1 C dX10_wordOf_14 rfl rfl ?_
  obtain ⟨hin_2, h⟩ := h
  refine tz_iald C dX10_wordOf_15 (by decide) rfl hin_2 ?_
  refine tz_isub C dX10_wordOf_16 ?_
  refine tz_iconst 1 (by decide) C dX10_wordOf_17 ?_
  refine tz_isub C dX10_wordOf_18 ?_
  refine tz_callis C dX10_wordOf_19 lk_RX10_77 (m_X10_in G hG  h) rfl ⟨Nat.le_of_ble_eq_true rfl, Nat.le_of_ble_eq_true rfl⟩ (Nat.le_of_ble_eq_true rfl) rfl (fun r_4 σ_3 h => ?_)
  refine tz_if_eq 41 C dX10_wordOf_22 (by decide) h (fun c_5 h => ?_) (fun c_5 h => ?_)
  · refine tz_bipush (-2) (by decide) C dX10_wordOf_41 ?_
    exact hret _ _ _ _ dX10_wordOf_43 h
  · refine tz_aload_n 0 0 C dX10_wordOf_25 rfl rfl ?_
    refine tz_getR C dX10_wordOf_26 fl_RX10_25 (by decide) rfl rfl ?_
    refine tz_aload_n 0 0 C dX10_wordOf_29 rfl rfl ?_
    refine tz_getR C dX10_wordOf_30 fl_RX10_34 (by decide) rfl rfl ?_
    refine tz_iload_n 1 1 C dX10_wordOf_33 rfl rfl ?_
    refine tz_iald C dX10_wordOf_34 (by decide) rfl hin_2 ?_
    refine tz_iload_n 2 2 C dX10_wordOf_35 rfl rfl ?_
    refine tz_iadd C dX10_wordOf_36 ?_
    obtain ⟨hin_6, h⟩ := h
    refine tz_iald C dX10_wordOf_37 (by decide) rfl hin_6 ?_
    refine tz_goto 43 C dX10_wordOf_38 (by decide) ?_
    exact hret _ _ _ _ dX10_wordOf_43 h

def vc_X10_word (x1 : Int32) (x2 : Int32) (σ : tzS) (Q : Int32 → tzS → Prop) : Prop :=
  vc_X10_isSentence x1 σ (fun (r_2 : Int32) (σ_1 : tzS) =>
    (r_2 = 0 →
      Q (-2) σ_1) ∧
    (¬ r_2 = 0 →
      vc_X10_wordOf x1 x2 σ_1 (fun (r_5 : Int32) (σ_4 : tzS) =>
        Q r_5 σ_4)))
set_option maxRecDepth 20000 in
set_option maxHeartbeats 4000000 in
theorem m_X10_word (G : tzG) (hG : tz_ok G) {x1 : Int32} {x2 : Int32}  {σ : tzS} {Q : Int32 → tzS → Prop} (h : vc_X10_word x1 x2 σ Q) : tz_M G yX10_word cX10_word 3 (some .int) 5 116 [.ref 133, .int x1, .int x2] σ (tz_Qi G Q) := by
  unfold vc_X10_word at h
  refine tz_starti hG RX10 [(0, .ref 133), (1, .int x1), (2, .int x2)] (by decide) rfl (Nat.le_of_ble_eq_true rfl) rfl (fun E C hret => ?_)
  refine tz_aload_n 0 0 C dX10_word_0 rfl rfl ?_
  refine tz_iload_n 1 1 C dX10_word_1 rfl rfl ?_
  refine tz_calliv C dX10_word_2 lk_RX10_165 (m_X10_isSentence G hG  h) (by decide) rfl rfl rfl rfl ⟨Nat.le_of_ble_eq_true rfl, Nat.le_of_ble_eq_true rfl⟩ (Nat.le_of_ble_eq_true rfl) rfl (fun r_2 σ_1 h => ?_)
  refine tz_if_eq 17 C dX10_word_5 (by decide) h (fun c_3 h => ?_) (fun c_3 h => ?_)
  · refine tz_bipush (-2) (by decide) C dX10_word_17 ?_
    exact hret _ _ _ _ dX10_word_19 h
  · refine tz_aload_n 0 0 C dX10_word_8 rfl rfl ?_
    refine tz_iload_n 1 1 C dX10_word_9 rfl rfl ?_
    refine tz_iload_n 2 2 C dX10_word_10 rfl rfl ?_
    refine tz_calliv C dX10_word_11 lk_RX10_172 (m_X10_wordOf G hG  h) (by decide) rfl rfl rfl rfl ⟨Nat.le_of_ble_eq_true rfl, Nat.le_of_ble_eq_true rfl⟩ (Nat.le_of_ble_eq_true rfl) rfl (fun r_5 σ_4 h => ?_)
    refine tz_goto 19 C dX10_word_14 (by decide) ?_
    exact hret _ _ _ _ dX10_word_19 h

def vc_X10_isStem (x1 : Int32) (σ : tzS) (Q : Int32 → tzS → Prop) : Prop :=
  vc_X10_reads  σ (fun (σ_1 : tzS) =>
    vc_X10_in x1 0 ((σ_1.1 133 9) - 1) σ_1 (fun (r_3 : Int32) (σ_2 : tzS) =>
      tz_bool r_3 ∧ Q r_3 σ_2))
set_option maxRecDepth 20000 in
set_option maxHeartbeats 4000000 in
theorem m_X10_isStem (G : tzG) (hG : tz_ok G) {x1 : Int32}  {σ : tzS} {Q : Int32 → tzS → Prop} (h : vc_X10_isStem x1 σ Q) : tz_M G yX10_isStem cX10_isStem 2 (some .boolean) 4 95 [.ref 133, .int x1] σ (tz_Qi G Q) := by
  unfold vc_X10_isStem at h
  refine tz_startz hG RX10 [(0, .ref 133), (1, .int x1)] (by decide) rfl (Nat.le_of_ble_eq_true rfl) rfl (fun E C hret => ?_)
  refine tz_aload_n 0 0 C dX10_isStem_0 rfl rfl ?_
  refine tz_callvv C dX10_isStem_1 lk_RX10_147 (m_X10_reads G hG  h) (by decide) rfl rfl rfl rfl ⟨Nat.le_of_ble_eq_true rfl, Nat.le_of_ble_eq_true rfl⟩ (Nat.le_of_ble_eq_true rfl) rfl (fun σ_1 h => ?_)
  refine tz_iload_n 1 1 C dX10_isStem_4 rfl rfl ?_
  refine tz_iconst 0 (by decide) C dX10_isStem_5 ?_
  refine tz_aload_n 0 0 C dX10_isStem_6 rfl rfl ?_
  refine tz_getI C dX10_isStem_7 fl_RX10_135 (by decide) rfl rfl ?_
  refine tz_iconst 1 (by decide) C dX10_isStem_10 ?_
  refine tz_isub C dX10_isStem_11 ?_
  refine tz_callis C dX10_isStem_12 lk_RX10_77 (m_X10_in G hG  h) rfl ⟨Nat.le_of_ble_eq_true rfl, Nat.le_of_ble_eq_true rfl⟩ (Nat.le_of_ble_eq_true rfl) rfl (fun r_3 σ_2 h => ?_)
  exact hret _ _ _ _ dX10_isStem_15 (tz_narz h.1) h.2

def vc_X10_stemOf (x1 : Int32) (x2 : Int32) (σ : tzS) (Q : Int32 → tzS → Prop) : Prop :=
  tz_loop4 (fun (x3_3 : Int32) (x4_4 : Int32) (x5_5 : Int32) (x6_6 : Int32) (σ_2 : tzS) (ag_1 : Int32 → Int32 → Int32 → Int32 → tzS → Prop) =>
    ((σ_2.1 133 7) ≤ x6_6 →
      (¬ x2 = 0 →
        (¬ x2 = 1 →
          (¬ x2 = 2 →
            Q x5_5 σ_2) ∧
          (x2 = 2 →
            Q x4_4 σ_2)) ∧
        (x2 = 1 →
          Q x3_3 σ_2)) ∧
      (x2 = 0 →
        vp_in x1 110 ∧ (
          Q (σ_2.1 141 x1.toNatClampNeg) σ_2))) ∧
    (¬ (σ_2.1 133 7) ≤ x6_6 →
      vp_in ((110 * x6_6) + x1) 1320 ∧ (
        ∀ x7_13 : Int32, x7_13 = (σ_2.1 143 ((110 * x6_6) + x1).toNatClampNeg) →
        ∀ x3_14 : Int32, x3_14 = (x3_3 + x7_13) →
        (x7_13 ≤ 0 →
          ∀ x6_16 : Int32, x6_16 = x6_6 + 1 →
          ag_1 x3_14 x4_4 x5_5 x6_16 σ_2) ∧
        (¬ x7_13 ≤ 0 →
          (¬ x4_4 = (-1) →
            ∀ x6_18 : Int32, x6_18 = x6_6 + 1 →
            ag_1 x3_14 x4_4 x6_6 x6_18 σ_2) ∧
          (x4_4 = (-1) →
            ∀ x6_19 : Int32, x6_19 = x6_6 + 1 →
            ag_1 x3_14 x6_6 x6_6 x6_19 σ_2))))) (0 : Int32) ((-1) : Int32) ((-1) : Int32) (0 : Int32) σ
set_option maxRecDepth 20000 in
set_option maxHeartbeats 4000000 in
theorem m_X10_stemOf (G : tzG) (hG : tz_ok G) {x1 : Int32} {x2 : Int32}  {σ : tzS} {Q : Int32 → tzS → Prop} (h : vc_X10_stemOf x1 x2 σ Q) : tz_M G yX10_stemOf cX10_stemOf 8 (some .int) 0 0 [.ref 133, .int x1, .int x2] σ (tz_Qi G Q) := by
  unfold vc_X10_stemOf at h
  refine tz_starti hG RX10 [(0, .ref 133), (1, .int x1), (2, .int x2)] (by decide) rfl (Nat.le_of_ble_eq_true rfl) rfl (fun E C hret => ?_)
  refine tz_iconst 0 (by decide) C dX10_stemOf_0 ?_
  refine tz_istore_n_k 3 [(0, .ref 133), (1, .int x1), (2, .int x2)] C dX10_stemOf_1 rfl (Nat.le_of_ble_eq_true rfl) rfl ?_
  refine tz_iconst (-1) (by decide) C dX10_stemOf_2 ?_
  refine tz_istore_k [(3, .int 0), (0, .ref 133), (1, .int x1), (2, .int x2)] C dX10_stemOf_3 (Nat.le_of_ble_eq_true rfl) rfl ?_
  refine tz_iconst (-1) (by decide) C dX10_stemOf_5 ?_
  refine tz_istore_k [(4, .int (-1)), (3, .int 0), (0, .ref 133), (1, .int x1), (2, .int x2)] C dX10_stemOf_6 (Nat.le_of_ble_eq_true rfl) rfl ?_
  refine tz_iconst 0 (by decide) C dX10_stemOf_8 ?_
  refine tz_istore_k [(5, .int (-1)), (4, .int (-1)), (3, .int 0), (0, .ref 133), (1, .int x1), (2, .int x2)] C dX10_stemOf_9 (Nat.le_of_ble_eq_true rfl) rfl ?_
  refine tz_sub (L := [(0, .ref 133), (1, .int x1), (2, .int x2), (3, .int 0), (4, .int (-1)), (5, .int (-1)), (6, .int 0)]) ?_ [4, 5, 6, 3, 2, 1, 0] rfl
  refine tz_loop4_w (V := fun (x3_3 : Int32) (x4_4 : Int32) (x5_5 : Int32) (x6_6 : Int32) (σ_2 : tzS) => tz_V G E 11 [(0, .ref 133), (1, .int x1), (2, .int x2), (3, .int x3_3), (4, .int x4_4), (5, .int x5_5), (6, .int x6_6)] [] σ_2) h (fun ag_1 ihag_1 x3_3 x4_4 x5_5 x6_6 σ_2 h => ?_)
  refine tz_iload 6 C dX10_stemOf_11 rfl ?_
  refine tz_aload_n 0 0 C dX10_stemOf_13 rfl rfl ?_
  refine tz_getI C dX10_stemOf_14 fl_RX10_109 (by decide) rfl rfl ?_
  refine tz_icmp_ge 79 C dX10_stemOf_17 (by decide) h (fun c_7 h => ?_) (fun c_7 h => ?_)
  · refine tz_iload_n 2 2 C dX10_stemOf_79 rfl rfl ?_
    refine tz_if_ne 92 C dX10_stemOf_80 (by decide) h (fun c_8 h => ?_) (fun c_8 h => ?_)
    · refine tz_iload_n 2 2 C dX10_stemOf_92 rfl rfl ?_
      refine tz_iconst 1 (by decide) C dX10_stemOf_93 ?_
      refine tz_icmp_ne 101 C dX10_stemOf_94 (by decide) h (fun c_9 h => ?_) (fun c_9 h => ?_)
      · refine tz_iload_n 2 2 C dX10_stemOf_101 rfl rfl ?_
        refine tz_iconst 2 (by decide) C dX10_stemOf_102 ?_
        refine tz_icmp_ne 111 C dX10_stemOf_103 (by decide) h (fun c_10 h => ?_) (fun c_10 h => ?_)
        · refine tz_iload 5 C dX10_stemOf_111 rfl ?_
          exact hret _ _ _ _ dX10_stemOf_113 h
        · refine tz_iload 4 C dX10_stemOf_106 rfl ?_
          refine tz_goto 113 C dX10_stemOf_108 (by decide) ?_
          exact hret _ _ _ _ dX10_stemOf_113 h
      · refine tz_iload_n 3 3 C dX10_stemOf_97 rfl rfl ?_
        refine tz_goto 113 C dX10_stemOf_98 (by decide) ?_
        exact hret _ _ _ _ dX10_stemOf_113 h
    · refine tz_aload_n 0 0 C dX10_stemOf_83 rfl rfl ?_
      refine tz_getR C dX10_stemOf_84 fl_RX10_31 (by decide) rfl rfl ?_
      refine tz_iload_n 1 1 C dX10_stemOf_87 rfl rfl ?_
      obtain ⟨hin_11, h⟩ := h
      refine tz_iald C dX10_stemOf_88 (by decide) rfl hin_11 ?_
      refine tz_goto 113 C dX10_stemOf_89 (by decide) ?_
      exact hret _ _ _ _ dX10_stemOf_113 h
  · refine tz_aload_n 0 0 C dX10_stemOf_20 rfl rfl ?_
    refine tz_getR C dX10_stemOf_21 fl_RX10_37 (by decide) rfl rfl ?_
    refine tz_bipush 110 (by decide) C dX10_stemOf_24 ?_
    refine tz_iload 6 C dX10_stemOf_26 rfl ?_
    refine tz_imul C dX10_stemOf_28 ?_
    refine tz_iload_n 1 1 C dX10_stemOf_29 rfl rfl ?_
    refine tz_iadd C dX10_stemOf_30 ?_
    obtain ⟨hin_12, h⟩ := h
    refine tz_iald C dX10_stemOf_31 (by decide) rfl hin_12 ?_
    refine tz_istore [(0, .ref 133), (1, .int x1), (2, .int x2), (3, .int x3_3), (4, .int x4_4), (5, .int x5_5), (6, .int x6_6)] C dX10_stemOf_32 (Nat.le_of_ble_eq_true rfl) rfl h (fun x7_13 h => ?_)
    refine tz_iload_n 3 4 C dX10_stemOf_34 rfl rfl ?_
    refine tz_iload 0 C dX10_stemOf_35 rfl ?_
    refine tz_iadd C dX10_stemOf_37 ?_
    refine tz_istore_n 3 [(7, .int x7_13), (0, .ref 133), (1, .int x1), (2, .int x2), (4, .int x4_4), (5, .int x5_5), (6, .int x6_6)] C dX10_stemOf_38 rfl (Nat.le_of_ble_eq_true rfl) rfl h (fun x3_14 h => ?_)
    refine tz_iload 1 C dX10_stemOf_39 rfl ?_
    refine tz_if_le 55 C dX10_stemOf_41 (by decide) h (fun c_15 h => ?_) (fun c_15 h => ?_)
    · refine tz_iload 5 C dX10_stemOf_55 rfl ?_
      refine tz_istore_k [(3, .int x3_14), (7, .int x7_13), (0, .ref 133), (1, .int x1), (2, .int x2), (5, .int x5_5), (6, .int x6_6)] C dX10_stemOf_57 (Nat.le_of_ble_eq_true rfl) rfl ?_
      refine tz_iload 2 C dX10_stemOf_59 rfl ?_
      refine tz_if_le_t 69 C dX10_stemOf_61 (by decide) c_15 ?_
      refine tz_iload 6 C dX10_stemOf_69 rfl ?_
      refine tz_istore_k [(4, .int x4_4), (3, .int x3_14), (7, .int x7_13), (0, .ref 133), (1, .int x1), (2, .int x2), (6, .int x6_6)] C dX10_stemOf_71 (Nat.le_of_ble_eq_true rfl) rfl ?_
      refine tz_iinc 7 [(5, .int x5_5), (4, .int x4_4), (3, .int x3_14), (7, .int x7_13), (0, .ref 133), (1, .int x1), (2, .int x2)] 1 C dX10_stemOf_73 (by decide) rfl (Nat.le_of_ble_eq_true rfl) rfl h (fun x6_16 h => ?_)
      refine tz_goto 11 C dX10_stemOf_76 (by decide) ?_
      exact tz_sub (ihag_1 _ _ _ _ _ h) [5, 6, 7, 3, 2, 1, 0] rfl
    · refine tz_iload 5 C dX10_stemOf_44 rfl ?_
      refine tz_iconst (-1) (by decide) C dX10_stemOf_46 ?_
      refine tz_icmp_ne 55 C dX10_stemOf_47 (by decide) h (fun c_17 h => ?_) (fun c_17 h => ?_)
      · refine tz_iload 5 C dX10_stemOf_55 rfl ?_
        refine tz_istore_k [(3, .int x3_14), (7, .int x7_13), (0, .ref 133), (1, .int x1), (2, .int x2), (5, .int x5_5), (6, .int x6_6)] C dX10_stemOf_57 (Nat.le_of_ble_eq_true rfl) rfl ?_
        refine tz_iload 2 C dX10_stemOf_59 rfl ?_
        refine tz_if_le_f 69 C dX10_stemOf_61 (by decide) c_15 ?_
        refine tz_iload 7 C dX10_stemOf_64 rfl ?_
        refine tz_goto 71 C dX10_stemOf_66 (by decide) ?_
        refine tz_istore_k [(4, .int x4_4), (3, .int x3_14), (7, .int x7_13), (0, .ref 133), (1, .int x1), (2, .int x2), (6, .int x6_6)] C dX10_stemOf_71 (Nat.le_of_ble_eq_true rfl) rfl ?_
        refine tz_iinc 7 [(5, .int x6_6), (4, .int x4_4), (3, .int x3_14), (7, .int x7_13), (0, .ref 133), (1, .int x1), (2, .int x2)] 1 C dX10_stemOf_73 (by decide) rfl (Nat.le_of_ble_eq_true rfl) rfl h (fun x6_18 h => ?_)
        refine tz_goto 11 C dX10_stemOf_76 (by decide) ?_
        exact tz_sub (ihag_1 _ _ _ _ _ h) [5, 6, 7, 3, 2, 1, 0] rfl
      · refine tz_iload 7 C dX10_stemOf_50 rfl ?_
        refine tz_goto 57 C dX10_stemOf_52 (by decide) ?_
        refine tz_istore_k [(3, .int x3_14), (7, .int x7_13), (0, .ref 133), (1, .int x1), (2, .int x2), (5, .int x5_5), (6, .int x6_6)] C dX10_stemOf_57 (Nat.le_of_ble_eq_true rfl) rfl ?_
        refine tz_iload 2 C dX10_stemOf_59 rfl ?_
        refine tz_if_le_f 69 C dX10_stemOf_61 (by decide) c_15 ?_
        refine tz_iload 7 C dX10_stemOf_64 rfl ?_
        refine tz_goto 71 C dX10_stemOf_66 (by decide) ?_
        refine tz_istore_k [(4, .int x6_6), (3, .int x3_14), (7, .int x7_13), (0, .ref 133), (1, .int x1), (2, .int x2), (6, .int x6_6)] C dX10_stemOf_71 (Nat.le_of_ble_eq_true rfl) rfl ?_
        refine tz_iinc 7 [(5, .int x6_6), (4, .int x6_6), (3, .int x3_14), (7, .int x7_13), (0, .ref 133), (1, .int x1), (2, .int x2)] 1 C dX10_stemOf_73 (by decide) rfl (Nat.le_of_ble_eq_true rfl) rfl h (fun x6_19 h => ?_)
        refine tz_goto 11 C dX10_stemOf_76 (by decide) ?_
        exact tz_sub (ihag_1 _ _ _ _ _ h) [5, 6, 7, 3, 2, 1, 0] rfl

def vc_X10_stem (x1 : Int32) (x2 : Int32) (σ : tzS) (Q : Int32 → tzS → Prop) : Prop :=
  vc_X10_isStem x1 σ (fun (r_2 : Int32) (σ_1 : tzS) =>
    (r_2 = 0 →
      Q (-2) σ_1) ∧
    (¬ r_2 = 0 →
      vc_X10_in x2 0 3 σ_1 (fun (r_5 : Int32) (σ_4 : tzS) =>
        (r_5 = 0 →
          Q (-2) σ_4) ∧
        (¬ r_5 = 0 →
          vc_X10_stemOf x1 x2 σ_4 (fun (r_8 : Int32) (σ_7 : tzS) =>
            Q r_8 σ_7)))))
set_option maxRecDepth 20000 in
set_option maxHeartbeats 4000000 in
theorem m_X10_stem (G : tzG) (hG : tz_ok G) {x1 : Int32} {x2 : Int32}  {σ : tzS} {Q : Int32 → tzS → Prop} (h : vc_X10_stem x1 x2 σ Q) : tz_M G yX10_stem cX10_stem 3 (some .int) 5 116 [.ref 133, .int x1, .int x2] σ (tz_Qi G Q) := by
  unfold vc_X10_stem at h
  refine tz_starti hG RX10 [(0, .ref 133), (1, .int x1), (2, .int x2)] (by decide) rfl (Nat.le_of_ble_eq_true rfl) rfl (fun E C hret => ?_)
  refine tz_aload_n 0 0 C dX10_stem_0 rfl rfl ?_
  refine tz_iload_n 1 1 C dX10_stem_1 rfl rfl ?_
  refine tz_calliv C dX10_stem_2 lk_RX10_175 (m_X10_isStem G hG  h) (by decide) rfl rfl rfl rfl ⟨Nat.le_of_ble_eq_true rfl, Nat.le_of_ble_eq_true rfl⟩ (Nat.le_of_ble_eq_true rfl) rfl (fun r_2 σ_1 h => ?_)
  refine tz_if_eq 26 C dX10_stem_5 (by decide) h (fun c_3 h => ?_) (fun c_3 h => ?_)
  · refine tz_bipush (-2) (by decide) C dX10_stem_26 ?_
    exact hret _ _ _ _ dX10_stem_28 h
  · refine tz_iload_n 2 2 C dX10_stem_8 rfl rfl ?_
    refine tz_iconst 0 (by decide) C dX10_stem_9 ?_
    refine tz_iconst 3 (by decide) C dX10_stem_10 ?_
    refine tz_callis C dX10_stem_11 lk_RX10_77 (m_X10_in G hG  h) rfl ⟨Nat.le_of_ble_eq_true rfl, Nat.le_of_ble_eq_true rfl⟩ (Nat.le_of_ble_eq_true rfl) rfl (fun r_5 σ_4 h => ?_)
    refine tz_if_eq 26 C dX10_stem_14 (by decide) h (fun c_6 h => ?_) (fun c_6 h => ?_)
    · refine tz_bipush (-2) (by decide) C dX10_stem_26 ?_
      exact hret _ _ _ _ dX10_stem_28 h
    · refine tz_aload_n 0 0 C dX10_stem_17 rfl rfl ?_
      refine tz_iload_n 1 1 C dX10_stem_18 rfl rfl ?_
      refine tz_iload_n 2 2 C dX10_stem_19 rfl rfl ?_
      refine tz_calliv C dX10_stem_20 lk_RX10_178 (m_X10_stemOf G hG  h) (by decide) rfl rfl rfl rfl ⟨Nat.le_of_ble_eq_true rfl, Nat.le_of_ble_eq_true rfl⟩ (Nat.le_of_ble_eq_true rfl) rfl (fun r_8 σ_7 h => ?_)
      refine tz_goto 28 C dX10_stem_23 (by decide) ?_
      exact hret _ _ _ _ dX10_stem_28 h

def vc_X10_letterOf (x1 : Int32) (x2 : Int32) (σ : tzS) (Q : Int32 → tzS → Prop) : Prop :=
  vp_in x1 110 ∧ (
    vc_X10_in x2 0 ((σ.1 141 x1.toNatClampNeg) - 1) σ (fun (r_3 : Int32) (σ_2 : tzS) =>
      (r_3 = 0 →
        Q (-2) σ_2) ∧
      (¬ r_3 = 0 →
        vp_in ((σ_2.1 140 x1.toNatClampNeg) + x2) 200 ∧ (
          Q (σ_2.1 134 ((σ_2.1 140 x1.toNatClampNeg) + x2).toNatClampNeg) σ_2))))
set_option maxRecDepth 20000 in
set_option maxHeartbeats 4000000 in
theorem m_X10_letterOf (G : tzG) (hG : tz_ok G) {x1 : Int32} {x2 : Int32}  {σ : tzS} {Q : Int32 → tzS → Prop} (h : vc_X10_letterOf x1 x2 σ Q) : tz_M G yX10_letterOf cX10_letterOf 3 (some .int) 1 22 [.ref 133, .int x1, .int x2] σ (tz_Qi G Q) := by
  unfold vc_X10_letterOf at h
  refine tz_starti hG RX10 [(0, .ref 133), (1, .int x1), (2, .int x2)] (by decide) rfl (Nat.le_of_ble_eq_true rfl) rfl (fun E C hret => ?_)
  refine tz_iload_n 2 2 C dX10_letterOf_0 rfl rfl ?_
  refine tz_iconst 0 (by decide) C dX10_letterOf_1 ?_
  refine tz_aload_n 0 0 C dX10_letterOf_2 rfl rfl ?_
  refine tz_getR C dX10_letterOf_3 fl_RX10_31 (by decide) rfl rfl ?_
  refine tz_iload_n 1 1 C dX10_letterOf_6 rfl rfl ?_
  obtain ⟨hin_1, h⟩ := h
  refine tz_iald C dX10_letterOf_7 (by decide) rfl hin_1 ?_
  refine tz_iconst 1 (by decide) C dX10_letterOf_8 ?_
  refine tz_isub C dX10_letterOf_9 ?_
  refine tz_callis C dX10_letterOf_10 lk_RX10_77 (m_X10_in G hG  h) rfl ⟨Nat.le_of_ble_eq_true rfl, Nat.le_of_ble_eq_true rfl⟩ (Nat.le_of_ble_eq_true rfl) rfl (fun r_3 σ_2 h => ?_)
  refine tz_if_eq 32 C dX10_letterOf_13 (by decide) h (fun c_4 h => ?_) (fun c_4 h => ?_)
  · refine tz_bipush (-2) (by decide) C dX10_letterOf_32 ?_
    exact hret _ _ _ _ dX10_letterOf_34 h
  · refine tz_aload_n 0 0 C dX10_letterOf_16 rfl rfl ?_
    refine tz_getR C dX10_letterOf_17 fl_RX10_7 (by decide) rfl rfl ?_
    refine tz_aload_n 0 0 C dX10_letterOf_20 rfl rfl ?_
    refine tz_getR C dX10_letterOf_21 fl_RX10_28 (by decide) rfl rfl ?_
    refine tz_iload_n 1 1 C dX10_letterOf_24 rfl rfl ?_
    refine tz_iald C dX10_letterOf_25 (by decide) rfl hin_1 ?_
    refine tz_iload_n 2 2 C dX10_letterOf_26 rfl rfl ?_
    refine tz_iadd C dX10_letterOf_27 ?_
    obtain ⟨hin_5, h⟩ := h
    refine tz_iald C dX10_letterOf_28 (by decide) rfl hin_5 ?_
    refine tz_goto 34 C dX10_letterOf_29 (by decide) ?_
    exact hret _ _ _ _ dX10_letterOf_34 h

def vc_X10_letter (x1 : Int32) (x2 : Int32) (σ : tzS) (Q : Int32 → tzS → Prop) : Prop :=
  vc_X10_isStem x1 σ (fun (r_2 : Int32) (σ_1 : tzS) =>
    (r_2 = 0 →
      Q (-2) σ_1) ∧
    (¬ r_2 = 0 →
      vc_X10_letterOf x1 x2 σ_1 (fun (r_5 : Int32) (σ_4 : tzS) =>
        Q r_5 σ_4)))
set_option maxRecDepth 20000 in
set_option maxHeartbeats 4000000 in
theorem m_X10_letter (G : tzG) (hG : tz_ok G) {x1 : Int32} {x2 : Int32}  {σ : tzS} {Q : Int32 → tzS → Prop} (h : vc_X10_letter x1 x2 σ Q) : tz_M G yX10_letter cX10_letter 3 (some .int) 5 116 [.ref 133, .int x1, .int x2] σ (tz_Qi G Q) := by
  unfold vc_X10_letter at h
  refine tz_starti hG RX10 [(0, .ref 133), (1, .int x1), (2, .int x2)] (by decide) rfl (Nat.le_of_ble_eq_true rfl) rfl (fun E C hret => ?_)
  refine tz_aload_n 0 0 C dX10_letter_0 rfl rfl ?_
  refine tz_iload_n 1 1 C dX10_letter_1 rfl rfl ?_
  refine tz_calliv C dX10_letter_2 lk_RX10_175 (m_X10_isStem G hG  h) (by decide) rfl rfl rfl rfl ⟨Nat.le_of_ble_eq_true rfl, Nat.le_of_ble_eq_true rfl⟩ (Nat.le_of_ble_eq_true rfl) rfl (fun r_2 σ_1 h => ?_)
  refine tz_if_eq 17 C dX10_letter_5 (by decide) h (fun c_3 h => ?_) (fun c_3 h => ?_)
  · refine tz_bipush (-2) (by decide) C dX10_letter_17 ?_
    exact hret _ _ _ _ dX10_letter_19 h
  · refine tz_aload_n 0 0 C dX10_letter_8 rfl rfl ?_
    refine tz_iload_n 1 1 C dX10_letter_9 rfl rfl ?_
    refine tz_iload_n 2 2 C dX10_letter_10 rfl rfl ?_
    refine tz_calliv C dX10_letter_11 lk_RX10_181 (m_X10_letterOf G hG  h) (by decide) rfl rfl rfl rfl ⟨Nat.le_of_ble_eq_true rfl, Nat.le_of_ble_eq_true rfl⟩ (Nat.le_of_ble_eq_true rfl) rfl (fun r_5 σ_4 h => ?_)
    refine tz_goto 19 C dX10_letter_14 (by decide) ?_
    exact hret _ _ _ _ dX10_letter_19 h

def vc_X10_ends (x1 : Int32) (x2 : Int32) (x3 : Int32) (x4 : Int32) (σ : tzS) (Q : tzS → Prop) : Prop :=
  (x4 ≤ 1 →
    Q σ) ∧
  (¬ x4 ≤ 1 →
    vp_in (σ.1 133 22) 110 ∧ (
      ∀ σ_2 : tzS, σ_2 = tz_st σ 144 (σ.1 133 22).toNatClampNeg x1 →
      vp_in (σ_2.1 133 22) 110 ∧ (
        ∀ σ_4 : tzS, σ_4 = tz_st σ_2 145 (σ_2.1 133 22).toNatClampNeg x2 →
        vp_in (σ_4.1 133 22) 110 ∧ (
          ∀ σ_6 : tzS, σ_6 = tz_st σ_4 146 (σ_4.1 133 22).toNatClampNeg x3 →
          vp_in (σ_6.1 133 22) 110 ∧ (
            ∀ σ_8 : tzS, σ_8 = tz_st σ_6 147 (σ_6.1 133 22).toNatClampNeg x4 →
            ∀ σ_10 : tzS, σ_10 = tz_st σ_8 133 22 ((σ_8.1 133 22) + 1) →
            Q σ_10)))))
set_option maxRecDepth 20000 in
set_option maxHeartbeats 4000000 in
theorem m_X10_ends (G : tzG) (hG : tz_ok G) {x1 : Int32} {x2 : Int32} {x3 : Int32} {x4 : Int32}  {σ : tzS} {Q : tzS → Prop} (h : vc_X10_ends x1 x2 x3 x4 σ Q) : tz_M G yX10_ends cX10_ends 5 (none) 0 0 [.ref 133, .int x1, .int x2, .int x3, .int x4] σ (tz_Qv G Q) := by
  unfold vc_X10_ends at h
  refine tz_startv hG RX10 [(0, .ref 133), (1, .int x1), (2, .int x2), (3, .int x3), (4, .int x4)] (by decide) rfl (Nat.le_of_ble_eq_true rfl) rfl (fun E C hret => ?_)
  refine tz_iload 4 C dX10_ends_0 rfl ?_
  refine tz_iconst 1 (by decide) C dX10_ends_2 ?_
  refine tz_icmp_le 57 C dX10_ends_3 (by decide) h (fun c_1 h => ?_) (fun c_1 h => ?_)
  · exact hret _ _ _ dX10_ends_57 h
  · refine tz_aload_n 0 0 C dX10_ends_6 rfl rfl ?_
    refine tz_getR C dX10_ends_7 fl_RX10_40 (by decide) rfl rfl ?_
    refine tz_aload_n 0 0 C dX10_ends_10 rfl rfl ?_
    refine tz_getI C dX10_ends_11 fl_RX10_184 (by decide) rfl rfl ?_
    refine tz_iload_n 1 1 C dX10_ends_14 rfl rfl ?_
    have hin_3 := h.1
    refine tz_iast C dX10_ends_15 (by decide) rfl h (fun σ_2 h => ?_)
    refine tz_aload_n 0 0 C dX10_ends_16 rfl rfl ?_
    refine tz_getR C dX10_ends_17 fl_RX10_43 (by decide) rfl rfl ?_
    refine tz_aload_n 0 0 C dX10_ends_20 rfl rfl ?_
    refine tz_getI C dX10_ends_21 fl_RX10_184 (by decide) rfl rfl ?_
    refine tz_iload_n 2 2 C dX10_ends_24 rfl rfl ?_
    have hin_5 := h.1
    refine tz_iast C dX10_ends_25 (by decide) rfl h (fun σ_4 h => ?_)
    refine tz_aload_n 0 0 C dX10_ends_26 rfl rfl ?_
    refine tz_getR C dX10_ends_27 fl_RX10_46 (by decide) rfl rfl ?_
    refine tz_aload_n 0 0 C dX10_ends_30 rfl rfl ?_
    refine tz_getI C dX10_ends_31 fl_RX10_184 (by decide) rfl rfl ?_
    refine tz_iload_n 3 3 C dX10_ends_34 rfl rfl ?_
    have hin_7 := h.1
    refine tz_iast C dX10_ends_35 (by decide) rfl h (fun σ_6 h => ?_)
    refine tz_aload_n 0 0 C dX10_ends_36 rfl rfl ?_
    refine tz_getR C dX10_ends_37 fl_RX10_49 (by decide) rfl rfl ?_
    refine tz_aload_n 0 0 C dX10_ends_40 rfl rfl ?_
    refine tz_getI C dX10_ends_41 fl_RX10_184 (by decide) rfl rfl ?_
    refine tz_iload 4 C dX10_ends_44 rfl ?_
    have hin_9 := h.1
    refine tz_iast C dX10_ends_46 (by decide) rfl h (fun σ_8 h => ?_)
    refine tz_aload_n 0 0 C dX10_ends_47 rfl rfl ?_
    refine tz_dup C dX10_ends_48 rfl ?_
    refine tz_getI C dX10_ends_49 fl_RX10_184 (by decide) rfl rfl ?_
    refine tz_iconst 1 (by decide) C dX10_ends_52 ?_
    refine tz_iadd C dX10_ends_53 ?_
    refine tz_put C dX10_ends_54 fp_RX10_184 (by decide) rfl rfl rfl rfl h (fun σ_10 h => ?_)
    exact hret _ _ _ dX10_ends_57 h

def vc_X10_findsChains  (σ : tzS) (Q : tzS → Prop) : Prop :=
  vc_X10_reads  σ (fun (σ_1 : tzS) =>
    ∀ σ_2 : tzS, σ_2 = tz_st σ_1 133 22 0 →
    tz_loop1 (fun (x1_5 : Int32) (σ_4 : tzS) (ag_3 : Int32 → tzS → Prop) =>
      ((σ_4.1 133 9) ≤ x1_5 →
        Q σ_4) ∧
      (¬ (σ_4.1 133 9) ≤ x1_5 →
        tz_loop4 (fun (x2_9 : Int32) (x3_10 : Int32) (x4_11 : Int32) (x5_12 : Int32) (σ_8 : tzS) (ag_7 : Int32 → Int32 → Int32 → Int32 → tzS → Prop) =>
          ((σ_8.1 133 7) ≤ x5_12 →
            vc_X10_ends x1_5 x2_9 x3_10 x4_11 σ_8 (fun (σ_14 : tzS) =>
              ∀ x1_15 : Int32, x1_15 = x1_5 + 1 →
              ag_3 x1_15 σ_14)) ∧
          (¬ (σ_8.1 133 7) ≤ x5_12 →
            vp_in ((110 * x5_12) + x1_5) 1320 ∧ (
              ∀ x6_17 : Int32, x6_17 = (σ_8.1 143 ((110 * x5_12) + x1_5).toNatClampNeg) →
              (x6_17 ≤ 0 →
                ∀ x5_19 : Int32, x5_19 = x5_12 + 1 →
                ag_7 x2_9 x3_10 x4_11 x5_19 σ_8) ∧
              (¬ x6_17 ≤ 0 →
                tz_join2 (fun (x2_22 : Int32) (x4_23 : Int32) (σ_21 : tzS) =>
                  (¬ x2_22 = (-1) →
                    ∀ x4_25 : Int32, x4_25 = (x4_23 + x6_17) →
                    ∀ x5_26 : Int32, x5_26 = x5_12 + 1 →
                    ag_7 x2_22 x5_12 x4_25 x5_26 σ_21) ∧
                  (x2_22 = (-1) →
                    ∀ x4_27 : Int32, x4_27 = (x4_23 + x6_17) →
                    ∀ x5_28 : Int32, x5_28 = x5_12 + 1 →
                    ag_7 x5_12 x5_12 x4_27 x5_28 σ_21)) (fun (K_20 : Int32 → Int32 → tzS → Prop) =>
                  (x2_9 = (-1) →
                    K_20 x2_9 x4_11 σ_8) ∧
                  (¬ x2_9 = (-1) →
                    ((x5_12 - x3_10) ≤ (σ_8.1 135 2) →
                      K_20 x2_9 x4_11 σ_8) ∧
                    (¬ (x5_12 - x3_10) ≤ (σ_8.1 135 2) →
                      vc_X10_ends x1_5 x2_9 x3_10 x4_11 σ_8 (fun (σ_31 : tzS) =>
                        K_20 (-1) 0 σ_31)))))))) ((-1) : Int32) ((-1) : Int32) (0 : Int32) (0 : Int32) σ_4)) (0 : Int32) σ_2)
set_option maxRecDepth 20000 in
set_option maxHeartbeats 4000000 in
theorem m_X10_findsChains (G : tzG) (hG : tz_ok G)   {σ : tzS} {Q : tzS → Prop} (h : vc_X10_findsChains  σ Q) : tz_M G yX10_findsChains cX10_findsChains 7 (none) 4 95 [.ref 133] σ (tz_Qv G Q) := by
  unfold vc_X10_findsChains at h
  refine tz_startv hG RX10 [(0, .ref 133)] (by decide) rfl (Nat.le_of_ble_eq_true rfl) rfl (fun E C hret => ?_)
  refine tz_aload_n 0 0 C dX10_findsChains_0 rfl rfl ?_
  refine tz_callvv C dX10_findsChains_1 lk_RX10_147 (m_X10_reads G hG  h) (by decide) rfl rfl rfl rfl ⟨Nat.le_of_ble_eq_true rfl, Nat.le_of_ble_eq_true rfl⟩ (Nat.le_of_ble_eq_true rfl) rfl (fun σ_1 h => ?_)
  refine tz_aload_n 0 0 C dX10_findsChains_4 rfl rfl ?_
  refine tz_iconst 0 (by decide) C dX10_findsChains_5 ?_
  refine tz_put C dX10_findsChains_6 fp_RX10_184 (by decide) rfl rfl rfl rfl h (fun σ_2 h => ?_)
  refine tz_iconst 0 (by decide) C dX10_findsChains_9 ?_
  refine tz_istore_n_k 1 [(0, .ref 133)] C dX10_findsChains_10 rfl (Nat.le_of_ble_eq_true rfl) rfl ?_
  refine tz_sub (L := [(0, .ref 133), (1, .int 0)]) ?_ [1, 0] rfl
  refine tz_loop1_w (V := fun (x1_5 : Int32) (σ_4 : tzS) => tz_V G E 11 [(0, .ref 133), (1, .int x1_5)] [] σ_4) h (fun ag_3 ihag_3 x1_5 σ_4 h => ?_)
  refine tz_iload_n 1 1 C dX10_findsChains_11 rfl rfl ?_
  refine tz_aload_n 0 0 C dX10_findsChains_12 rfl rfl ?_
  refine tz_getI C dX10_findsChains_13 fl_RX10_135 (by decide) rfl rfl ?_
  refine tz_icmp_ge 132 C dX10_findsChains_16 (by decide) h (fun c_6 h => ?_) (fun c_6 h => ?_)
  · exact hret _ _ _ dX10_findsChains_132 h
  · refine tz_iconst (-1) (by decide) C dX10_findsChains_19 ?_
    refine tz_istore_n_k 2 [(0, .ref 133), (1, .int x1_5)] C dX10_findsChains_20 rfl (Nat.le_of_ble_eq_true rfl) rfl ?_
    refine tz_iconst (-1) (by decide) C dX10_findsChains_21 ?_
    refine tz_istore_n_k 3 [(2, .int (-1)), (0, .ref 133), (1, .int x1_5)] C dX10_findsChains_22 rfl (Nat.le_of_ble_eq_true rfl) rfl ?_
    refine tz_iconst 0 (by decide) C dX10_findsChains_23 ?_
    refine tz_istore_k [(3, .int (-1)), (2, .int (-1)), (0, .ref 133), (1, .int x1_5)] C dX10_findsChains_24 (Nat.le_of_ble_eq_true rfl) rfl ?_
    refine tz_iconst 0 (by decide) C dX10_findsChains_26 ?_
    refine tz_istore_k [(4, .int 0), (3, .int (-1)), (2, .int (-1)), (0, .ref 133), (1, .int x1_5)] C dX10_findsChains_27 (Nat.le_of_ble_eq_true rfl) rfl ?_
    refine tz_sub (L := [(0, .ref 133), (1, .int x1_5), (2, .int (-1)), (3, .int (-1)), (4, .int 0), (5, .int 0)]) ?_ [4, 5, 3, 2, 1, 0] rfl
    refine tz_loop4_w (V := fun (x2_9 : Int32) (x3_10 : Int32) (x4_11 : Int32) (x5_12 : Int32) (σ_8 : tzS) => tz_V G E 29 [(0, .ref 133), (1, .int x1_5), (2, .int x2_9), (3, .int x3_10), (4, .int x4_11), (5, .int x5_12)] [] σ_8) h (fun ag_7 ihag_7 x2_9 x3_10 x4_11 x5_12 σ_8 h => ?_)
    refine tz_iload 5 C dX10_findsChains_29 rfl ?_
    refine tz_aload_n 0 0 C dX10_findsChains_31 rfl rfl ?_
    refine tz_getI C dX10_findsChains_32 fl_RX10_109 (by decide) rfl rfl ?_
    refine tz_icmp_ge 117 C dX10_findsChains_35 (by decide) h (fun c_13 h => ?_) (fun c_13 h => ?_)
    · refine tz_aload_n 0 0 C dX10_findsChains_117 rfl rfl ?_
      refine tz_iload_n 1 1 C dX10_findsChains_118 rfl rfl ?_
      refine tz_iload_n 2 2 C dX10_findsChains_119 rfl rfl ?_
      refine tz_iload_n 3 3 C dX10_findsChains_120 rfl rfl ?_
      refine tz_iload 4 C dX10_findsChains_121 rfl ?_
      refine tz_callvv C dX10_findsChains_123 lk_RX10_187 (m_X10_ends G hG  h) (by decide) rfl rfl rfl rfl ⟨Nat.le_of_ble_eq_true rfl, Nat.le_of_ble_eq_true rfl⟩ (Nat.le_of_ble_eq_true rfl) rfl (fun σ_14 h => ?_)
      refine tz_iinc 1 [(0, .ref 133), (2, .int x2_9), (3, .int x3_10), (4, .int x4_11), (5, .int x5_12)] 1 C dX10_findsChains_126 (by decide) rfl (Nat.le_of_ble_eq_true rfl) rfl h (fun x1_15 h => ?_)
      refine tz_goto 11 C dX10_findsChains_129 (by decide) ?_
      exact tz_sub (ihag_3 _ _ h) [1, 0] rfl
    · refine tz_aload_n 0 0 C dX10_findsChains_38 rfl rfl ?_
      refine tz_getR C dX10_findsChains_39 fl_RX10_37 (by decide) rfl rfl ?_
      refine tz_bipush 110 (by decide) C dX10_findsChains_42 ?_
      refine tz_iload 5 C dX10_findsChains_44 rfl ?_
      refine tz_imul C dX10_findsChains_46 ?_
      refine tz_iload_n 1 1 C dX10_findsChains_47 rfl rfl ?_
      refine tz_iadd C dX10_findsChains_48 ?_
      obtain ⟨hin_16, h⟩ := h
      refine tz_iald C dX10_findsChains_49 (by decide) rfl hin_16 ?_
      refine tz_istore [(0, .ref 133), (1, .int x1_5), (2, .int x2_9), (3, .int x3_10), (4, .int x4_11), (5, .int x5_12)] C dX10_findsChains_50 (Nat.le_of_ble_eq_true rfl) rfl h (fun x6_17 h => ?_)
      refine tz_iload 0 C dX10_findsChains_52 rfl ?_
      refine tz_if_le 111 C dX10_findsChains_54 (by decide) h (fun c_18 h => ?_) (fun c_18 h => ?_)
      · refine tz_iinc 6 [(6, .int x6_17), (0, .ref 133), (1, .int x1_5), (2, .int x2_9), (3, .int x3_10), (4, .int x4_11)] 1 C dX10_findsChains_111 (by decide) rfl (Nat.le_of_ble_eq_true rfl) rfl h (fun x5_19 h => ?_)
        refine tz_goto 29 C dX10_findsChains_114 (by decide) ?_
        exact tz_sub (ihag_7 _ _ _ _ _ h) [2, 3, 4, 5, 6, 0] rfl
      · refine tz_iload_n 2 3 C dX10_findsChains_57 rfl rfl ?_
        refine tz_iconst (-1) (by decide) C dX10_findsChains_58 ?_
        obtain ⟨K_20, hrK_20, h⟩ := h
        have hK_20 : ∀ (x2_22 : Int32) (x4_23 : Int32) (σ_21 : tzS), K_20 x2_22 x4_23 σ_21 → tz_V G E 89 [(0, .ref 133), (1, .int x1_5), (2, .int x2_22), (4, .int x4_23), (5, .int x5_12), (6, .int x6_17)] [] σ_21 := by
          intro x2_22 x4_23 σ_21 h
          replace h := hrK_20 x2_22 x4_23 σ_21 h
          refine tz_iload_n 2 2 C dX10_findsChains_89 rfl rfl ?_
          refine tz_iconst (-1) (by decide) C dX10_findsChains_90 ?_
          refine tz_icmp_ne 99 C dX10_findsChains_91 (by decide) h (fun c_24 h => ?_) (fun c_24 h => ?_)
          · refine tz_iload_n 2 2 C dX10_findsChains_99 rfl rfl ?_
            refine tz_istore_n_k 2 [(0, .ref 133), (1, .int x1_5), (4, .int x4_23), (5, .int x5_12), (6, .int x6_17)] C dX10_findsChains_100 rfl (Nat.le_of_ble_eq_true rfl) rfl ?_
            refine tz_iload 4 C dX10_findsChains_101 rfl ?_
            refine tz_istore_n_k 3 [(2, .int x2_22), (0, .ref 133), (1, .int x1_5), (4, .int x4_23), (5, .int x5_12), (6, .int x6_17)] C dX10_findsChains_103 rfl (Nat.le_of_ble_eq_true rfl) rfl ?_
            refine tz_iload 4 C dX10_findsChains_104 rfl ?_
            refine tz_iload 6 C dX10_findsChains_106 rfl ?_
            refine tz_iadd C dX10_findsChains_108 ?_
            refine tz_istore [(3, .int x5_12), (2, .int x2_22), (0, .ref 133), (1, .int x1_5), (5, .int x5_12), (6, .int x6_17)] C dX10_findsChains_109 (Nat.le_of_ble_eq_true rfl) rfl h (fun x4_25 h => ?_)
            refine tz_iinc 5 [(4, .int x4_25), (3, .int x5_12), (2, .int x2_22), (0, .ref 133), (1, .int x1_5), (6, .int x6_17)] 1 C dX10_findsChains_111 (by decide) rfl (Nat.le_of_ble_eq_true rfl) rfl h (fun x5_26 h => ?_)
            refine tz_goto 29 C dX10_findsChains_114 (by decide) ?_
            exact tz_sub (ihag_7 _ _ _ _ _ h) [4, 5, 3, 2, 1, 0] rfl
          · refine tz_iload 4 C dX10_findsChains_94 rfl ?_
            refine tz_goto 100 C dX10_findsChains_96 (by decide) ?_
            refine tz_istore_n_k 2 [(0, .ref 133), (1, .int x1_5), (4, .int x4_23), (5, .int x5_12), (6, .int x6_17)] C dX10_findsChains_100 rfl (Nat.le_of_ble_eq_true rfl) rfl ?_
            refine tz_iload 4 C dX10_findsChains_101 rfl ?_
            refine tz_istore_n_k 3 [(2, .int x5_12), (0, .ref 133), (1, .int x1_5), (4, .int x4_23), (5, .int x5_12), (6, .int x6_17)] C dX10_findsChains_103 rfl (Nat.le_of_ble_eq_true rfl) rfl ?_
            refine tz_iload 4 C dX10_findsChains_104 rfl ?_
            refine tz_iload 6 C dX10_findsChains_106 rfl ?_
            refine tz_iadd C dX10_findsChains_108 ?_
            refine tz_istore [(3, .int x5_12), (2, .int x5_12), (0, .ref 133), (1, .int x1_5), (5, .int x5_12), (6, .int x6_17)] C dX10_findsChains_109 (Nat.le_of_ble_eq_true rfl) rfl h (fun x4_27 h => ?_)
            refine tz_iinc 5 [(4, .int x4_27), (3, .int x5_12), (2, .int x5_12), (0, .ref 133), (1, .int x1_5), (6, .int x6_17)] 1 C dX10_findsChains_111 (by decide) rfl (Nat.le_of_ble_eq_true rfl) rfl h (fun x5_28 h => ?_)
            refine tz_goto 29 C dX10_findsChains_114 (by decide) ?_
            exact tz_sub (ihag_7 _ _ _ _ _ h) [4, 5, 3, 2, 1, 0] rfl
        refine tz_icmp_eq 89 C dX10_findsChains_59 (by decide) h (fun c_29 h => ?_) (fun c_29 h => ?_)
        · exact tz_sub (hK_20 _ _ _ h) [1, 2, 3, 5, 6, 0] rfl
        · refine tz_iload 6 C dX10_findsChains_62 rfl ?_
          refine tz_iload_n 3 4 C dX10_findsChains_64 rfl rfl ?_
          refine tz_isub C dX10_findsChains_65 ?_
          refine tz_aload_n 0 1 C dX10_findsChains_66 rfl rfl ?_
          refine tz_getR C dX10_findsChains_67 fl_RX10_13 (by decide) rfl rfl ?_
          refine tz_iconst 2 (by decide) C dX10_findsChains_70 ?_
          refine tz_iald_c 2 C dX10_findsChains_71 (by decide) rfl (tz_inl rfl) rfl ?_
          refine tz_icmp_le 89 C dX10_findsChains_72 (by decide) h (fun c_30 h => ?_) (fun c_30 h => ?_)
          · exact tz_sub (hK_20 _ _ _ h) [1, 2, 3, 5, 6, 0] rfl
          · refine tz_aload_n 0 1 C dX10_findsChains_75 rfl rfl ?_
            refine tz_iload_n 1 2 C dX10_findsChains_76 rfl rfl ?_
            refine tz_iload_n 2 3 C dX10_findsChains_77 rfl rfl ?_
            refine tz_iload_n 3 4 C dX10_findsChains_78 rfl rfl ?_
            refine tz_iload 5 C dX10_findsChains_79 rfl ?_
            refine tz_callvv C dX10_findsChains_81 lk_RX10_187 (m_X10_ends G hG  h) (by decide) rfl rfl rfl rfl ⟨Nat.le_of_ble_eq_true rfl, Nat.le_of_ble_eq_true rfl⟩ (Nat.le_of_ble_eq_true rfl) rfl (fun σ_31 h => ?_)
            refine tz_iconst (-1) (by decide) C dX10_findsChains_84 ?_
            refine tz_istore_n_k 2 [(6, .int x6_17), (0, .ref 133), (1, .int x1_5), (3, .int x3_10), (4, .int x4_11), (5, .int x5_12)] C dX10_findsChains_85 rfl (Nat.le_of_ble_eq_true rfl) rfl ?_
            refine tz_iconst 0 (by decide) C dX10_findsChains_86 ?_
            refine tz_istore_k [(2, .int (-1)), (6, .int x6_17), (0, .ref 133), (1, .int x1_5), (3, .int x3_10), (5, .int x5_12)] C dX10_findsChains_87 (Nat.le_of_ble_eq_true rfl) rfl ?_
            exact tz_sub (hK_20 _ _ _ h) [3, 4, 1, 0, 6, 2] rfl

def vc_X10_chainsOf  (σ : tzS) (Q : Int32 → tzS → Prop) : Prop :=
  vc_X10_findsChains  σ (fun (σ_1 : tzS) =>
    Q (σ_1.1 133 22) σ_1)
set_option maxRecDepth 20000 in
set_option maxHeartbeats 4000000 in
theorem m_X10_chainsOf (G : tzG) (hG : tz_ok G)   {σ : tzS} {Q : Int32 → tzS → Prop} (h : vc_X10_chainsOf  σ Q) : tz_M G yX10_chainsOf cX10_chainsOf 1 (some .int) 5 121 [.ref 133] σ (tz_Qi G Q) := by
  unfold vc_X10_chainsOf at h
  refine tz_starti hG RX10 [(0, .ref 133)] (by decide) rfl (Nat.le_of_ble_eq_true rfl) rfl (fun E C hret => ?_)
  refine tz_aload_n 0 0 C dX10_chainsOf_0 rfl rfl ?_
  refine tz_callvv C dX10_chainsOf_1 lk_RX10_191 (m_X10_findsChains G hG  h) (by decide) rfl rfl rfl rfl ⟨Nat.le_of_ble_eq_true rfl, Nat.le_of_ble_eq_true rfl⟩ (Nat.le_of_ble_eq_true rfl) rfl (fun σ_1 h => ?_)
  refine tz_aload_n 0 0 C dX10_chainsOf_4 rfl rfl ?_
  refine tz_getI C dX10_chainsOf_5 fl_RX10_184 (by decide) rfl rfl ?_
  exact hret _ _ _ _ dX10_chainsOf_8 h

def vc_X10_chains  (σ : tzS) (Q : Int32 → tzS → Prop) : Prop :=
  vc_X10_chainsOf  σ (fun (r_2 : Int32) (σ_1 : tzS) =>
    Q r_2 σ_1)
set_option maxRecDepth 20000 in
set_option maxHeartbeats 4000000 in
theorem m_X10_chains (G : tzG) (hG : tz_ok G)   {σ : tzS} {Q : Int32 → tzS → Prop} (h : vc_X10_chains  σ Q) : tz_M G yX10_chains cX10_chains 1 (some .int) 6 141 [.ref 133] σ (tz_Qi G Q) := by
  unfold vc_X10_chains at h
  refine tz_starti hG RX10 [(0, .ref 133)] (by decide) rfl (Nat.le_of_ble_eq_true rfl) rfl (fun E C hret => ?_)
  refine tz_aload_n 0 0 C dX10_chains_0 rfl rfl ?_
  refine tz_calliv C dX10_chains_1 lk_RX10_194 (m_X10_chainsOf G hG  h) (by decide) rfl rfl rfl rfl ⟨Nat.le_of_ble_eq_true rfl, Nat.le_of_ble_eq_true rfl⟩ (Nat.le_of_ble_eq_true rfl) rfl (fun r_2 σ_1 h => ?_)
  exact hret _ _ _ _ dX10_chains_4 h

def vc_X10_weight (x1 : Int32) (σ : tzS) (Q : Int32 → tzS → Prop) : Prop :=
  vp_in x1 110 ∧ (
    Q ((σ.1 147 x1.toNatClampNeg) * (((σ.1 146 x1.toNatClampNeg) - (σ.1 145 x1.toNatClampNeg)) + 1)) σ)
set_option maxRecDepth 20000 in
set_option maxHeartbeats 4000000 in
theorem m_X10_weight (G : tzG) (hG : tz_ok G) {x1 : Int32}  {σ : tzS} {Q : Int32 → tzS → Prop} (h : vc_X10_weight x1 σ Q) : tz_M G yX10_weight cX10_weight 2 (some .int) 0 0 [.ref 133, .int x1] σ (tz_Qi G Q) := by
  unfold vc_X10_weight at h
  refine tz_starti hG RX10 [(0, .ref 133), (1, .int x1)] (by decide) rfl (Nat.le_of_ble_eq_true rfl) rfl (fun E C hret => ?_)
  refine tz_aload_n 0 0 C dX10_weight_0 rfl rfl ?_
  refine tz_getR C dX10_weight_1 fl_RX10_49 (by decide) rfl rfl ?_
  refine tz_iload_n 1 1 C dX10_weight_4 rfl rfl ?_
  obtain ⟨hin_1, h⟩ := h
  refine tz_iald C dX10_weight_5 (by decide) rfl hin_1 ?_
  refine tz_aload_n 0 0 C dX10_weight_6 rfl rfl ?_
  refine tz_getR C dX10_weight_7 fl_RX10_46 (by decide) rfl rfl ?_
  refine tz_iload_n 1 1 C dX10_weight_10 rfl rfl ?_
  refine tz_iald C dX10_weight_11 (by decide) rfl hin_1 ?_
  refine tz_aload_n 0 0 C dX10_weight_12 rfl rfl ?_
  refine tz_getR C dX10_weight_13 fl_RX10_43 (by decide) rfl rfl ?_
  refine tz_iload_n 1 1 C dX10_weight_16 rfl rfl ?_
  refine tz_iald C dX10_weight_17 (by decide) rfl hin_1 ?_
  refine tz_isub C dX10_weight_18 ?_
  refine tz_iconst 1 (by decide) C dX10_weight_19 ?_
  refine tz_iadd C dX10_weight_20 ?_
  refine tz_imul C dX10_weight_21 ?_
  exact hret _ _ _ _ dX10_weight_22 h

def vc_X10_chainOf (x1 : Int32) (x2 : Int32) (σ : tzS) (Q : Int32 → tzS → Prop) : Prop :=
  vc_X10_findsChains  σ (fun (σ_1 : tzS) =>
    (x1 < (σ_1.1 133 22) →
      (x2 = 0 →
        vp_in x1 110 ∧ (
          Q (σ_1.1 144 x1.toNatClampNeg) σ_1)) ∧
      (x2 = 1 →
        vp_in x1 110 ∧ (
          Q (σ_1.1 145 x1.toNatClampNeg) σ_1)) ∧
      (x2 = 2 →
        vp_in x1 110 ∧ (
          Q (σ_1.1 146 x1.toNatClampNeg) σ_1)) ∧
      (x2 = 3 →
        vp_in x1 110 ∧ (
          Q (σ_1.1 147 x1.toNatClampNeg) σ_1)) ∧
      (¬ x2 = 0 → ¬ x2 = 1 → ¬ x2 = 2 → ¬ x2 = 3 →
        vc_X10_weight x1 σ_1 (fun (r_8 : Int32) (σ_7 : tzS) =>
          Q r_8 σ_7))) ∧
    (¬ x1 < (σ_1.1 133 22) →
      Q (-1) σ_1))
set_option maxRecDepth 20000 in
set_option maxHeartbeats 4000000 in
theorem m_X10_chainOf (G : tzG) (hG : tz_ok G) {x1 : Int32} {x2 : Int32}  {σ : tzS} {Q : Int32 → tzS → Prop} (h : vc_X10_chainOf x1 x2 σ Q) : tz_M G yX10_chainOf cX10_chainOf 3 (some .int) 5 121 [.ref 133, .int x1, .int x2] σ (tz_Qi G Q) := by
  unfold vc_X10_chainOf at h
  refine tz_starti hG RX10 [(0, .ref 133), (1, .int x1), (2, .int x2)] (by decide) rfl (Nat.le_of_ble_eq_true rfl) rfl (fun E C hret => ?_)
  refine tz_aload_n 0 0 C dX10_chainOf_0 rfl rfl ?_
  refine tz_callvv C dX10_chainOf_1 lk_RX10_191 (m_X10_findsChains G hG  h) (by decide) rfl rfl rfl rfl ⟨Nat.le_of_ble_eq_true rfl, Nat.le_of_ble_eq_true rfl⟩ (Nat.le_of_ble_eq_true rfl) rfl (fun σ_1 h => ?_)
  refine tz_iload_n 1 1 C dX10_chainOf_4 rfl rfl ?_
  refine tz_aload_n 0 0 C dX10_chainOf_5 rfl rfl ?_
  refine tz_getI C dX10_chainOf_6 fl_RX10_184 (by decide) rfl rfl ?_
  refine tz_icmp_lt 14 C dX10_chainOf_9 (by decide) h (fun c_2 h => ?_) (fun c_2 h => ?_)
  · refine tz_iload_n 2 2 C dX10_chainOf_14 rfl rfl ?_
    refine tz_swc 0 (29) 44 C dX10_chainOf_15 (by decide) (by decide) rfl (by decide) h (fun h => ?_) (fun e0 h => ?_)
    · refine tz_aload_n 0 0 C dX10_chainOf_44 rfl rfl ?_
      refine tz_getR C dX10_chainOf_45 fl_RX10_40 (by decide) rfl rfl ?_
      refine tz_iload_n 1 1 C dX10_chainOf_48 rfl rfl ?_
      obtain ⟨hin_3, h⟩ := h
      refine tz_iald C dX10_chainOf_49 (by decide) rfl hin_3 ?_
      exact hret _ _ _ _ dX10_chainOf_50 h
    refine tz_swc 1 (36) 51 C dX10_chainOf_15 (by decide) (by decide) rfl (by decide) h (fun h => ?_) (fun e1 h => ?_)
    · refine tz_aload_n 0 0 C dX10_chainOf_51 rfl rfl ?_
      refine tz_getR C dX10_chainOf_52 fl_RX10_43 (by decide) rfl rfl ?_
      refine tz_iload_n 1 1 C dX10_chainOf_55 rfl rfl ?_
      obtain ⟨hin_4, h⟩ := h
      refine tz_iald C dX10_chainOf_56 (by decide) rfl hin_4 ?_
      exact hret _ _ _ _ dX10_chainOf_57 h
    refine tz_swc 2 (43) 58 C dX10_chainOf_15 (by decide) (by decide) rfl (by decide) h (fun h => ?_) (fun e2 h => ?_)
    · refine tz_aload_n 0 0 C dX10_chainOf_58 rfl rfl ?_
      refine tz_getR C dX10_chainOf_59 fl_RX10_46 (by decide) rfl rfl ?_
      refine tz_iload_n 1 1 C dX10_chainOf_62 rfl rfl ?_
      obtain ⟨hin_5, h⟩ := h
      refine tz_iald C dX10_chainOf_63 (by decide) rfl hin_5 ?_
      exact hret _ _ _ _ dX10_chainOf_64 h
    refine tz_swc 3 (50) 65 C dX10_chainOf_15 (by decide) (by decide) rfl (by decide) h (fun h => ?_) (fun e3 h => ?_)
    · refine tz_aload_n 0 0 C dX10_chainOf_65 rfl rfl ?_
      refine tz_getR C dX10_chainOf_66 fl_RX10_49 (by decide) rfl rfl ?_
      refine tz_iload_n 1 1 C dX10_chainOf_69 rfl rfl ?_
      obtain ⟨hin_6, h⟩ := h
      refine tz_iald C dX10_chainOf_70 (by decide) rfl hin_6 ?_
      exact hret _ _ _ _ dX10_chainOf_71 h
    replace h := h e0 e1 e2 e3
    refine tz_tabOut 72 C dX10_chainOf_15 (tz_out3 e0 e1 e2 e3) (by decide) ?_
    refine tz_aload_n 0 0 C dX10_chainOf_72 rfl rfl ?_
    refine tz_iload_n 1 1 C dX10_chainOf_73 rfl rfl ?_
    refine tz_calliv C dX10_chainOf_74 lk_RX10_198 (m_X10_weight G hG  h) (by decide) rfl rfl rfl rfl ⟨Nat.le_of_ble_eq_true rfl, Nat.le_of_ble_eq_true rfl⟩ (Nat.le_of_ble_eq_true rfl) rfl (fun r_8 σ_7 h => ?_)
    exact hret _ _ _ _ dX10_chainOf_77 h
  · refine tz_iconst (-1) (by decide) C dX10_chainOf_12 ?_
    exact hret _ _ _ _ dX10_chainOf_13 h

def vc_X10_chain (x1 : Int32) (x2 : Int32) (σ : tzS) (Q : Int32 → tzS → Prop) : Prop :=
  vc_X10_in x1 0 99 σ (fun (r_2 : Int32) (σ_1 : tzS) =>
    (r_2 = 0 →
      Q (-2) σ_1) ∧
    (¬ r_2 = 0 →
      vc_X10_in x2 0 4 σ_1 (fun (r_5 : Int32) (σ_4 : tzS) =>
        (r_5 = 0 →
          Q (-2) σ_4) ∧
        (¬ r_5 = 0 →
          vc_X10_chainOf x1 x2 σ_4 (fun (r_8 : Int32) (σ_7 : tzS) =>
            Q r_8 σ_7)))))
set_option maxRecDepth 20000 in
set_option maxHeartbeats 4000000 in
theorem m_X10_chain (G : tzG) (hG : tz_ok G) {x1 : Int32} {x2 : Int32}  {σ : tzS} {Q : Int32 → tzS → Prop} (h : vc_X10_chain x1 x2 σ Q) : tz_M G yX10_chain cX10_chain 3 (some .int) 6 143 [.ref 133, .int x1, .int x2] σ (tz_Qi G Q) := by
  unfold vc_X10_chain at h
  refine tz_starti hG RX10 [(0, .ref 133), (1, .int x1), (2, .int x2)] (by decide) rfl (Nat.le_of_ble_eq_true rfl) rfl (fun E C hret => ?_)
  refine tz_iload_n 1 1 C dX10_chain_0 rfl rfl ?_
  refine tz_iconst 0 (by decide) C dX10_chain_1 ?_
  refine tz_bipush 99 (by decide) C dX10_chain_2 ?_
  refine tz_callis C dX10_chain_4 lk_RX10_77 (m_X10_in G hG  h) rfl ⟨Nat.le_of_ble_eq_true rfl, Nat.le_of_ble_eq_true rfl⟩ (Nat.le_of_ble_eq_true rfl) rfl (fun r_2 σ_1 h => ?_)
  refine tz_if_eq 28 C dX10_chain_7 (by decide) h (fun c_3 h => ?_) (fun c_3 h => ?_)
  · refine tz_bipush (-2) (by decide) C dX10_chain_28 ?_
    exact hret _ _ _ _ dX10_chain_30 h
  · refine tz_iload_n 2 2 C dX10_chain_10 rfl rfl ?_
    refine tz_iconst 0 (by decide) C dX10_chain_11 ?_
    refine tz_iconst 4 (by decide) C dX10_chain_12 ?_
    refine tz_callis C dX10_chain_13 lk_RX10_77 (m_X10_in G hG  h) rfl ⟨Nat.le_of_ble_eq_true rfl, Nat.le_of_ble_eq_true rfl⟩ (Nat.le_of_ble_eq_true rfl) rfl (fun r_5 σ_4 h => ?_)
    refine tz_if_eq 28 C dX10_chain_16 (by decide) h (fun c_6 h => ?_) (fun c_6 h => ?_)
    · refine tz_bipush (-2) (by decide) C dX10_chain_28 ?_
      exact hret _ _ _ _ dX10_chain_30 h
    · refine tz_aload_n 0 0 C dX10_chain_19 rfl rfl ?_
      refine tz_iload_n 1 1 C dX10_chain_20 rfl rfl ?_
      refine tz_iload_n 2 2 C dX10_chain_21 rfl rfl ?_
      refine tz_calliv C dX10_chain_22 lk_RX10_201 (m_X10_chainOf G hG  h) (by decide) rfl rfl rfl rfl ⟨Nat.le_of_ble_eq_true rfl, Nat.le_of_ble_eq_true rfl⟩ (Nat.le_of_ble_eq_true rfl) rfl (fun r_8 σ_7 h => ?_)
      refine tz_goto 30 C dX10_chain_25 (by decide) ?_
      exact hret _ _ _ _ dX10_chain_30 h

def vc_X10_isGap (x1 : Int32) (σ : tzS) (Q : Int32 → tzS → Prop) : Prop :=
  vc_X10_reads  σ (fun (σ_1 : tzS) =>
    vc_X10_in x1 1 ((σ_1.1 133 7) - 1) σ_1 (fun (r_3 : Int32) (σ_2 : tzS) =>
      tz_bool r_3 ∧ Q r_3 σ_2))
set_option maxRecDepth 20000 in
set_option maxHeartbeats 4000000 in
theorem m_X10_isGap (G : tzG) (hG : tz_ok G) {x1 : Int32}  {σ : tzS} {Q : Int32 → tzS → Prop} (h : vc_X10_isGap x1 σ Q) : tz_M G yX10_isGap cX10_isGap 2 (some .boolean) 4 95 [.ref 133, .int x1] σ (tz_Qi G Q) := by
  unfold vc_X10_isGap at h
  refine tz_startz hG RX10 [(0, .ref 133), (1, .int x1)] (by decide) rfl (Nat.le_of_ble_eq_true rfl) rfl (fun E C hret => ?_)
  refine tz_aload_n 0 0 C dX10_isGap_0 rfl rfl ?_
  refine tz_callvv C dX10_isGap_1 lk_RX10_147 (m_X10_reads G hG  h) (by decide) rfl rfl rfl rfl ⟨Nat.le_of_ble_eq_true rfl, Nat.le_of_ble_eq_true rfl⟩ (Nat.le_of_ble_eq_true rfl) rfl (fun σ_1 h => ?_)
  refine tz_iload_n 1 1 C dX10_isGap_4 rfl rfl ?_
  refine tz_iconst 1 (by decide) C dX10_isGap_5 ?_
  refine tz_aload_n 0 0 C dX10_isGap_6 rfl rfl ?_
  refine tz_getI C dX10_isGap_7 fl_RX10_109 (by decide) rfl rfl ?_
  refine tz_iconst 1 (by decide) C dX10_isGap_10 ?_
  refine tz_isub C dX10_isGap_11 ?_
  refine tz_callis C dX10_isGap_12 lk_RX10_77 (m_X10_in G hG  h) rfl ⟨Nat.le_of_ble_eq_true rfl, Nat.le_of_ble_eq_true rfl⟩ (Nat.le_of_ble_eq_true rfl) rfl (fun r_3 σ_2 h => ?_)
  exact hret _ _ _ _ dX10_isGap_15 (tz_narz h.1) h.2

def vc_X10_overOf (x1 : Int32) (x2 : Int32) (σ : tzS) (Q : Int32 → tzS → Prop) : Prop :=
  vc_X10_findsChains  σ (fun (σ_1 : tzS) =>
    tz_loop3 (fun (x3_4 : Int32) (x4_5 : Int32) (x5_6 : Int32) (σ_3 : tzS) (ag_2 : Int32 → Int32 → Int32 → tzS → Prop) =>
      ((σ_3.1 133 22) ≤ x5_6 →
        (¬ x2 = 0 →
          Q x4_5 σ_3) ∧
        (x2 = 0 →
          Q x3_4 σ_3)) ∧
      (¬ (σ_3.1 133 22) ≤ x5_6 →
        vp_in x5_6 110 ∧ (
          tz_join1 (fun (y_12 : Int32) (σ_11 : tzS) =>
            ∀ x6_13 : Int32, x6_13 = y_12 →
            (x6_13 = 0 →
              ∀ x3_15 : Int32, x3_15 = (x3_4 + 0) →
              ∀ x4_16 : Int32, x4_16 = (x4_5 + 0) →
              ∀ x5_17 : Int32, x5_17 = x5_6 + 1 →
              ag_2 x3_15 x4_16 x5_17 σ_11) ∧
            (¬ x6_13 = 0 →
              ∀ x3_18 : Int32, x3_18 = (x3_4 + 1) →
              vc_X10_weight x5_6 σ_11 (fun (r_20 : Int32) (σ_19 : tzS) =>
                ∀ x4_21 : Int32, x4_21 = (x4_5 + r_20) →
                ∀ x5_22 : Int32, x5_22 = x5_6 + 1 →
                ag_2 x3_18 x4_21 x5_22 σ_19))) (fun (K_10 : Int32 → tzS → Prop) =>
            tz_join0 (fun (σ_24 : tzS) =>
              K_10 0 σ_24) (fun (K_23 : tzS → Prop) =>
              (x1 ≤ (σ_3.1 145 x5_6.toNatClampNeg) →
                K_23  σ_3) ∧
              (¬ x1 ≤ (σ_3.1 145 x5_6.toNatClampNeg) →
                ((σ_3.1 146 x5_6.toNatClampNeg) < x1 →
                  K_23  σ_3) ∧
                (¬ (σ_3.1 146 x5_6.toNatClampNeg) < x1 →
                  K_10 1 σ_3))))))) (0 : Int32) (0 : Int32) (0 : Int32) σ_1)
set_option maxRecDepth 20000 in
set_option maxHeartbeats 4000000 in
theorem m_X10_overOf (G : tzG) (hG : tz_ok G) {x1 : Int32} {x2 : Int32}  {σ : tzS} {Q : Int32 → tzS → Prop} (h : vc_X10_overOf x1 x2 σ Q) : tz_M G yX10_overOf cX10_overOf 7 (some .int) 5 121 [.ref 133, .int x1, .int x2] σ (tz_Qi G Q) := by
  unfold vc_X10_overOf at h
  refine tz_starti hG RX10 [(0, .ref 133), (1, .int x1), (2, .int x2)] (by decide) rfl (Nat.le_of_ble_eq_true rfl) rfl (fun E C hret => ?_)
  refine tz_aload_n 0 0 C dX10_overOf_0 rfl rfl ?_
  refine tz_callvv C dX10_overOf_1 lk_RX10_191 (m_X10_findsChains G hG  h) (by decide) rfl rfl rfl rfl ⟨Nat.le_of_ble_eq_true rfl, Nat.le_of_ble_eq_true rfl⟩ (Nat.le_of_ble_eq_true rfl) rfl (fun σ_1 h => ?_)
  refine tz_iconst 0 (by decide) C dX10_overOf_4 ?_
  refine tz_istore_n_k 3 [(0, .ref 133), (1, .int x1), (2, .int x2)] C dX10_overOf_5 rfl (Nat.le_of_ble_eq_true rfl) rfl ?_
  refine tz_iconst 0 (by decide) C dX10_overOf_6 ?_
  refine tz_istore_k [(3, .int 0), (0, .ref 133), (1, .int x1), (2, .int x2)] C dX10_overOf_7 (Nat.le_of_ble_eq_true rfl) rfl ?_
  refine tz_iconst 0 (by decide) C dX10_overOf_9 ?_
  refine tz_istore_k [(4, .int 0), (3, .int 0), (0, .ref 133), (1, .int x1), (2, .int x2)] C dX10_overOf_10 (Nat.le_of_ble_eq_true rfl) rfl ?_
  refine tz_sub (L := [(0, .ref 133), (1, .int x1), (2, .int x2), (3, .int 0), (4, .int 0), (5, .int 0)]) ?_ [3, 4, 5, 2, 1, 0] rfl
  refine tz_loop3_w (V := fun (x3_4 : Int32) (x4_5 : Int32) (x5_6 : Int32) (σ_3 : tzS) => tz_V G E 12 [(0, .ref 133), (1, .int x1), (2, .int x2), (3, .int x3_4), (4, .int x4_5), (5, .int x5_6)] [] σ_3) h (fun ag_2 ihag_2 x3_4 x4_5 x5_6 σ_3 h => ?_)
  refine tz_iload 5 C dX10_overOf_12 rfl ?_
  refine tz_aload_n 0 0 C dX10_overOf_14 rfl rfl ?_
  refine tz_getI C dX10_overOf_15 fl_RX10_184 (by decide) rfl rfl ?_
  refine tz_icmp_ge 89 C dX10_overOf_18 (by decide) h (fun c_7 h => ?_) (fun c_7 h => ?_)
  · refine tz_iload_n 2 2 C dX10_overOf_89 rfl rfl ?_
    refine tz_if_ne 97 C dX10_overOf_90 (by decide) h (fun c_8 h => ?_) (fun c_8 h => ?_)
    · refine tz_iload 4 C dX10_overOf_97 rfl ?_
      exact hret _ _ _ _ dX10_overOf_99 h
    · refine tz_iload_n 3 3 C dX10_overOf_93 rfl rfl ?_
      refine tz_goto 99 C dX10_overOf_94 (by decide) ?_
      exact hret _ _ _ _ dX10_overOf_99 h
  · refine tz_aload_n 0 0 C dX10_overOf_21 rfl rfl ?_
    refine tz_getR C dX10_overOf_22 fl_RX10_43 (by decide) rfl rfl ?_
    refine tz_iload 5 C dX10_overOf_25 rfl ?_
    obtain ⟨hin_9, h⟩ := h
    refine tz_iald C dX10_overOf_27 (by decide) rfl hin_9 ?_
    refine tz_iload_n 1 1 C dX10_overOf_28 rfl rfl ?_
    obtain ⟨K_10, hrK_10, h⟩ := h
    have hK_10 : ∀ (y_12 : Int32) (σ_11 : tzS), K_10 y_12 σ_11 → tz_V G E 48 [(0, .ref 133), (1, .int x1), (2, .int x2), (3, .int x3_4), (4, .int x4_5), (5, .int x5_6)] [.int y_12] σ_11 := by
      intro y_12 σ_11 h
      replace h := hrK_10 y_12 σ_11 h
      refine tz_istore [(0, .ref 133), (1, .int x1), (2, .int x2), (3, .int x3_4), (4, .int x4_5), (5, .int x5_6)] C dX10_overOf_48 (Nat.le_of_ble_eq_true rfl) rfl h (fun x6_13 h => ?_)
      refine tz_iload_n 3 4 C dX10_overOf_50 rfl rfl ?_
      refine tz_iload 0 C dX10_overOf_51 rfl ?_
      refine tz_if_eq 60 C dX10_overOf_53 (by decide) h (fun c_14 h => ?_) (fun c_14 h => ?_)
      · refine tz_iconst 0 (by decide) C dX10_overOf_60 ?_
        refine tz_iadd C dX10_overOf_61 ?_
        refine tz_istore_n 3 [(6, .int x6_13), (0, .ref 133), (1, .int x1), (2, .int x2), (4, .int x4_5), (5, .int x5_6)] C dX10_overOf_62 rfl (Nat.le_of_ble_eq_true rfl) rfl h (fun x3_15 h => ?_)
        refine tz_iload 5 C dX10_overOf_63 rfl ?_
        refine tz_iload 1 C dX10_overOf_65 rfl ?_
        refine tz_if_eq_t 79 C dX10_overOf_67 (by decide) c_14 ?_
        refine tz_iconst 0 (by decide) C dX10_overOf_79 ?_
        refine tz_iadd C dX10_overOf_80 ?_
        refine tz_istore [(3, .int x3_15), (6, .int x6_13), (0, .ref 133), (1, .int x1), (2, .int x2), (5, .int x5_6)] C dX10_overOf_81 (Nat.le_of_ble_eq_true rfl) rfl h (fun x4_16 h => ?_)
        refine tz_iinc 6 [(4, .int x4_16), (3, .int x3_15), (6, .int x6_13), (0, .ref 133), (1, .int x1), (2, .int x2)] 1 C dX10_overOf_83 (by decide) rfl (Nat.le_of_ble_eq_true rfl) rfl h (fun x5_17 h => ?_)
        refine tz_goto 12 C dX10_overOf_86 (by decide) ?_
        exact tz_sub (ihag_2 _ _ _ _ h) [4, 5, 6, 2, 1, 0] rfl
      · refine tz_iconst 1 (by decide) C dX10_overOf_56 ?_
        refine tz_goto 61 C dX10_overOf_57 (by decide) ?_
        refine tz_iadd C dX10_overOf_61 ?_
        refine tz_istore_n 3 [(6, .int x6_13), (0, .ref 133), (1, .int x1), (2, .int x2), (4, .int x4_5), (5, .int x5_6)] C dX10_overOf_62 rfl (Nat.le_of_ble_eq_true rfl) rfl h (fun x3_18 h => ?_)
        refine tz_iload 5 C dX10_overOf_63 rfl ?_
        refine tz_iload 1 C dX10_overOf_65 rfl ?_
        refine tz_if_eq_f 79 C dX10_overOf_67 (by decide) c_14 ?_
        refine tz_aload_n 0 2 C dX10_overOf_70 rfl rfl ?_
        refine tz_iload 6 C dX10_overOf_71 rfl ?_
        refine tz_calliv C dX10_overOf_73 lk_RX10_198 (m_X10_weight G hG  h) (by decide) rfl rfl rfl rfl ⟨Nat.le_of_ble_eq_true rfl, Nat.le_of_ble_eq_true rfl⟩ (Nat.le_of_ble_eq_true rfl) rfl (fun r_20 σ_19 h => ?_)
        refine tz_goto 80 C dX10_overOf_76 (by decide) ?_
        refine tz_iadd C dX10_overOf_80 ?_
        refine tz_istore [(3, .int x3_18), (6, .int x6_13), (0, .ref 133), (1, .int x1), (2, .int x2), (5, .int x5_6)] C dX10_overOf_81 (Nat.le_of_ble_eq_true rfl) rfl h (fun x4_21 h => ?_)
        refine tz_iinc 6 [(4, .int x4_21), (3, .int x3_18), (6, .int x6_13), (0, .ref 133), (1, .int x1), (2, .int x2)] 1 C dX10_overOf_83 (by decide) rfl (Nat.le_of_ble_eq_true rfl) rfl h (fun x5_22 h => ?_)
        refine tz_goto 12 C dX10_overOf_86 (by decide) ?_
        exact tz_sub (ihag_2 _ _ _ _ h) [4, 5, 6, 2, 1, 0] rfl
    obtain ⟨K_23, hrK_23, h⟩ := h
    have hK_23 : ∀ (σ_24 : tzS), K_23  σ_24 → tz_V G E 47 [(0, .ref 133), (1, .int x1), (2, .int x2), (3, .int x3_4), (4, .int x4_5), (5, .int x5_6)] [] σ_24 := by
      intro σ_24 h
      replace h := hrK_23 σ_24 h
      refine tz_iconst 0 (by decide) C dX10_overOf_47 ?_
      exact tz_sub (hK_10 _ _ h) [0, 1, 2, 3, 4, 5] rfl
    refine tz_icmp_ge 47 C dX10_overOf_29 (by decide) h (fun c_25 h => ?_) (fun c_25 h => ?_)
    · exact tz_sub (hK_23 _ h) [0, 1, 2, 3, 4, 5] rfl
    · refine tz_aload_n 0 0 C dX10_overOf_32 rfl rfl ?_
      refine tz_getR C dX10_overOf_33 fl_RX10_46 (by decide) rfl rfl ?_
      refine tz_iload 5 C dX10_overOf_36 rfl ?_
      refine tz_iald C dX10_overOf_38 (by decide) rfl hin_9 ?_
      refine tz_iload_n 1 1 C dX10_overOf_39 rfl rfl ?_
      refine tz_icmp_lt 47 C dX10_overOf_40 (by decide) h (fun c_26 h => ?_) (fun c_26 h => ?_)
      · exact tz_sub (hK_23 _ h) [0, 1, 2, 3, 4, 5] rfl
      · refine tz_iconst 1 (by decide) C dX10_overOf_43 ?_
        refine tz_goto 48 C dX10_overOf_44 (by decide) ?_
        exact tz_sub (hK_10 _ _ h) [0, 1, 2, 3, 4, 5] rfl
