def vc_X9_stem (x1 : Int32) (x2 : Int32) (σ : tzS) (Q : Int32 → tzS → Prop) : Prop :=
  vc_X9_readText  σ (fun (σ_1 : tzS) =>
    vc_X9_noStem x1 σ_1 (fun (r_3 : Int32) (σ_2 : tzS) =>
      (¬ r_3 = 0 →
        Q (-2) σ_2) ∧
      (r_3 = 0 →
        (x2 < 0 →
          Q (-2) σ_2) ∧
        (¬ x2 < 0 →
          (x2 ≤ 3 →
            (¬ x2 = 0 →
              (¬ x2 = 1 →
                (¬ x2 = 2 →
                  vp_in x1 108 ∧ (
                    Q (σ_2.1 36 x1.toNatClampNeg) σ_2)) ∧
                (x2 = 2 →
                  vp_in x1 108 ∧ (
                    Q (σ_2.1 35 x1.toNatClampNeg) σ_2))) ∧
              (x2 = 1 →
                vp_in x1 108 ∧ (
                  Q (σ_2.1 34 x1.toNatClampNeg) σ_2))) ∧
            (x2 = 0 →
              vp_in x1 108 ∧ (
                Q (σ_2.1 33 x1.toNatClampNeg) σ_2))) ∧
          (¬ x2 ≤ 3 →
            Q (-2) σ_2)))))
set_option maxRecDepth 20000 in
set_option maxHeartbeats 4000000 in
theorem m_X9_stem (G : tzG) (hG : tz_ok G) {x1 : Int32} {x2 : Int32}  {σ : tzS} {Q : Int32 → tzS → Prop} (h : vc_X9_stem x1 x2 σ Q) : tz_M G yX9_stem cX9_stem 3 (some .int) 4 99 [.ref 0, .int x1, .int x2] σ (tz_Qi G Q) := by
  unfold vc_X9_stem at h
  refine tz_starti hG RX9 [(0, .ref 0), (1, .int x1), (2, .int x2)] (by decide) rfl (Nat.le_of_ble_eq_true rfl) rfl (fun E C hret => ?_)
  refine tz_aload_n 0 0 C dX9_stem_0 rfl rfl ?_
  refine tz_callvv C dX9_stem_1 lk_RX9_113 (m_X9_readText G hG  h) (by decide) rfl rfl rfl rfl ⟨Nat.le_of_ble_eq_true rfl, Nat.le_of_ble_eq_true rfl⟩ (Nat.le_of_ble_eq_true rfl) rfl (fun σ_1 h => ?_)
  refine tz_aload_n 0 0 C dX9_stem_4 rfl rfl ?_
  refine tz_iload_n 1 1 C dX9_stem_5 rfl rfl ?_
  refine tz_calliv C dX9_stem_6 lk_RX9_172 (m_X9_noStem G hG  h) (by decide) rfl rfl rfl rfl ⟨Nat.le_of_ble_eq_true rfl, Nat.le_of_ble_eq_true rfl⟩ (Nat.le_of_ble_eq_true rfl) rfl (fun r_3 σ_2 h => ?_)
  refine tz_if_ne 21 C dX9_stem_9 (by decide) h (fun c_4 h => ?_) (fun c_4 h => ?_)
  · refine tz_bipush (-2) (by decide) C dX9_stem_21 ?_
    exact hret _ _ _ _ dX9_stem_23 h
  · refine tz_iload_n 2 2 C dX9_stem_12 rfl rfl ?_
    refine tz_if_lt 21 C dX9_stem_13 (by decide) h (fun c_5 h => ?_) (fun c_5 h => ?_)
    · refine tz_bipush (-2) (by decide) C dX9_stem_21 ?_
      exact hret _ _ _ _ dX9_stem_23 h
    · refine tz_iload_n 2 2 C dX9_stem_16 rfl rfl ?_
      refine tz_iconst 3 (by decide) C dX9_stem_17 ?_
      refine tz_icmp_le 24 C dX9_stem_18 (by decide) h (fun c_6 h => ?_) (fun c_6 h => ?_)
      · refine tz_iload_n 2 2 C dX9_stem_24 rfl rfl ?_
        refine tz_if_ne 38 C dX9_stem_25 (by decide) h (fun c_7 h => ?_) (fun c_7 h => ?_)
        · refine tz_iload_n 2 2 C dX9_stem_38 rfl rfl ?_
          refine tz_iconst 1 (by decide) C dX9_stem_39 ?_
          refine tz_icmp_ne 53 C dX9_stem_40 (by decide) h (fun c_8 h => ?_) (fun c_8 h => ?_)
          · refine tz_iload_n 2 2 C dX9_stem_53 rfl rfl ?_
            refine tz_iconst 2 (by decide) C dX9_stem_54 ?_
            refine tz_icmp_ne 70 C dX9_stem_55 (by decide) h (fun c_9 h => ?_) (fun c_9 h => ?_)
            · refine tz_aload_n 0 0 C dX9_stem_70 rfl rfl ?_
              refine tz_getR C dX9_stem_71 fl_RX9_26 (by decide) rfl rfl ?_
              refine tz_getR C dX9_stem_74 fl_RX9_184 (by decide) rfl rfl ?_
              refine tz_iload_n 1 1 C dX9_stem_77 rfl rfl ?_
              obtain ⟨hin_10, h⟩ := h
              refine tz_iald C dX9_stem_78 (by decide) rfl hin_10 ?_
              exact hret _ _ _ _ dX9_stem_79 h
            · refine tz_aload_n 0 0 C dX9_stem_58 rfl rfl ?_
              refine tz_getR C dX9_stem_59 fl_RX9_26 (by decide) rfl rfl ?_
              refine tz_getR C dX9_stem_62 fl_RX9_181 (by decide) rfl rfl ?_
              refine tz_iload_n 1 1 C dX9_stem_65 rfl rfl ?_
              obtain ⟨hin_11, h⟩ := h
              refine tz_iald C dX9_stem_66 (by decide) rfl hin_11 ?_
              refine tz_goto 79 C dX9_stem_67 (by decide) ?_
              exact hret _ _ _ _ dX9_stem_79 h
          · refine tz_aload_n 0 0 C dX9_stem_43 rfl rfl ?_
            refine tz_getR C dX9_stem_44 fl_RX9_26 (by decide) rfl rfl ?_
            refine tz_getR C dX9_stem_47 fl_RX9_178 (by decide) rfl rfl ?_
            refine tz_iload_n 1 1 C dX9_stem_50 rfl rfl ?_
            obtain ⟨hin_12, h⟩ := h
            refine tz_iald C dX9_stem_51 (by decide) rfl hin_12 ?_
            exact hret _ _ _ _ dX9_stem_52 h
        · refine tz_aload_n 0 0 C dX9_stem_28 rfl rfl ?_
          refine tz_getR C dX9_stem_29 fl_RX9_26 (by decide) rfl rfl ?_
          refine tz_getR C dX9_stem_32 fl_RX9_175 (by decide) rfl rfl ?_
          refine tz_iload_n 1 1 C dX9_stem_35 rfl rfl ?_
          obtain ⟨hin_13, h⟩ := h
          refine tz_iald C dX9_stem_36 (by decide) rfl hin_13 ?_
          exact hret _ _ _ _ dX9_stem_37 h
      · refine tz_bipush (-2) (by decide) C dX9_stem_21 ?_
        exact hret _ _ _ _ dX9_stem_23 h

def vc_X9_letter (x1 : Int32) (x2 : Int32) (σ : tzS) (Q : Int32 → tzS → Prop) : Prop :=
  vc_X9_readText  σ (fun (σ_1 : tzS) =>
    vc_X9_noStem x1 σ_1 (fun (r_3 : Int32) (σ_2 : tzS) =>
      (r_3 = 0 →
        (x2 < 0 →
          Q (-2) σ_2) ∧
        (¬ x2 < 0 →
          vp_in x1 108 ∧ (
            (x2 < (σ_2.1 33 x1.toNatClampNeg) →
              vc_X6_letterOf x1 x2 σ_2 (fun (r_9 : Int32) (σ_8 : tzS) =>
                Q r_9 σ_8)) ∧
            (¬ x2 < (σ_2.1 33 x1.toNatClampNeg) →
              Q (-2) σ_2)))) ∧
      (¬ r_3 = 0 →
        Q (-2) σ_2)))
set_option maxRecDepth 20000 in
set_option maxHeartbeats 4000000 in
theorem m_X9_letter (G : tzG) (hG : tz_ok G) {x1 : Int32} {x2 : Int32}  {σ : tzS} {Q : Int32 → tzS → Prop} (h : vc_X9_letter x1 x2 σ Q) : tz_M G yX9_letter cX9_letter 3 (some .int) 4 99 [.ref 0, .int x1, .int x2] σ (tz_Qi G Q) := by
  unfold vc_X9_letter at h
  refine tz_starti hG RX9 [(0, .ref 0), (1, .int x1), (2, .int x2)] (by decide) rfl (Nat.le_of_ble_eq_true rfl) rfl (fun E C hret => ?_)
  refine tz_aload_n 0 0 C dX9_letter_0 rfl rfl ?_
  refine tz_callvv C dX9_letter_1 lk_RX9_113 (m_X9_readText G hG  h) (by decide) rfl rfl rfl rfl ⟨Nat.le_of_ble_eq_true rfl, Nat.le_of_ble_eq_true rfl⟩ (Nat.le_of_ble_eq_true rfl) rfl (fun σ_1 h => ?_)
  refine tz_aload_n 0 0 C dX9_letter_4 rfl rfl ?_
  refine tz_iload_n 1 1 C dX9_letter_5 rfl rfl ?_
  refine tz_calliv C dX9_letter_6 lk_RX9_172 (m_X9_noStem G hG  h) (by decide) rfl rfl rfl rfl ⟨Nat.le_of_ble_eq_true rfl, Nat.le_of_ble_eq_true rfl⟩ (Nat.le_of_ble_eq_true rfl) rfl (fun r_3 σ_2 h => ?_)
  refine tz_if_eq 15 C dX9_letter_9 (by decide) h (fun c_4 h => ?_) (fun c_4 h => ?_)
  · refine tz_iload_n 2 2 C dX9_letter_15 rfl rfl ?_
    refine tz_if_lt 32 C dX9_letter_16 (by decide) h (fun c_5 h => ?_) (fun c_5 h => ?_)
    · refine tz_bipush (-2) (by decide) C dX9_letter_32 ?_
      exact hret _ _ _ _ dX9_letter_34 h
    · refine tz_iload_n 2 2 C dX9_letter_19 rfl rfl ?_
      refine tz_aload_n 0 0 C dX9_letter_20 rfl rfl ?_
      refine tz_getR C dX9_letter_21 fl_RX9_26 (by decide) rfl rfl ?_
      refine tz_getR C dX9_letter_24 fl_RX9_175 (by decide) rfl rfl ?_
      refine tz_iload_n 1 1 C dX9_letter_27 rfl rfl ?_
      obtain ⟨hin_6, h⟩ := h
      refine tz_iald C dX9_letter_28 (by decide) rfl hin_6 ?_
      refine tz_icmp_lt 35 C dX9_letter_29 (by decide) h (fun c_7 h => ?_) (fun c_7 h => ?_)
      · refine tz_aload_n 0 0 C dX9_letter_35 rfl rfl ?_
        refine tz_getR C dX9_letter_36 fl_RX9_26 (by decide) rfl rfl ?_
        refine tz_iload_n 1 1 C dX9_letter_39 rfl rfl ?_
        refine tz_iload_n 2 2 C dX9_letter_40 rfl rfl ?_
        refine tz_calliv C dX9_letter_41 lk_RX9_187 (m_X6_letterOf G hG  h) (by decide) rfl rfl rfl rfl ⟨Nat.le_of_ble_eq_true rfl, Nat.le_of_ble_eq_true rfl⟩ (Nat.le_of_ble_eq_true rfl) rfl (fun r_9 σ_8 h => ?_)
        exact hret _ _ _ _ dX9_letter_44 h
      · refine tz_bipush (-2) (by decide) C dX9_letter_32 ?_
        exact hret _ _ _ _ dX9_letter_34 h
  · refine tz_bipush (-2) (by decide) C dX9_letter_12 ?_
    exact hret _ _ _ _ dX9_letter_14 h

def vc_X9_linkChains  (σ : tzS) (Q : tzS → Prop) : Prop :=
  ((σ.1 0 13) = 0 →
    vc_X1_fill (σ.1 132 2) σ (fun (σ_2 : tzS) =>
      ∀ σ_3 : tzS, σ_3 = tz_st σ_2 0 13 1 →
      Q σ_3)) ∧
  (¬ (σ.1 0 13) = 0 →
    Q σ)
set_option maxRecDepth 20000 in
set_option maxHeartbeats 4000000 in
theorem m_X9_linkChains (G : tzG) (hG : tz_ok G)   {σ : tzS} {Q : tzS → Prop} (h : vc_X9_linkChains  σ Q) : tz_M G yX9_linkChains cX9_linkChains 1 (none) 3 75 [.ref 0] σ (tz_Qv G Q) := by
  unfold vc_X9_linkChains at h
  refine tz_startv hG RX9 [(0, .ref 0)] (by decide) rfl (Nat.le_of_ble_eq_true rfl) rfl (fun E C hret => ?_)
  refine tz_aload_n 0 0 C dX9_linkChains_0 rfl rfl ?_
  refine tz_getI C dX9_linkChains_1 fl_RX9_87 (by decide) rfl rfl ?_
  refine tz_if_eq 8 C dX9_linkChains_4 (by decide) h (fun c_1 h => ?_) (fun c_1 h => ?_)
  · refine tz_aload_n 0 0 C dX9_linkChains_8 rfl rfl ?_
    refine tz_getR C dX9_linkChains_9 fl_RX9_33 (by decide) rfl rfl ?_
    refine tz_aload_n 0 0 C dX9_linkChains_12 rfl rfl ?_
    refine tz_getR C dX9_linkChains_13 fl_RX9_26 (by decide) rfl rfl ?_
    refine tz_aload_n 0 0 C dX9_linkChains_16 rfl rfl ?_
    refine tz_getR C dX9_linkChains_17 fl_RX9_72 (by decide) rfl rfl ?_
    refine tz_iconst 2 (by decide) C dX9_linkChains_20 ?_
    refine tz_iald_c 2 C dX9_linkChains_21 (by decide) rfl (tz_inl rfl) rfl ?_
    refine tz_callvv C dX9_linkChains_22 lk_RX9_374 (m_X1_fill G hG  h) (by decide) rfl rfl rfl rfl ⟨Nat.le_of_ble_eq_true rfl, Nat.le_of_ble_eq_true rfl⟩ (Nat.le_of_ble_eq_true rfl) rfl (fun σ_2 h => ?_)
    refine tz_aload_n 0 0 C dX9_linkChains_25 rfl rfl ?_
    refine tz_iconst 1 (by decide) C dX9_linkChains_26 ?_
    refine tz_put C dX9_linkChains_27 fp_RX9_87 (by decide) rfl rfl rfl rfl h (fun σ_3 h => ?_)
    exact hret _ _ _ dX9_linkChains_30 h
  · exact hret _ _ _ dX9_linkChains_7 h

def vc_X9_chains  (σ : tzS) (Q : Int32 → tzS → Prop) : Prop :=
  vc_X9_readText  σ (fun (σ_1 : tzS) =>
    vc_X9_linkChains  σ_1 (fun (σ_2 : tzS) =>
      Q (σ_2.1 38 0) σ_2))
set_option maxRecDepth 20000 in
set_option maxHeartbeats 4000000 in
theorem m_X9_chains (G : tzG) (hG : tz_ok G)   {σ : tzS} {Q : Int32 → tzS → Prop} (h : vc_X9_chains  σ Q) : tz_M G yX9_chains cX9_chains 1 (some .int) 4 99 [.ref 0] σ (tz_Qi G Q) := by
  unfold vc_X9_chains at h
  refine tz_starti hG RX9 [(0, .ref 0)] (by decide) rfl (Nat.le_of_ble_eq_true rfl) rfl (fun E C hret => ?_)
  refine tz_aload_n 0 0 C dX9_chains_0 rfl rfl ?_
  refine tz_callvv C dX9_chains_1 lk_RX9_113 (m_X9_readText G hG  h) (by decide) rfl rfl rfl rfl ⟨Nat.le_of_ble_eq_true rfl, Nat.le_of_ble_eq_true rfl⟩ (Nat.le_of_ble_eq_true rfl) rfl (fun σ_1 h => ?_)
  refine tz_aload_n 0 0 C dX9_chains_4 rfl rfl ?_
  refine tz_callvv C dX9_chains_5 lk_RX9_190 (m_X9_linkChains G hG  h) (by decide) rfl rfl rfl rfl ⟨Nat.le_of_ble_eq_true rfl, Nat.le_of_ble_eq_true rfl⟩ (Nat.le_of_ble_eq_true rfl) rfl (fun σ_2 h => ?_)
  refine tz_aload_n 0 0 C dX9_chains_8 rfl rfl ?_
  refine tz_getR C dX9_chains_9 fl_RX9_33 (by decide) rfl rfl ?_
  refine tz_getI C dX9_chains_12 fl_RX9_193 (by decide) rfl rfl ?_
  exact hret _ _ _ _ dX9_chains_15 h

def vc_X9_chain (x1 : Int32) (x2 : Int32) (σ : tzS) (Q : Int32 → tzS → Prop) : Prop :=
  (x1 < 0 →
    Q (-2) σ) ∧
  (¬ x1 < 0 →
    ((100 : Int32) ≤ x1 →
      Q (-2) σ) ∧
    (¬ (100 : Int32) ≤ x1 →
      (x2 < 0 →
        Q (-2) σ) ∧
      (¬ x2 < 0 →
        (x2 ≤ 4 →
          vc_X9_readText  σ (fun (σ_5 : tzS) =>
            vc_X9_linkChains  σ_5 (fun (σ_6 : tzS) =>
              (x1 < (σ_6.1 38 0) →
                (¬ x2 = 0 →
                  (¬ x2 = 1 →
                    (¬ x2 = 2 →
                      (¬ x2 = 3 →
                        vc_X1_weightOf x1 σ_6 (fun (r_13 : Int32) (σ_12 : tzS) =>
                          Q r_13 σ_12)) ∧
                      (x2 = 3 →
                        vp_in x1 100 ∧ (
                          Q (σ_6.1 42 x1.toNatClampNeg) σ_6))) ∧
                    (x2 = 2 →
                      vp_in x1 100 ∧ (
                        Q (σ_6.1 41 x1.toNatClampNeg) σ_6))) ∧
                  (x2 = 1 →
                    vp_in x1 100 ∧ (
                      Q (σ_6.1 40 x1.toNatClampNeg) σ_6))) ∧
                (x2 = 0 →
                  vp_in x1 100 ∧ (
                    Q (σ_6.1 39 x1.toNatClampNeg) σ_6))) ∧
              (¬ x1 < (σ_6.1 38 0) →
                Q (-1) σ_6)))) ∧
        (¬ x2 ≤ 4 →
          Q (-2) σ))))
set_option maxRecDepth 20000 in
set_option maxHeartbeats 4000000 in
theorem m_X9_chain (G : tzG) (hG : tz_ok G) {x1 : Int32} {x2 : Int32}  {σ : tzS} {Q : Int32 → tzS → Prop} (h : vc_X9_chain x1 x2 σ Q) : tz_M G yX9_chain cX9_chain 3 (some .int) 4 99 [.ref 0, .int x1, .int x2] σ (tz_Qi G Q) := by
  unfold vc_X9_chain at h
  refine tz_starti hG RX9 [(0, .ref 0), (1, .int x1), (2, .int x2)] (by decide) rfl (Nat.le_of_ble_eq_true rfl) rfl (fun E C hret => ?_)
  refine tz_iload_n 1 1 C dX9_chain_0 rfl rfl ?_
  refine tz_if_lt 19 C dX9_chain_1 (by decide) h (fun c_1 h => ?_) (fun c_1 h => ?_)
  · refine tz_bipush (-2) (by decide) C dX9_chain_19 ?_
    exact hret _ _ _ _ dX9_chain_21 h
  · refine tz_iload_n 1 1 C dX9_chain_4 rfl rfl ?_
    refine tz_bipush 100 (by decide) C dX9_chain_5 ?_
    refine tz_icmp_ge 19 C dX9_chain_7 (by decide) h (fun c_2 h => ?_) (fun c_2 h => ?_)
    · refine tz_bipush (-2) (by decide) C dX9_chain_19 ?_
      exact hret _ _ _ _ dX9_chain_21 h
    · refine tz_iload_n 2 2 C dX9_chain_10 rfl rfl ?_
      refine tz_if_lt 19 C dX9_chain_11 (by decide) h (fun c_3 h => ?_) (fun c_3 h => ?_)
      · refine tz_bipush (-2) (by decide) C dX9_chain_19 ?_
        exact hret _ _ _ _ dX9_chain_21 h
      · refine tz_iload_n 2 2 C dX9_chain_14 rfl rfl ?_
        refine tz_iconst 4 (by decide) C dX9_chain_15 ?_
        refine tz_icmp_le 22 C dX9_chain_16 (by decide) h (fun c_4 h => ?_) (fun c_4 h => ?_)
        · refine tz_aload_n 0 0 C dX9_chain_22 rfl rfl ?_
          refine tz_callvv C dX9_chain_23 lk_RX9_113 (m_X9_readText G hG  h) (by decide) rfl rfl rfl rfl ⟨Nat.le_of_ble_eq_true rfl, Nat.le_of_ble_eq_true rfl⟩ (Nat.le_of_ble_eq_true rfl) rfl (fun σ_5 h => ?_)
          refine tz_aload_n 0 0 C dX9_chain_26 rfl rfl ?_
          refine tz_callvv C dX9_chain_27 lk_RX9_190 (m_X9_linkChains G hG  h) (by decide) rfl rfl rfl rfl ⟨Nat.le_of_ble_eq_true rfl, Nat.le_of_ble_eq_true rfl⟩ (Nat.le_of_ble_eq_true rfl) rfl (fun σ_6 h => ?_)
          refine tz_iload_n 1 1 C dX9_chain_30 rfl rfl ?_
          refine tz_aload_n 0 0 C dX9_chain_31 rfl rfl ?_
          refine tz_getR C dX9_chain_32 fl_RX9_33 (by decide) rfl rfl ?_
          refine tz_getI C dX9_chain_35 fl_RX9_193 (by decide) rfl rfl ?_
          refine tz_icmp_lt 43 C dX9_chain_38 (by decide) h (fun c_7 h => ?_) (fun c_7 h => ?_)
          · refine tz_iload_n 2 2 C dX9_chain_43 rfl rfl ?_
            refine tz_if_ne 57 C dX9_chain_44 (by decide) h (fun c_8 h => ?_) (fun c_8 h => ?_)
            · refine tz_iload_n 2 2 C dX9_chain_57 rfl rfl ?_
              refine tz_iconst 1 (by decide) C dX9_chain_58 ?_
              refine tz_icmp_ne 72 C dX9_chain_59 (by decide) h (fun c_9 h => ?_) (fun c_9 h => ?_)
              · refine tz_iload_n 2 2 C dX9_chain_72 rfl rfl ?_
                refine tz_iconst 2 (by decide) C dX9_chain_73 ?_
                refine tz_icmp_ne 87 C dX9_chain_74 (by decide) h (fun c_10 h => ?_) (fun c_10 h => ?_)
                · refine tz_iload_n 2 2 C dX9_chain_87 rfl rfl ?_
                  refine tz_iconst 3 (by decide) C dX9_chain_88 ?_
                  refine tz_icmp_ne 104 C dX9_chain_89 (by decide) h (fun c_11 h => ?_) (fun c_11 h => ?_)
                  · refine tz_aload_n 0 0 C dX9_chain_104 rfl rfl ?_
                    refine tz_getR C dX9_chain_105 fl_RX9_33 (by decide) rfl rfl ?_
                    refine tz_iload_n 1 1 C dX9_chain_108 rfl rfl ?_
                    refine tz_calliv C dX9_chain_109 lk_RX9_202 (m_X1_weightOf G hG  h) (by decide) rfl rfl rfl rfl ⟨Nat.le_of_ble_eq_true rfl, Nat.le_of_ble_eq_true rfl⟩ (Nat.le_of_ble_eq_true rfl) rfl (fun r_13 σ_12 h => ?_)
                    exact hret _ _ _ _ dX9_chain_112 h
                  · refine tz_aload_n 0 0 C dX9_chain_92 rfl rfl ?_
                    refine tz_getR C dX9_chain_93 fl_RX9_33 (by decide) rfl rfl ?_
                    refine tz_getR C dX9_chain_96 fl_RX9_199 (by decide) rfl rfl ?_
                    refine tz_iload_n 1 1 C dX9_chain_99 rfl rfl ?_
                    obtain ⟨hin_14, h⟩ := h
                    refine tz_iald C dX9_chain_100 (by decide) rfl hin_14 ?_
                    refine tz_goto 112 C dX9_chain_101 (by decide) ?_
                    exact hret _ _ _ _ dX9_chain_112 h
                · refine tz_aload_n 0 0 C dX9_chain_77 rfl rfl ?_
                  refine tz_getR C dX9_chain_78 fl_RX9_33 (by decide) rfl rfl ?_
                  refine tz_getR C dX9_chain_81 fl_RX9_198 (by decide) rfl rfl ?_
                  refine tz_iload_n 1 1 C dX9_chain_84 rfl rfl ?_
                  obtain ⟨hin_15, h⟩ := h
                  refine tz_iald C dX9_chain_85 (by decide) rfl hin_15 ?_
                  exact hret _ _ _ _ dX9_chain_86 h
              · refine tz_aload_n 0 0 C dX9_chain_62 rfl rfl ?_
                refine tz_getR C dX9_chain_63 fl_RX9_33 (by decide) rfl rfl ?_
                refine tz_getR C dX9_chain_66 fl_RX9_197 (by decide) rfl rfl ?_
                refine tz_iload_n 1 1 C dX9_chain_69 rfl rfl ?_
                obtain ⟨hin_16, h⟩ := h
                refine tz_iald C dX9_chain_70 (by decide) rfl hin_16 ?_
                exact hret _ _ _ _ dX9_chain_71 h
            · refine tz_aload_n 0 0 C dX9_chain_47 rfl rfl ?_
              refine tz_getR C dX9_chain_48 fl_RX9_33 (by decide) rfl rfl ?_
              refine tz_getR C dX9_chain_51 fl_RX9_194 (by decide) rfl rfl ?_
              refine tz_iload_n 1 1 C dX9_chain_54 rfl rfl ?_
              obtain ⟨hin_17, h⟩ := h
              refine tz_iald C dX9_chain_55 (by decide) rfl hin_17 ?_
              exact hret _ _ _ _ dX9_chain_56 h
          · refine tz_iconst (-1) (by decide) C dX9_chain_41 ?_
            exact hret _ _ _ _ dX9_chain_42 h
        · refine tz_bipush (-2) (by decide) C dX9_chain_19 ?_
          exact hret _ _ _ _ dX9_chain_21 h

def vc_X9_noGap (x1 : Int32) (σ : tzS) (Q : Int32 → tzS → Prop) : Prop :=
  (x1 < 1 →
    Q 1 σ) ∧
  (¬ x1 < 1 →
    (x1 < (σ.1 4 0) →
      Q 0 σ) ∧
    (¬ x1 < (σ.1 4 0) →
      Q 1 σ))
set_option maxRecDepth 20000 in
set_option maxHeartbeats 4000000 in
theorem m_X9_noGap (G : tzG) (hG : tz_ok G) {x1 : Int32}  {σ : tzS} {Q : Int32 → tzS → Prop} (h : vc_X9_noGap x1 σ Q) : tz_M G yX9_noGap cX9_noGap 2 (some .boolean) 0 0 [.ref 0, .int x1] σ (tz_Qi G Q) := by
  unfold vc_X9_noGap at h
  refine tz_startz hG RX9 [(0, .ref 0), (1, .int x1)] (by decide) rfl (Nat.le_of_ble_eq_true rfl) rfl (fun E C hret => ?_)
  refine tz_iload_n 1 1 C dX9_noGap_0 rfl rfl ?_
  refine tz_iconst 1 (by decide) C dX9_noGap_1 ?_
  refine tz_icmp_lt 16 C dX9_noGap_2 (by decide) h (fun c_1 h => ?_) (fun c_1 h => ?_)
  · refine tz_iconst 1 (by decide) C dX9_noGap_16 ?_
    refine tz_goto 21 C dX9_noGap_17 (by decide) ?_
    exact hret _ _ _ _ dX9_noGap_21 rfl h
  · refine tz_iload_n 1 1 C dX9_noGap_5 rfl rfl ?_
    refine tz_aload_n 0 0 C dX9_noGap_6 rfl rfl ?_
    refine tz_getR C dX9_noGap_7 fl_RX9_26 (by decide) rfl rfl ?_
    refine tz_getI C dX9_noGap_10 fl_RX9_214 (by decide) rfl rfl ?_
    refine tz_icmp_lt 20 C dX9_noGap_13 (by decide) h (fun c_2 h => ?_) (fun c_2 h => ?_)
    · refine tz_iconst 0 (by decide) C dX9_noGap_20 ?_
      exact hret _ _ _ _ dX9_noGap_21 rfl h
    · refine tz_iconst 1 (by decide) C dX9_noGap_16 ?_
      refine tz_goto 21 C dX9_noGap_17 (by decide) ?_
      exact hret _ _ _ _ dX9_noGap_21 rfl h

def vc_X9_over (x1 : Int32) (x2 : Int32) (σ : tzS) (Q : Int32 → tzS → Prop) : Prop :=
  vc_X9_readText  σ (fun (σ_1 : tzS) =>
    vc_X9_noGap x1 σ_1 (fun (r_3 : Int32) (σ_2 : tzS) =>
      (¬ r_3 = 0 →
        Q (-2) σ_2) ∧
      (r_3 = 0 →
        (x2 < 0 →
          Q (-2) σ_2) ∧
        (¬ x2 < 0 →
          (x2 ≤ 1 →
            vc_X9_linkChains  σ_2 (fun (σ_7 : tzS) =>
              (¬ x2 = 0 →
                vc_X1_weightOver x1 σ_7 (fun (r_10 : Int32) (σ_9 : tzS) =>
                  Q r_10 σ_9)) ∧
              (x2 = 0 →
                vc_X1_numberOver x1 σ_7 (fun (r_12 : Int32) (σ_11 : tzS) =>
                  Q r_12 σ_11)))) ∧
          (¬ x2 ≤ 1 →
            Q (-2) σ_2)))))
set_option maxRecDepth 20000 in
set_option maxHeartbeats 4000000 in
theorem m_X9_over (G : tzG) (hG : tz_ok G) {x1 : Int32} {x2 : Int32}  {σ : tzS} {Q : Int32 → tzS → Prop} (h : vc_X9_over x1 x2 σ Q) : tz_M G yX9_over cX9_over 3 (some .int) 4 99 [.ref 0, .int x1, .int x2] σ (tz_Qi G Q) := by
  unfold vc_X9_over at h
  refine tz_starti hG RX9 [(0, .ref 0), (1, .int x1), (2, .int x2)] (by decide) rfl (Nat.le_of_ble_eq_true rfl) rfl (fun E C hret => ?_)
  refine tz_aload_n 0 0 C dX9_over_0 rfl rfl ?_
  refine tz_callvv C dX9_over_1 lk_RX9_113 (m_X9_readText G hG  h) (by decide) rfl rfl rfl rfl ⟨Nat.le_of_ble_eq_true rfl, Nat.le_of_ble_eq_true rfl⟩ (Nat.le_of_ble_eq_true rfl) rfl (fun σ_1 h => ?_)
  refine tz_aload_n 0 0 C dX9_over_4 rfl rfl ?_
  refine tz_iload_n 1 1 C dX9_over_5 rfl rfl ?_
  refine tz_calliv C dX9_over_6 lk_RX9_205 (m_X9_noGap G hG  h) (by decide) rfl rfl rfl rfl ⟨Nat.le_of_ble_eq_true rfl, Nat.le_of_ble_eq_true rfl⟩ (Nat.le_of_ble_eq_true rfl) rfl (fun r_3 σ_2 h => ?_)
  refine tz_if_ne 21 C dX9_over_9 (by decide) h (fun c_4 h => ?_) (fun c_4 h => ?_)
  · refine tz_bipush (-2) (by decide) C dX9_over_21 ?_
    exact hret _ _ _ _ dX9_over_23 h
  · refine tz_iload_n 2 2 C dX9_over_12 rfl rfl ?_
    refine tz_if_lt 21 C dX9_over_13 (by decide) h (fun c_5 h => ?_) (fun c_5 h => ?_)
    · refine tz_bipush (-2) (by decide) C dX9_over_21 ?_
      exact hret _ _ _ _ dX9_over_23 h
    · refine tz_iload_n 2 2 C dX9_over_16 rfl rfl ?_
      refine tz_iconst 1 (by decide) C dX9_over_17 ?_
      refine tz_icmp_le 24 C dX9_over_18 (by decide) h (fun c_6 h => ?_) (fun c_6 h => ?_)
      · refine tz_aload_n 0 0 C dX9_over_24 rfl rfl ?_
        refine tz_callvv C dX9_over_25 lk_RX9_190 (m_X9_linkChains G hG  h) (by decide) rfl rfl rfl rfl ⟨Nat.le_of_ble_eq_true rfl, Nat.le_of_ble_eq_true rfl⟩ (Nat.le_of_ble_eq_true rfl) rfl (fun σ_7 h => ?_)
        refine tz_iload_n 2 2 C dX9_over_28 rfl rfl ?_
        refine tz_if_ne 43 C dX9_over_29 (by decide) h (fun c_8 h => ?_) (fun c_8 h => ?_)
        · refine tz_aload_n 0 0 C dX9_over_43 rfl rfl ?_
          refine tz_getR C dX9_over_44 fl_RX9_33 (by decide) rfl rfl ?_
          refine tz_iload_n 1 1 C dX9_over_47 rfl rfl ?_
          refine tz_calliv C dX9_over_48 lk_RX9_211 (m_X1_weightOver G hG  h) (by decide) rfl rfl rfl rfl ⟨Nat.le_of_ble_eq_true rfl, Nat.le_of_ble_eq_true rfl⟩ (Nat.le_of_ble_eq_true rfl) rfl (fun r_10 σ_9 h => ?_)
          exact hret _ _ _ _ dX9_over_51 h
        · refine tz_aload_n 0 0 C dX9_over_32 rfl rfl ?_
          refine tz_getR C dX9_over_33 fl_RX9_33 (by decide) rfl rfl ?_
          refine tz_iload_n 1 1 C dX9_over_36 rfl rfl ?_
          refine tz_calliv C dX9_over_37 lk_RX9_208 (m_X1_numberOver G hG  h) (by decide) rfl rfl rfl rfl ⟨Nat.le_of_ble_eq_true rfl, Nat.le_of_ble_eq_true rfl⟩ (Nat.le_of_ble_eq_true rfl) rfl (fun r_12 σ_11 h => ?_)
          refine tz_goto 51 C dX9_over_40 (by decide) ?_
          exact hret _ _ _ _ dX9_over_51 h
      · refine tz_bipush (-2) (by decide) C dX9_over_21 ?_
        exact hret _ _ _ _ dX9_over_23 h

def vc_X9_partText  (σ : tzS) (Q : tzS → Prop) : Prop :=
  ((σ.1 0 14) = 0 →
    vc_X0_fill 43 (-1) (σ.1 132 0) (σ.1 132 1) σ (fun (σ_2 : tzS) =>
      vc_X5_fill 59 44 (σ_2.1 4 0) σ_2 (fun (σ_3 : tzS) =>
        ∀ σ_4 : tzS, σ_4 = tz_st σ_3 0 14 1 →
        Q σ_4))) ∧
  (¬ (σ.1 0 14) = 0 →
    Q σ)
set_option maxRecDepth 20000 in
set_option maxHeartbeats 4000000 in
theorem m_X9_partText (G : tzG) (hG : tz_ok G)   {σ : tzS} {Q : tzS → Prop} (h : vc_X9_partText  σ Q) : tz_M G yX9_partText cX9_partText 1 (none) 2 51 [.ref 0] σ (tz_Qv G Q) := by
  unfold vc_X9_partText at h
  refine tz_startv hG RX9 [(0, .ref 0)] (by decide) rfl (Nat.le_of_ble_eq_true rfl) rfl (fun E C hret => ?_)
  refine tz_aload_n 0 0 C dX9_partText_0 rfl rfl ?_
  refine tz_getI C dX9_partText_1 fl_RX9_90 (by decide) rfl rfl ?_
  refine tz_if_eq 8 C dX9_partText_4 (by decide) h (fun c_1 h => ?_) (fun c_1 h => ?_)
  · refine tz_aload_n 0 0 C dX9_partText_8 rfl rfl ?_
    refine tz_getR C dX9_partText_9 fl_RX9_40 (by decide) rfl rfl ?_
    refine tz_aload_n 0 0 C dX9_partText_12 rfl rfl ?_
    refine tz_getR C dX9_partText_13 fl_RX9_26 (by decide) rfl rfl ?_
    refine tz_iconst (-1) (by decide) C dX9_partText_16 ?_
    refine tz_aload_n 0 0 C dX9_partText_17 rfl rfl ?_
    refine tz_getR C dX9_partText_18 fl_RX9_72 (by decide) rfl rfl ?_
    refine tz_iconst 0 (by decide) C dX9_partText_21 ?_
    refine tz_iald_c 0 C dX9_partText_22 (by decide) rfl (tz_inl rfl) rfl ?_
    refine tz_aload_n 0 0 C dX9_partText_23 rfl rfl ?_
    refine tz_getR C dX9_partText_24 fl_RX9_72 (by decide) rfl rfl ?_
    refine tz_iconst 1 (by decide) C dX9_partText_27 ?_
    refine tz_iald_c 1 C dX9_partText_28 (by decide) rfl (tz_inl rfl) rfl ?_
    refine tz_callvv C dX9_partText_29 lk_RX9_377 (m_X0_fill G hG (by decide) h) (by decide) rfl rfl rfl rfl ⟨Nat.le_of_ble_eq_true rfl, Nat.le_of_ble_eq_true rfl⟩ (Nat.le_of_ble_eq_true rfl) rfl (fun σ_2 h => ?_)
    refine tz_aload_n 0 0 C dX9_partText_32 rfl rfl ?_
    refine tz_getR C dX9_partText_33 fl_RX9_47 (by decide) rfl rfl ?_
    refine tz_aload_n 0 0 C dX9_partText_36 rfl rfl ?_
    refine tz_getR C dX9_partText_37 fl_RX9_40 (by decide) rfl rfl ?_
    refine tz_getR C dX9_partText_40 fl_RX9_220 (by decide) rfl rfl ?_
    refine tz_aload_n 0 0 C dX9_partText_43 rfl rfl ?_
    refine tz_getR C dX9_partText_44 fl_RX9_26 (by decide) rfl rfl ?_
    refine tz_getI C dX9_partText_47 fl_RX9_214 (by decide) rfl rfl ?_
    refine tz_callvv C dX9_partText_50 lk_RX9_380 (m_X5_fill G hG (by decide) (by decide) h) (by decide) rfl rfl rfl rfl ⟨Nat.le_of_ble_eq_true rfl, Nat.le_of_ble_eq_true rfl⟩ (Nat.le_of_ble_eq_true rfl) rfl (fun σ_3 h => ?_)
    refine tz_aload_n 0 0 C dX9_partText_53 rfl rfl ?_
    refine tz_iconst 1 (by decide) C dX9_partText_54 ?_
    refine tz_put C dX9_partText_55 fp_RX9_90 (by decide) rfl rfl rfl rfl h (fun σ_4 h => ?_)
    exact hret _ _ _ dX9_partText_58 h
  · exact hret _ _ _ dX9_partText_7 h

def vc_X9_cost (x1 : Int32) (x2 : Int32) (σ : tzS) (Q : Int32 → tzS → Prop) : Prop :=
  vc_X9_readText  σ (fun (σ_1 : tzS) =>
    ∀ x3_2 : Int32, x3_2 = (σ_1.1 4 0) →
    (x1 < 0 →
      Q (-2) σ_1) ∧
    (¬ x1 < 0 →
      (x3_2 < x1 →
        Q (-2) σ_1) ∧
      (¬ x3_2 < x1 →
        (x2 < 0 →
          Q (-2) σ_1) ∧
        (¬ x2 < 0 →
          (x2 ≤ x3_2 →
            (x1 < x2 →
              vc_X9_partText  σ_1 (fun (σ_8 : tzS) =>
                vp_in x1 13 ∧ (
                  vp_in x2 13 ∧ (
                    Q (σ_8.1 (45 + x1.toNatClampNeg) x2.toNatClampNeg) σ_8)))) ∧
            (¬ x1 < x2 →
              Q (-3) σ_1)) ∧
          (¬ x2 ≤ x3_2 →
            Q (-2) σ_1)))))
set_option maxRecDepth 20000 in
set_option maxHeartbeats 4000000 in
theorem m_X9_cost (G : tzG) (hG : tz_ok G) {x1 : Int32} {x2 : Int32}  {σ : tzS} {Q : Int32 → tzS → Prop} (h : vc_X9_cost x1 x2 σ Q) : tz_M G yX9_cost cX9_cost 4 (some .int) 4 99 [.ref 0, .int x1, .int x2] σ (tz_Qi G Q) := by
  unfold vc_X9_cost at h
  refine tz_starti hG RX9 [(0, .ref 0), (1, .int x1), (2, .int x2)] (by decide) rfl (Nat.le_of_ble_eq_true rfl) rfl (fun E C hret => ?_)
  refine tz_aload_n 0 0 C dX9_cost_0 rfl rfl ?_
  refine tz_callvv C dX9_cost_1 lk_RX9_113 (m_X9_readText G hG  h) (by decide) rfl rfl rfl rfl ⟨Nat.le_of_ble_eq_true rfl, Nat.le_of_ble_eq_true rfl⟩ (Nat.le_of_ble_eq_true rfl) rfl (fun σ_1 h => ?_)
  refine tz_aload_n 0 0 C dX9_cost_4 rfl rfl ?_
  refine tz_getR C dX9_cost_5 fl_RX9_26 (by decide) rfl rfl ?_
  refine tz_getI C dX9_cost_8 fl_RX9_214 (by decide) rfl rfl ?_
  refine tz_istore_n 3 [(0, .ref 0), (1, .int x1), (2, .int x2)] C dX9_cost_11 rfl (Nat.le_of_ble_eq_true rfl) rfl h (fun x3_2 h => ?_)
  refine tz_iload_n 1 2 C dX9_cost_12 rfl rfl ?_
  refine tz_if_lt 30 C dX9_cost_13 (by decide) h (fun c_3 h => ?_) (fun c_3 h => ?_)
  · refine tz_bipush (-2) (by decide) C dX9_cost_30 ?_
    exact hret _ _ _ _ dX9_cost_32 h
  · refine tz_iload_n 1 2 C dX9_cost_16 rfl rfl ?_
    refine tz_iload_n 3 0 C dX9_cost_17 rfl rfl ?_
    refine tz_icmp_gt 30 C dX9_cost_18 (by decide) h (fun c_4 h => ?_) (fun c_4 h => ?_)
    · refine tz_bipush (-2) (by decide) C dX9_cost_30 ?_
      exact hret _ _ _ _ dX9_cost_32 h
    · refine tz_iload_n 2 3 C dX9_cost_21 rfl rfl ?_
      refine tz_if_lt 30 C dX9_cost_22 (by decide) h (fun c_5 h => ?_) (fun c_5 h => ?_)
      · refine tz_bipush (-2) (by decide) C dX9_cost_30 ?_
        exact hret _ _ _ _ dX9_cost_32 h
      · refine tz_iload_n 2 3 C dX9_cost_25 rfl rfl ?_
        refine tz_iload_n 3 0 C dX9_cost_26 rfl rfl ?_
        refine tz_icmp_le 33 C dX9_cost_27 (by decide) h (fun c_6 h => ?_) (fun c_6 h => ?_)
        · refine tz_iload_n 2 3 C dX9_cost_33 rfl rfl ?_
          refine tz_iload_n 1 2 C dX9_cost_34 rfl rfl ?_
          refine tz_icmp_gt 41 C dX9_cost_35 (by decide) h (fun c_7 h => ?_) (fun c_7 h => ?_)
          · refine tz_aload_n 0 1 C dX9_cost_41 rfl rfl ?_
            refine tz_callvv C dX9_cost_42 lk_RX9_217 (m_X9_partText G hG  h) (by decide) rfl rfl rfl rfl ⟨Nat.le_of_ble_eq_true rfl, Nat.le_of_ble_eq_true rfl⟩ (Nat.le_of_ble_eq_true rfl) rfl (fun σ_8 h => ?_)
            refine tz_aload_n 0 1 C dX9_cost_45 rfl rfl ?_
            refine tz_getR C dX9_cost_46 fl_RX9_40 (by decide) rfl rfl ?_
            refine tz_getR C dX9_cost_49 fl_RX9_220 (by decide) rfl rfl ?_
            refine tz_iload_n 1 2 C dX9_cost_52 rfl rfl ?_
            obtain ⟨hin_9, h⟩ := h
            refine tz_aald C dX9_cost_53 (by decide) rfl hin_9 ?_
            refine tz_iload_n 2 3 C dX9_cost_54 rfl rfl ?_
            obtain ⟨hin_10, h⟩ := h
            refine tz_iald C dX9_cost_55 (tz_rowlt hin_9 (by decide)) (tz_rows hin_9 (by decide)) hin_10 ?_
            exact hret _ _ _ _ dX9_cost_56 h
          · refine tz_bipush (-3) (by decide) C dX9_cost_38 ?_
            exact hret _ _ _ _ dX9_cost_40 h
        · refine tz_bipush (-2) (by decide) C dX9_cost_30 ?_
          exact hret _ _ _ _ dX9_cost_32 h

def vc_X9_noParts (x0 : Int32) (σ : tzS) (Q : Int32 → tzS → Prop) : Prop :=
  (x0 < 1 →
    Q 1 σ) ∧
  (¬ x0 < 1 →
    (x0 ≤ 8 →
      Q 0 σ) ∧
    (¬ x0 ≤ 8 →
      Q 1 σ))
set_option maxRecDepth 20000 in
set_option maxHeartbeats 4000000 in
theorem m_X9_noParts (G : tzG) (hG : tz_ok G) {x0 : Int32}  {σ : tzS} {Q : Int32 → tzS → Prop} (h : vc_X9_noParts x0 σ Q) : tz_M G yX9_noParts cX9_noParts 1 (some .boolean) 0 0 [.int x0] σ (tz_Qi G Q) := by
  unfold vc_X9_noParts at h
  refine tz_startz hG RX9 [(0, .int x0)] (by decide) rfl (Nat.le_of_ble_eq_true rfl) rfl (fun E C hret => ?_)
  refine tz_iload_n 0 0 C dX9_noParts_0 rfl rfl ?_
  refine tz_iconst 1 (by decide) C dX9_noParts_1 ?_
  refine tz_icmp_lt 11 C dX9_noParts_2 (by decide) h (fun c_1 h => ?_) (fun c_1 h => ?_)
  · refine tz_iconst 1 (by decide) C dX9_noParts_11 ?_
    refine tz_goto 16 C dX9_noParts_12 (by decide) ?_
    exact hret _ _ _ _ dX9_noParts_16 rfl h
  · refine tz_iload_n 0 0 C dX9_noParts_5 rfl rfl ?_
    refine tz_bipush 8 (by decide) C dX9_noParts_6 ?_
    refine tz_icmp_le 15 C dX9_noParts_8 (by decide) h (fun c_2 h => ?_) (fun c_2 h => ?_)
    · refine tz_iconst 0 (by decide) C dX9_noParts_15 ?_
      exact hret _ _ _ _ dX9_noParts_16 rfl h
    · refine tz_iconst 1 (by decide) C dX9_noParts_11 ?_
      refine tz_goto 16 C dX9_noParts_12 (by decide) ?_
      exact hret _ _ _ _ dX9_noParts_16 rfl h

def vc_X9_best (x1 : Int32) (σ : tzS) (Q : Int32 → tzS → Prop) : Prop :=
  vc_X9_noParts x1 σ (fun (r_2 : Int32) (σ_1 : tzS) =>
    (r_2 = 0 →
      vc_X9_readText  σ_1 (fun (σ_4 : tzS) =>
        (x1 ≤ (σ_4.1 4 0) →
          vc_X9_partText  σ_4 (fun (σ_6 : tzS) =>
            vc_X5_totalOf 59 x1 (σ_6.1 4 0) σ_6 (fun (r_8 : Int32) (σ_7 : tzS) =>
              Q r_8 σ_7))) ∧
        (¬ x1 ≤ (σ_4.1 4 0) →
          Q (-1) σ_4))) ∧
    (¬ r_2 = 0 →
      Q (-2) σ_1))
set_option maxRecDepth 20000 in
set_option maxHeartbeats 4000000 in
theorem m_X9_best (G : tzG) (hG : tz_ok G) {x1 : Int32}  {σ : tzS} {Q : Int32 → tzS → Prop} (h : vc_X9_best x1 σ Q) : tz_M G yX9_best cX9_best 2 (some .int) 4 99 [.ref 0, .int x1] σ (tz_Qi G Q) := by
  unfold vc_X9_best at h
  refine tz_starti hG RX9 [(0, .ref 0), (1, .int x1)] (by decide) rfl (Nat.le_of_ble_eq_true rfl) rfl (fun E C hret => ?_)
  refine tz_iload_n 1 1 C dX9_best_0 rfl rfl ?_
  refine tz_callis C dX9_best_1 lk_RX9_223 (m_X9_noParts G hG  h) rfl ⟨Nat.le_of_ble_eq_true rfl, Nat.le_of_ble_eq_true rfl⟩ (Nat.le_of_ble_eq_true rfl) rfl (fun r_2 σ_1 h => ?_)
  refine tz_if_eq 10 C dX9_best_4 (by decide) h (fun c_3 h => ?_) (fun c_3 h => ?_)
  · refine tz_aload_n 0 0 C dX9_best_10 rfl rfl ?_
    refine tz_callvv C dX9_best_11 lk_RX9_113 (m_X9_readText G hG  h) (by decide) rfl rfl rfl rfl ⟨Nat.le_of_ble_eq_true rfl, Nat.le_of_ble_eq_true rfl⟩ (Nat.le_of_ble_eq_true rfl) rfl (fun σ_4 h => ?_)
    refine tz_iload_n 1 1 C dX9_best_14 rfl rfl ?_
    refine tz_aload_n 0 0 C dX9_best_15 rfl rfl ?_
    refine tz_getR C dX9_best_16 fl_RX9_26 (by decide) rfl rfl ?_
    refine tz_getI C dX9_best_19 fl_RX9_214 (by decide) rfl rfl ?_
    refine tz_icmp_le 27 C dX9_best_22 (by decide) h (fun c_5 h => ?_) (fun c_5 h => ?_)
    · refine tz_aload_n 0 0 C dX9_best_27 rfl rfl ?_
      refine tz_callvv C dX9_best_28 lk_RX9_217 (m_X9_partText G hG  h) (by decide) rfl rfl rfl rfl ⟨Nat.le_of_ble_eq_true rfl, Nat.le_of_ble_eq_true rfl⟩ (Nat.le_of_ble_eq_true rfl) rfl (fun σ_6 h => ?_)
      refine tz_aload_n 0 0 C dX9_best_31 rfl rfl ?_
      refine tz_getR C dX9_best_32 fl_RX9_47 (by decide) rfl rfl ?_
      refine tz_iload_n 1 1 C dX9_best_35 rfl rfl ?_
      refine tz_aload_n 0 0 C dX9_best_36 rfl rfl ?_
      refine tz_getR C dX9_best_37 fl_RX9_26 (by decide) rfl rfl ?_
      refine tz_getI C dX9_best_40 fl_RX9_214 (by decide) rfl rfl ?_
      refine tz_calliv C dX9_best_43 lk_RX9_226 (m_X5_totalOf G hG (by decide) h) (by decide) rfl rfl rfl rfl ⟨Nat.le_of_ble_eq_true rfl, Nat.le_of_ble_eq_true rfl⟩ (Nat.le_of_ble_eq_true rfl) rfl (fun r_8 σ_7 h => ?_)
      exact hret _ _ _ _ dX9_best_46 h
    · refine tz_iconst (-1) (by decide) C dX9_best_25 ?_
      exact hret _ _ _ _ dX9_best_26 h
  · refine tz_bipush (-2) (by decide) C dX9_best_7 ?_
    exact hret _ _ _ _ dX9_best_9 h

def vc_X9_seam (x1 : Int32) (x2 : Int32) (σ : tzS) (Q : Int32 → tzS → Prop) : Prop :=
  vc_X9_noParts x1 σ (fun (r_2 : Int32) (σ_1 : tzS) =>
    (¬ r_2 = 0 →
      Q (-2) σ_1) ∧
    (r_2 = 0 →
      (x2 < 0 →
        Q (-2) σ_1) ∧
      (¬ x2 < 0 →
        (x2 < 8 →
          vc_X9_readText  σ_1 (fun (σ_6 : tzS) =>
            ((σ_6.1 4 0) < x1 →
              Q (-1) σ_6) ∧
            (¬ (σ_6.1 4 0) < x1 →
              (x2 < x1 →
                vc_X9_partText  σ_6 (fun (σ_9 : tzS) =>
                  vc_X5_beginOf 59 x1 x2 (σ_9.1 4 0) σ_9 (fun (r_11 : Int32) (σ_10 : tzS) =>
                    Q r_11 σ_10))) ∧
              (¬ x2 < x1 →
                Q (-1) σ_6)))) ∧
        (¬ x2 < 8 →
          Q (-2) σ_1))))
set_option maxRecDepth 20000 in
set_option maxHeartbeats 4000000 in
theorem m_X9_seam (G : tzG) (hG : tz_ok G) {x1 : Int32} {x2 : Int32}  {σ : tzS} {Q : Int32 → tzS → Prop} (h : vc_X9_seam x1 x2 σ Q) : tz_M G yX9_seam cX9_seam 3 (some .int) 4 99 [.ref 0, .int x1, .int x2] σ (tz_Qi G Q) := by
  unfold vc_X9_seam at h
  refine tz_starti hG RX9 [(0, .ref 0), (1, .int x1), (2, .int x2)] (by decide) rfl (Nat.le_of_ble_eq_true rfl) rfl (fun E C hret => ?_)
  refine tz_iload_n 1 1 C dX9_seam_0 rfl rfl ?_
  refine tz_callis C dX9_seam_1 lk_RX9_223 (m_X9_noParts G hG  h) rfl ⟨Nat.le_of_ble_eq_true rfl, Nat.le_of_ble_eq_true rfl⟩ (Nat.le_of_ble_eq_true rfl) rfl (fun r_2 σ_1 h => ?_)
  refine tz_if_ne 17 C dX9_seam_4 (by decide) h (fun c_3 h => ?_) (fun c_3 h => ?_)
  · refine tz_bipush (-2) (by decide) C dX9_seam_17 ?_
    exact hret _ _ _ _ dX9_seam_19 h
  · refine tz_iload_n 2 2 C dX9_seam_7 rfl rfl ?_
    refine tz_if_lt 17 C dX9_seam_8 (by decide) h (fun c_4 h => ?_) (fun c_4 h => ?_)
    · refine tz_bipush (-2) (by decide) C dX9_seam_17 ?_
      exact hret _ _ _ _ dX9_seam_19 h
    · refine tz_iload_n 2 2 C dX9_seam_11 rfl rfl ?_
      refine tz_bipush 8 (by decide) C dX9_seam_12 ?_
      refine tz_icmp_lt 20 C dX9_seam_14 (by decide) h (fun c_5 h => ?_) (fun c_5 h => ?_)
      · refine tz_aload_n 0 0 C dX9_seam_20 rfl rfl ?_
        refine tz_callvv C dX9_seam_21 lk_RX9_113 (m_X9_readText G hG  h) (by decide) rfl rfl rfl rfl ⟨Nat.le_of_ble_eq_true rfl, Nat.le_of_ble_eq_true rfl⟩ (Nat.le_of_ble_eq_true rfl) rfl (fun σ_6 h => ?_)
        refine tz_iload_n 1 1 C dX9_seam_24 rfl rfl ?_
        refine tz_aload_n 0 0 C dX9_seam_25 rfl rfl ?_
        refine tz_getR C dX9_seam_26 fl_RX9_26 (by decide) rfl rfl ?_
        refine tz_getI C dX9_seam_29 fl_RX9_214 (by decide) rfl rfl ?_
        refine tz_icmp_gt 40 C dX9_seam_32 (by decide) h (fun c_7 h => ?_) (fun c_7 h => ?_)
        · refine tz_iconst (-1) (by decide) C dX9_seam_40 ?_
          exact hret _ _ _ _ dX9_seam_41 h
        · refine tz_iload_n 2 2 C dX9_seam_35 rfl rfl ?_
          refine tz_iload_n 1 1 C dX9_seam_36 rfl rfl ?_
          refine tz_icmp_lt 42 C dX9_seam_37 (by decide) h (fun c_8 h => ?_) (fun c_8 h => ?_)
          · refine tz_aload_n 0 0 C dX9_seam_42 rfl rfl ?_
            refine tz_callvv C dX9_seam_43 lk_RX9_217 (m_X9_partText G hG  h) (by decide) rfl rfl rfl rfl ⟨Nat.le_of_ble_eq_true rfl, Nat.le_of_ble_eq_true rfl⟩ (Nat.le_of_ble_eq_true rfl) rfl (fun σ_9 h => ?_)
            refine tz_aload_n 0 0 C dX9_seam_46 rfl rfl ?_
            refine tz_getR C dX9_seam_47 fl_RX9_47 (by decide) rfl rfl ?_
            refine tz_iload_n 1 1 C dX9_seam_50 rfl rfl ?_
            refine tz_iload_n 2 2 C dX9_seam_51 rfl rfl ?_
            refine tz_aload_n 0 0 C dX9_seam_52 rfl rfl ?_
            refine tz_getR C dX9_seam_53 fl_RX9_26 (by decide) rfl rfl ?_
            refine tz_getI C dX9_seam_56 fl_RX9_214 (by decide) rfl rfl ?_
            refine tz_calliv C dX9_seam_59 lk_RX9_229 (m_X5_beginOf G hG (by decide) h) (by decide) rfl rfl rfl rfl ⟨Nat.le_of_ble_eq_true rfl, Nat.le_of_ble_eq_true rfl⟩ (Nat.le_of_ble_eq_true rfl) rfl (fun r_11 σ_10 h => ?_)
            exact hret _ _ _ _ dX9_seam_62 h
          · refine tz_iconst (-1) (by decide) C dX9_seam_40 ?_
            exact hret _ _ _ _ dX9_seam_41 h
      · refine tz_bipush (-2) (by decide) C dX9_seam_17 ?_
        exact hret _ _ _ _ dX9_seam_19 h

def vc_X9_bent  (σ : tzS) (Q : Int32 → tzS → Prop) : Prop :=
  vc_X9_readText  σ (fun (σ_1 : tzS) =>
    vc_X9_partText  σ_1 (fun (σ_2 : tzS) =>
      tz_loop2 (fun (x1_5 : Int32) (x2_6 : Int32) (σ_4 : tzS) (ag_3 : Int32 → Int32 → tzS → Prop) =>
        ((8 : Int32) ≤ x2_6 →
          Q x1_5 σ_4) ∧
        (¬ (8 : Int32) ≤ x2_6 →
          ((σ_4.1 4 0) ≤ x2_6 →
            Q x1_5 σ_4) ∧
          (¬ (σ_4.1 4 0) ≤ x2_6 →
            vc_X5_isBent 59 x2_6 (σ_4.1 4 0) σ_4 (fun (r_10 : Int32) (σ_9 : tzS) =>
              (r_10 = 0 →
                ∀ x2_12 : Int32, x2_12 = x2_6 + 1 →
                ag_3 x1_5 x2_12 σ_9) ∧
              (¬ r_10 = 0 →
                ∀ x1_13 : Int32, x1_13 = (x1_5 ||| ((1 : Int32) <<< (x2_6 &&& 31))) →
                ∀ x2_14 : Int32, x2_14 = x2_6 + 1 →
                ag_3 x1_13 x2_14 σ_9))))) (0 : Int32) (2 : Int32) σ_2))
set_option maxRecDepth 20000 in
set_option maxHeartbeats 4000000 in
theorem m_X9_bent (G : tzG) (hG : tz_ok G)   {σ : tzS} {Q : Int32 → tzS → Prop} (h : vc_X9_bent  σ Q) : tz_M G yX9_bent cX9_bent 3 (some .int) 4 99 [.ref 0] σ (tz_Qi G Q) := by
  unfold vc_X9_bent at h
  refine tz_starti hG RX9 [(0, .ref 0)] (by decide) rfl (Nat.le_of_ble_eq_true rfl) rfl (fun E C hret => ?_)
  refine tz_aload_n 0 0 C dX9_bent_0 rfl rfl ?_
  refine tz_callvv C dX9_bent_1 lk_RX9_113 (m_X9_readText G hG  h) (by decide) rfl rfl rfl rfl ⟨Nat.le_of_ble_eq_true rfl, Nat.le_of_ble_eq_true rfl⟩ (Nat.le_of_ble_eq_true rfl) rfl (fun σ_1 h => ?_)
  refine tz_aload_n 0 0 C dX9_bent_4 rfl rfl ?_
  refine tz_callvv C dX9_bent_5 lk_RX9_217 (m_X9_partText G hG  h) (by decide) rfl rfl rfl rfl ⟨Nat.le_of_ble_eq_true rfl, Nat.le_of_ble_eq_true rfl⟩ (Nat.le_of_ble_eq_true rfl) rfl (fun σ_2 h => ?_)
  refine tz_iconst 0 (by decide) C dX9_bent_8 ?_
  refine tz_istore_n_k 1 [(0, .ref 0)] C dX9_bent_9 rfl (Nat.le_of_ble_eq_true rfl) rfl ?_
  refine tz_iconst 2 (by decide) C dX9_bent_10 ?_
  refine tz_istore_n_k 2 [(1, .int 0), (0, .ref 0)] C dX9_bent_11 rfl (Nat.le_of_ble_eq_true rfl) rfl ?_
  refine tz_sub (L := [(0, .ref 0), (1, .int 0), (2, .int 2)]) ?_ [2, 1, 0] rfl
  refine tz_loop2_w (V := fun (x1_5 : Int32) (x2_6 : Int32) (σ_4 : tzS) => tz_V G E 12 [(0, .ref 0), (1, .int x1_5), (2, .int x2_6)] [] σ_4) h (fun ag_3 ihag_3 x1_5 x2_6 σ_4 h => ?_)
  refine tz_iload_n 2 2 C dX9_bent_12 rfl rfl ?_
  refine tz_bipush 8 (by decide) C dX9_bent_13 ?_
  refine tz_icmp_ge 59 C dX9_bent_15 (by decide) h (fun c_7 h => ?_) (fun c_7 h => ?_)
  · refine tz_iload_n 1 1 C dX9_bent_59 rfl rfl ?_
    exact hret _ _ _ _ dX9_bent_60 h
  · refine tz_iload_n 2 2 C dX9_bent_18 rfl rfl ?_
    refine tz_aload_n 0 0 C dX9_bent_19 rfl rfl ?_
    refine tz_getR C dX9_bent_20 fl_RX9_26 (by decide) rfl rfl ?_
    refine tz_getI C dX9_bent_23 fl_RX9_214 (by decide) rfl rfl ?_
    refine tz_icmp_ge 59 C dX9_bent_26 (by decide) h (fun c_8 h => ?_) (fun c_8 h => ?_)
    · refine tz_iload_n 1 1 C dX9_bent_59 rfl rfl ?_
      exact hret _ _ _ _ dX9_bent_60 h
    · refine tz_aload_n 0 0 C dX9_bent_29 rfl rfl ?_
      refine tz_getR C dX9_bent_30 fl_RX9_47 (by decide) rfl rfl ?_
      refine tz_iload_n 2 2 C dX9_bent_33 rfl rfl ?_
      refine tz_aload_n 0 0 C dX9_bent_34 rfl rfl ?_
      refine tz_getR C dX9_bent_35 fl_RX9_26 (by decide) rfl rfl ?_
      refine tz_getI C dX9_bent_38 fl_RX9_214 (by decide) rfl rfl ?_
      refine tz_calliv C dX9_bent_41 lk_RX9_233 (m_X5_isBent G hG (by decide) h) (by decide) rfl rfl rfl rfl ⟨Nat.le_of_ble_eq_true rfl, Nat.le_of_ble_eq_true rfl⟩ (Nat.le_of_ble_eq_true rfl) rfl (fun r_10 σ_9 h => ?_)
      refine tz_if_eq 53 C dX9_bent_44 (by decide) h (fun c_11 h => ?_) (fun c_11 h => ?_)
      · refine tz_iinc 2 [(0, .ref 0), (1, .int x1_5)] 1 C dX9_bent_53 (by decide) rfl (Nat.le_of_ble_eq_true rfl) rfl h (fun x2_12 h => ?_)
        refine tz_goto 12 C dX9_bent_56 (by decide) ?_
        exact tz_sub (ihag_3 _ _ _ h) [1, 2, 0] rfl
      · refine tz_iload_n 1 1 C dX9_bent_47 rfl rfl ?_
        refine tz_iconst 1 (by decide) C dX9_bent_48 ?_
        refine tz_iload_n 2 2 C dX9_bent_49 rfl rfl ?_
        refine tz_ishl C dX9_bent_50 ?_
        refine tz_ior C dX9_bent_51 ?_
        refine tz_istore_n 1 [(0, .ref 0), (2, .int x2_6)] C dX9_bent_52 rfl (Nat.le_of_ble_eq_true rfl) rfl h (fun x1_13 h => ?_)
        refine tz_iinc 2 [(1, .int x1_13), (0, .ref 0)] 1 C dX9_bent_53 (by decide) rfl (Nat.le_of_ble_eq_true rfl) rfl h (fun x2_14 h => ?_)
        refine tz_goto 12 C dX9_bent_56 (by decide) ?_
        exact tz_sub (ihag_3 _ _ _ h) [2, 1, 0] rfl

def vc_X9_dropSentences  (σ : tzS) (Q : tzS → Prop) : Prop :=
  ((σ.1 0 15) = 0 →
    vc_X2_fill (σ.1 132 0) (σ.1 132 1) σ (fun (σ_2 : tzS) =>
      ∀ σ_3 : tzS, σ_3 = tz_st σ_2 0 15 1 →
      Q σ_3)) ∧
  (¬ (σ.1 0 15) = 0 →
    Q σ)
set_option maxRecDepth 20000 in
set_option maxHeartbeats 4000000 in
theorem m_X9_dropSentences (G : tzG) (hG : tz_ok G)   {σ : tzS} {Q : tzS → Prop} (h : vc_X9_dropSentences  σ Q) : tz_M G yX9_dropSentences cX9_dropSentences 1 (none) 3 77 [.ref 0] σ (tz_Qv G Q) := by
  unfold vc_X9_dropSentences at h
  refine tz_startv hG RX9 [(0, .ref 0)] (by decide) rfl (Nat.le_of_ble_eq_true rfl) rfl (fun E C hret => ?_)
  refine tz_aload_n 0 0 C dX9_dropSentences_0 rfl rfl ?_
  refine tz_getI C dX9_dropSentences_1 fl_RX9_93 (by decide) rfl rfl ?_
  refine tz_if_eq 8 C dX9_dropSentences_4 (by decide) h (fun c_1 h => ?_) (fun c_1 h => ?_)
  · refine tz_aload_n 0 0 C dX9_dropSentences_8 rfl rfl ?_
    refine tz_getR C dX9_dropSentences_9 fl_RX9_54 (by decide) rfl rfl ?_
    refine tz_aload_n 0 0 C dX9_dropSentences_12 rfl rfl ?_
    refine tz_getR C dX9_dropSentences_13 fl_RX9_26 (by decide) rfl rfl ?_
    refine tz_aload_n 0 0 C dX9_dropSentences_16 rfl rfl ?_
    refine tz_getR C dX9_dropSentences_17 fl_RX9_72 (by decide) rfl rfl ?_
    refine tz_iconst 0 (by decide) C dX9_dropSentences_20 ?_
    refine tz_iald_c 0 C dX9_dropSentences_21 (by decide) rfl (tz_inl rfl) rfl ?_
    refine tz_aload_n 0 0 C dX9_dropSentences_22 rfl rfl ?_
    refine tz_getR C dX9_dropSentences_23 fl_RX9_72 (by decide) rfl rfl ?_
    refine tz_iconst 1 (by decide) C dX9_dropSentences_26 ?_
    refine tz_iald_c 1 C dX9_dropSentences_27 (by decide) rfl (tz_inl rfl) rfl ?_
    refine tz_callvv C dX9_dropSentences_28 lk_RX9_383 (m_X2_fill G hG  h) (by decide) rfl rfl rfl rfl ⟨Nat.le_of_ble_eq_true rfl, Nat.le_of_ble_eq_true rfl⟩ (Nat.le_of_ble_eq_true rfl) rfl (fun σ_2 h => ?_)
    refine tz_aload_n 0 0 C dX9_dropSentences_31 rfl rfl ?_
    refine tz_iconst 1 (by decide) C dX9_dropSentences_32 ?_
    refine tz_put C dX9_dropSentences_33 fp_RX9_93 (by decide) rfl rfl rfl rfl h (fun σ_3 h => ?_)
    exact hret _ _ _ dX9_dropSentences_36 h
  · exact hret _ _ _ dX9_dropSentences_7 h

def vc_X9_drop (x1 : Int32) (x2 : Int32) (σ : tzS) (Q : Int32 → tzS → Prop) : Prop :=
  vc_X9_noParts x1 σ (fun (r_2 : Int32) (σ_1 : tzS) =>
    (¬ r_2 = 0 →
      Q (-2) σ_1) ∧
    (r_2 = 0 →
      (x2 < 0 →
        Q (-2) σ_1) ∧
      (¬ x2 < 0 →
        (x2 ≤ 1 →
          vc_X9_readText  σ_1 (fun (σ_6 : tzS) =>
            vc_X9_dropSentences  σ_6 (fun (σ_7 : tzS) =>
              (¬ x2 = 0 →
                vp_in x1 9 ∧ (
                  Q (σ_7.1 82 x1.toNatClampNeg) σ_7)) ∧
              (x2 = 0 →
                vp_in x1 9 ∧ (
                  Q (σ_7.1 81 x1.toNatClampNeg) σ_7))))) ∧
        (¬ x2 ≤ 1 →
          Q (-2) σ_1))))
set_option maxRecDepth 20000 in
set_option maxHeartbeats 4000000 in
theorem m_X9_drop (G : tzG) (hG : tz_ok G) {x1 : Int32} {x2 : Int32}  {σ : tzS} {Q : Int32 → tzS → Prop} (h : vc_X9_drop x1 x2 σ Q) : tz_M G yX9_drop cX9_drop 3 (some .int) 4 99 [.ref 0, .int x1, .int x2] σ (tz_Qi G Q) := by
  unfold vc_X9_drop at h
  refine tz_starti hG RX9 [(0, .ref 0), (1, .int x1), (2, .int x2)] (by decide) rfl (Nat.le_of_ble_eq_true rfl) rfl (fun E C hret => ?_)
  refine tz_iload_n 1 1 C dX9_drop_0 rfl rfl ?_
  refine tz_callis C dX9_drop_1 lk_RX9_223 (m_X9_noParts G hG  h) rfl ⟨Nat.le_of_ble_eq_true rfl, Nat.le_of_ble_eq_true rfl⟩ (Nat.le_of_ble_eq_true rfl) rfl (fun r_2 σ_1 h => ?_)
  refine tz_if_ne 16 C dX9_drop_4 (by decide) h (fun c_3 h => ?_) (fun c_3 h => ?_)
  · refine tz_bipush (-2) (by decide) C dX9_drop_16 ?_
    exact hret _ _ _ _ dX9_drop_18 h
  · refine tz_iload_n 2 2 C dX9_drop_7 rfl rfl ?_
    refine tz_if_lt 16 C dX9_drop_8 (by decide) h (fun c_4 h => ?_) (fun c_4 h => ?_)
    · refine tz_bipush (-2) (by decide) C dX9_drop_16 ?_
      exact hret _ _ _ _ dX9_drop_18 h
    · refine tz_iload_n 2 2 C dX9_drop_11 rfl rfl ?_
      refine tz_iconst 1 (by decide) C dX9_drop_12 ?_
      refine tz_icmp_le 19 C dX9_drop_13 (by decide) h (fun c_5 h => ?_) (fun c_5 h => ?_)
      · refine tz_aload_n 0 0 C dX9_drop_19 rfl rfl ?_
        refine tz_callvv C dX9_drop_20 lk_RX9_113 (m_X9_readText G hG  h) (by decide) rfl rfl rfl rfl ⟨Nat.le_of_ble_eq_true rfl, Nat.le_of_ble_eq_true rfl⟩ (Nat.le_of_ble_eq_true rfl) rfl (fun σ_6 h => ?_)
        refine tz_aload_n 0 0 C dX9_drop_23 rfl rfl ?_
        refine tz_callvv C dX9_drop_24 lk_RX9_237 (m_X9_dropSentences G hG  h) (by decide) rfl rfl rfl rfl ⟨Nat.le_of_ble_eq_true rfl, Nat.le_of_ble_eq_true rfl⟩ (Nat.le_of_ble_eq_true rfl) rfl (fun σ_7 h => ?_)
        refine tz_iload_n 2 2 C dX9_drop_27 rfl rfl ?_
        refine tz_if_ne 43 C dX9_drop_28 (by decide) h (fun c_8 h => ?_) (fun c_8 h => ?_)
        · refine tz_aload_n 0 0 C dX9_drop_43 rfl rfl ?_
          refine tz_getR C dX9_drop_44 fl_RX9_54 (by decide) rfl rfl ?_
          refine tz_getR C dX9_drop_47 fl_RX9_243 (by decide) rfl rfl ?_
          refine tz_iload_n 1 1 C dX9_drop_50 rfl rfl ?_
          obtain ⟨hin_9, h⟩ := h
          refine tz_iald C dX9_drop_51 (by decide) rfl hin_9 ?_
          exact hret _ _ _ _ dX9_drop_52 h
        · refine tz_aload_n 0 0 C dX9_drop_31 rfl rfl ?_
          refine tz_getR C dX9_drop_32 fl_RX9_54 (by decide) rfl rfl ?_
          refine tz_getR C dX9_drop_35 fl_RX9_240 (by decide) rfl rfl ?_
          refine tz_iload_n 1 1 C dX9_drop_38 rfl rfl ?_
          obtain ⟨hin_10, h⟩ := h
          refine tz_iald C dX9_drop_39 (by decide) rfl hin_10 ?_
          refine tz_goto 52 C dX9_drop_40 (by decide) ?_
          exact hret _ _ _ _ dX9_drop_52 h
      · refine tz_bipush (-2) (by decide) C dX9_drop_16 ?_
        exact hret _ _ _ _ dX9_drop_18 h

def vc_X9_weighGaps  (σ : tzS) (Q : tzS → Prop) : Prop :=
  ((σ.1 0 16) = 0 →
    vc_X4_fill (σ.1 132 3) σ (fun (σ_2 : tzS) =>
      ∀ σ_3 : tzS, σ_3 = tz_st σ_2 0 16 1 →
      Q σ_3)) ∧
  (¬ (σ.1 0 16) = 0 →
    Q σ)
set_option maxRecDepth 20000 in
set_option maxHeartbeats 4000000 in
theorem m_X9_weighGaps (G : tzG) (hG : tz_ok G)   {σ : tzS} {Q : tzS → Prop} (h : vc_X9_weighGaps  σ Q) : tz_M G yX9_weighGaps cX9_weighGaps 1 (none) 3 75 [.ref 0] σ (tz_Qv G Q) := by
  unfold vc_X9_weighGaps at h
  refine tz_startv hG RX9 [(0, .ref 0)] (by decide) rfl (Nat.le_of_ble_eq_true rfl) rfl (fun E C hret => ?_)
  refine tz_aload_n 0 0 C dX9_weighGaps_0 rfl rfl ?_
  refine tz_getI C dX9_weighGaps_1 fl_RX9_96 (by decide) rfl rfl ?_
  refine tz_if_eq 8 C dX9_weighGaps_4 (by decide) h (fun c_1 h => ?_) (fun c_1 h => ?_)
  · refine tz_aload_n 0 0 C dX9_weighGaps_8 rfl rfl ?_
    refine tz_getR C dX9_weighGaps_9 fl_RX9_61 (by decide) rfl rfl ?_
    refine tz_aload_n 0 0 C dX9_weighGaps_12 rfl rfl ?_
    refine tz_getR C dX9_weighGaps_13 fl_RX9_26 (by decide) rfl rfl ?_
    refine tz_aload_n 0 0 C dX9_weighGaps_16 rfl rfl ?_
    refine tz_getR C dX9_weighGaps_17 fl_RX9_72 (by decide) rfl rfl ?_
    refine tz_iconst 3 (by decide) C dX9_weighGaps_20 ?_
    refine tz_iald_c 3 C dX9_weighGaps_21 (by decide) rfl (tz_inl rfl) rfl ?_
    refine tz_callvv C dX9_weighGaps_22 lk_RX9_386 (m_X4_fill G hG  h) (by decide) rfl rfl rfl rfl ⟨Nat.le_of_ble_eq_true rfl, Nat.le_of_ble_eq_true rfl⟩ (Nat.le_of_ble_eq_true rfl) rfl (fun σ_2 h => ?_)
    refine tz_aload_n 0 0 C dX9_weighGaps_25 rfl rfl ?_
    refine tz_iconst 1 (by decide) C dX9_weighGaps_26 ?_
    refine tz_put C dX9_weighGaps_27 fp_RX9_96 (by decide) rfl rfl rfl rfl h (fun σ_3 h => ?_)
    exact hret _ _ _ dX9_weighGaps_30 h
  · exact hret _ _ _ dX9_weighGaps_7 h

def vc_X9_gap (x1 : Int32) (x2 : Int32) (σ : tzS) (Q : Int32 → tzS → Prop) : Prop :=
  vc_X9_readText  σ (fun (σ_1 : tzS) =>
    vc_X9_noGap x1 σ_1 (fun (r_3 : Int32) (σ_2 : tzS) =>
      (¬ r_3 = 0 →
        Q (-2) σ_2) ∧
      (r_3 = 0 →
        (x2 < 0 →
          Q (-2) σ_2) ∧
        (¬ x2 < 0 →
          (x2 ≤ 1 →
            vc_X9_weighGaps  σ_2 (fun (σ_7 : tzS) =>
              (¬ x2 = 0 →
                vp_in x1 12 ∧ (
                  Q (σ_7.1 122 x1.toNatClampNeg) σ_7)) ∧
              (x2 = 0 →
                vp_in x1 12 ∧ (
                  Q (σ_7.1 121 x1.toNatClampNeg) σ_7)))) ∧
          (¬ x2 ≤ 1 →
            Q (-2) σ_2)))))
set_option maxRecDepth 20000 in
set_option maxHeartbeats 4000000 in
theorem m_X9_gap (G : tzG) (hG : tz_ok G) {x1 : Int32} {x2 : Int32}  {σ : tzS} {Q : Int32 → tzS → Prop} (h : vc_X9_gap x1 x2 σ Q) : tz_M G yX9_gap cX9_gap 3 (some .int) 4 99 [.ref 0, .int x1, .int x2] σ (tz_Qi G Q) := by
  unfold vc_X9_gap at h
  refine tz_starti hG RX9 [(0, .ref 0), (1, .int x1), (2, .int x2)] (by decide) rfl (Nat.le_of_ble_eq_true rfl) rfl (fun E C hret => ?_)
  refine tz_aload_n 0 0 C dX9_gap_0 rfl rfl ?_
  refine tz_callvv C dX9_gap_1 lk_RX9_113 (m_X9_readText G hG  h) (by decide) rfl rfl rfl rfl ⟨Nat.le_of_ble_eq_true rfl, Nat.le_of_ble_eq_true rfl⟩ (Nat.le_of_ble_eq_true rfl) rfl (fun σ_1 h => ?_)
  refine tz_aload_n 0 0 C dX9_gap_4 rfl rfl ?_
  refine tz_iload_n 1 1 C dX9_gap_5 rfl rfl ?_
  refine tz_calliv C dX9_gap_6 lk_RX9_205 (m_X9_noGap G hG  h) (by decide) rfl rfl rfl rfl ⟨Nat.le_of_ble_eq_true rfl, Nat.le_of_ble_eq_true rfl⟩ (Nat.le_of_ble_eq_true rfl) rfl (fun r_3 σ_2 h => ?_)
  refine tz_if_ne 21 C dX9_gap_9 (by decide) h (fun c_4 h => ?_) (fun c_4 h => ?_)
  · refine tz_bipush (-2) (by decide) C dX9_gap_21 ?_
    exact hret _ _ _ _ dX9_gap_23 h
  · refine tz_iload_n 2 2 C dX9_gap_12 rfl rfl ?_
    refine tz_if_lt 21 C dX9_gap_13 (by decide) h (fun c_5 h => ?_) (fun c_5 h => ?_)
    · refine tz_bipush (-2) (by decide) C dX9_gap_21 ?_
      exact hret _ _ _ _ dX9_gap_23 h
    · refine tz_iload_n 2 2 C dX9_gap_16 rfl rfl ?_
      refine tz_iconst 1 (by decide) C dX9_gap_17 ?_
      refine tz_icmp_le 24 C dX9_gap_18 (by decide) h (fun c_6 h => ?_) (fun c_6 h => ?_)
      · refine tz_aload_n 0 0 C dX9_gap_24 rfl rfl ?_
        refine tz_callvv C dX9_gap_25 lk_RX9_246 (m_X9_weighGaps G hG  h) (by decide) rfl rfl rfl rfl ⟨Nat.le_of_ble_eq_true rfl, Nat.le_of_ble_eq_true rfl⟩ (Nat.le_of_ble_eq_true rfl) rfl (fun σ_7 h => ?_)
        refine tz_iload_n 2 2 C dX9_gap_28 rfl rfl ?_
        refine tz_if_ne 44 C dX9_gap_29 (by decide) h (fun c_8 h => ?_) (fun c_8 h => ?_)
        · refine tz_aload_n 0 0 C dX9_gap_44 rfl rfl ?_
          refine tz_getR C dX9_gap_45 fl_RX9_61 (by decide) rfl rfl ?_
          refine tz_getR C dX9_gap_48 fl_RX9_252 (by decide) rfl rfl ?_
          refine tz_iload_n 1 1 C dX9_gap_51 rfl rfl ?_
          obtain ⟨hin_9, h⟩ := h
          refine tz_iald C dX9_gap_52 (by decide) rfl hin_9 ?_
          exact hret _ _ _ _ dX9_gap_53 h
        · refine tz_aload_n 0 0 C dX9_gap_32 rfl rfl ?_
          refine tz_getR C dX9_gap_33 fl_RX9_61 (by decide) rfl rfl ?_
          refine tz_getR C dX9_gap_36 fl_RX9_249 (by decide) rfl rfl ?_
          refine tz_iload_n 1 1 C dX9_gap_39 rfl rfl ?_
          obtain ⟨hin_10, h⟩ := h
          refine tz_iald C dX9_gap_40 (by decide) rfl hin_10 ?_
          refine tz_goto 53 C dX9_gap_41 (by decide) ?_
          exact hret _ _ _ _ dX9_gap_53 h
      · refine tz_bipush (-2) (by decide) C dX9_gap_21 ?_
        exact hret _ _ _ _ dX9_gap_23 h

def vc_X9_deep (x1 : Int32) (σ : tzS) (Q : Int32 → tzS → Prop) : Prop :=
  (x1 < 0 →
    Q (-2) σ) ∧
  (¬ x1 < 0 →
    (x1 < 11 →
      vc_X9_readText  σ (fun (σ_3 : tzS) =>
        (x1 < ((σ_3.1 4 0) - 1) →
          vc_X9_weighGaps  σ_3 (fun (σ_5 : tzS) =>
            vp_in x1 11 ∧ (
              Q (σ_5.1 123 x1.toNatClampNeg) σ_5))) ∧
        (¬ x1 < ((σ_3.1 4 0) - 1) →
          Q (-1) σ_3))) ∧
    (¬ x1 < 11 →
      Q (-2) σ))
set_option maxRecDepth 20000 in
set_option maxHeartbeats 4000000 in
theorem m_X9_deep (G : tzG) (hG : tz_ok G) {x1 : Int32}  {σ : tzS} {Q : Int32 → tzS → Prop} (h : vc_X9_deep x1 σ Q) : tz_M G yX9_deep cX9_deep 2 (some .int) 4 99 [.ref 0, .int x1] σ (tz_Qi G Q) := by
  unfold vc_X9_deep at h
  refine tz_starti hG RX9 [(0, .ref 0), (1, .int x1)] (by decide) rfl (Nat.le_of_ble_eq_true rfl) rfl (fun E C hret => ?_)
  refine tz_iload_n 1 1 C dX9_deep_0 rfl rfl ?_
  refine tz_if_lt 10 C dX9_deep_1 (by decide) h (fun c_1 h => ?_) (fun c_1 h => ?_)
  · refine tz_bipush (-2) (by decide) C dX9_deep_10 ?_
    exact hret _ _ _ _ dX9_deep_12 h
  · refine tz_iload_n 1 1 C dX9_deep_4 rfl rfl ?_
    refine tz_bipush 11 (by decide) C dX9_deep_5 ?_
    refine tz_icmp_lt 13 C dX9_deep_7 (by decide) h (fun c_2 h => ?_) (fun c_2 h => ?_)
    · refine tz_aload_n 0 0 C dX9_deep_13 rfl rfl ?_
      refine tz_callvv C dX9_deep_14 lk_RX9_113 (m_X9_readText G hG  h) (by decide) rfl rfl rfl rfl ⟨Nat.le_of_ble_eq_true rfl, Nat.le_of_ble_eq_true rfl⟩ (Nat.le_of_ble_eq_true rfl) rfl (fun σ_3 h => ?_)
      refine tz_iload_n 1 1 C dX9_deep_17 rfl rfl ?_
      refine tz_aload_n 0 0 C dX9_deep_18 rfl rfl ?_
      refine tz_getR C dX9_deep_19 fl_RX9_26 (by decide) rfl rfl ?_
      refine tz_getI C dX9_deep_22 fl_RX9_214 (by decide) rfl rfl ?_
      refine tz_iconst 1 (by decide) C dX9_deep_25 ?_
      refine tz_isub C dX9_deep_26 ?_
      refine tz_icmp_lt 32 C dX9_deep_27 (by decide) h (fun c_4 h => ?_) (fun c_4 h => ?_)
      · refine tz_aload_n 0 0 C dX9_deep_32 rfl rfl ?_
        refine tz_callvv C dX9_deep_33 lk_RX9_246 (m_X9_weighGaps G hG  h) (by decide) rfl rfl rfl rfl ⟨Nat.le_of_ble_eq_true rfl, Nat.le_of_ble_eq_true rfl⟩ (Nat.le_of_ble_eq_true rfl) rfl (fun σ_5 h => ?_)
        refine tz_aload_n 0 0 C dX9_deep_36 rfl rfl ?_
        refine tz_getR C dX9_deep_37 fl_RX9_61 (by decide) rfl rfl ?_
        refine tz_getR C dX9_deep_40 fl_RX9_255 (by decide) rfl rfl ?_
        refine tz_iload_n 1 1 C dX9_deep_43 rfl rfl ?_
        obtain ⟨hin_6, h⟩ := h
        refine tz_iald C dX9_deep_44 (by decide) rfl hin_6 ?_
        exact hret _ _ _ _ dX9_deep_45 h
      · refine tz_iconst (-1) (by decide) C dX9_deep_30 ?_
        exact hret _ _ _ _ dX9_deep_31 h
    · refine tz_bipush (-2) (by decide) C dX9_deep_10 ?_
      exact hret _ _ _ _ dX9_deep_12 h

def vc_J6_bitCount_0f7a4 (x0 : Int32) (σ : tzS) (Q : Int32 → tzS → Prop) : Prop :=
  ∀ x0_1 : Int32, x0_1 = (x0 - ((x0.toUInt32 >>> ((1 : Int32).toUInt32 &&& Int32.toUInt32 31)).toInt32 &&& 1431655765)) →
  ∀ x0_2 : Int32, x0_2 = ((x0_1 &&& 858993459) + ((x0_1.toUInt32 >>> ((2 : Int32).toUInt32 &&& Int32.toUInt32 31)).toInt32 &&& 858993459)) →
  ∀ x0_3 : Int32, x0_3 = ((x0_2 + (x0_2.toUInt32 >>> ((4 : Int32).toUInt32 &&& Int32.toUInt32 31)).toInt32) &&& 252645135) →
  ∀ x0_4 : Int32, x0_4 = (x0_3 + (x0_3.toUInt32 >>> ((8 : Int32).toUInt32 &&& Int32.toUInt32 31)).toInt32) →
  ∀ x0_5 : Int32, x0_5 = (x0_4 + (x0_4.toUInt32 >>> ((16 : Int32).toUInt32 &&& Int32.toUInt32 31)).toInt32) →
  Q (x0_5 &&& 63) σ
set_option maxRecDepth 20000 in
set_option maxHeartbeats 4000000 in
theorem m_J6_bitCount_0f7a4 (G : tzG) (hG : tz_ok G) {x0 : Int32}  {σ : tzS} {Q : Int32 → tzS → Prop} (h : vc_J6_bitCount_0f7a4 x0 σ Q) : tz_M G yJ6_bitCount_0f7a4 cJ6_bitCount_0f7a4 1 (some .int) 0 0 [.int x0] σ (tz_Qi G Q) := by
  unfold vc_J6_bitCount_0f7a4 at h
  refine tz_starti hG RJ6 [(0, .int x0)] (by decide) rfl (Nat.le_of_ble_eq_true rfl) rfl (fun E C hret => ?_)
  refine tz_iload_n 0 0 C dJ6_bitCount_0f7a4_0 rfl rfl ?_
  refine tz_iload_n 0 0 C dJ6_bitCount_0f7a4_1 rfl rfl ?_
  refine tz_iconst 1 (by decide) C dJ6_bitCount_0f7a4_2 ?_
  refine tz_iushr C dJ6_bitCount_0f7a4_3 ?_
  refine tz_ldcw 1431655765 C dJ6_bitCount_0f7a4_4 cw_RJ6_265 ?_
  refine tz_iand C dJ6_bitCount_0f7a4_7 ?_
  refine tz_isub C dJ6_bitCount_0f7a4_8 ?_
  refine tz_istore_n 0 [] C dJ6_bitCount_0f7a4_9 rfl (Nat.le_of_ble_eq_true rfl) rfl h (fun x0_1 h => ?_)
  refine tz_iload_n 0 0 C dJ6_bitCount_0f7a4_10 rfl rfl ?_
  refine tz_ldcw 858993459 C dJ6_bitCount_0f7a4_11 cw_RJ6_266 ?_
  refine tz_iand C dJ6_bitCount_0f7a4_14 ?_
  refine tz_iload_n 0 0 C dJ6_bitCount_0f7a4_15 rfl rfl ?_
  refine tz_iconst 2 (by decide) C dJ6_bitCount_0f7a4_16 ?_
  refine tz_iushr C dJ6_bitCount_0f7a4_17 ?_
  refine tz_ldcw 858993459 C dJ6_bitCount_0f7a4_18 cw_RJ6_266 ?_
  refine tz_iand C dJ6_bitCount_0f7a4_21 ?_
  refine tz_iadd C dJ6_bitCount_0f7a4_22 ?_
  refine tz_istore_n 0 [] C dJ6_bitCount_0f7a4_23 rfl (Nat.le_of_ble_eq_true rfl) rfl h (fun x0_2 h => ?_)
  refine tz_iload_n 0 0 C dJ6_bitCount_0f7a4_24 rfl rfl ?_
  refine tz_iload_n 0 0 C dJ6_bitCount_0f7a4_25 rfl rfl ?_
  refine tz_iconst 4 (by decide) C dJ6_bitCount_0f7a4_26 ?_
  refine tz_iushr C dJ6_bitCount_0f7a4_27 ?_
  refine tz_iadd C dJ6_bitCount_0f7a4_28 ?_
  refine tz_ldcw 252645135 C dJ6_bitCount_0f7a4_29 cw_RJ6_267 ?_
  refine tz_iand C dJ6_bitCount_0f7a4_32 ?_
  refine tz_istore_n 0 [] C dJ6_bitCount_0f7a4_33 rfl (Nat.le_of_ble_eq_true rfl) rfl h (fun x0_3 h => ?_)
  refine tz_iload_n 0 0 C dJ6_bitCount_0f7a4_34 rfl rfl ?_
  refine tz_iload_n 0 0 C dJ6_bitCount_0f7a4_35 rfl rfl ?_
  refine tz_bipush 8 (by decide) C dJ6_bitCount_0f7a4_36 ?_
  refine tz_iushr C dJ6_bitCount_0f7a4_38 ?_
  refine tz_iadd C dJ6_bitCount_0f7a4_39 ?_
  refine tz_istore_n 0 [] C dJ6_bitCount_0f7a4_40 rfl (Nat.le_of_ble_eq_true rfl) rfl h (fun x0_4 h => ?_)
  refine tz_iload_n 0 0 C dJ6_bitCount_0f7a4_41 rfl rfl ?_
  refine tz_iload_n 0 0 C dJ6_bitCount_0f7a4_42 rfl rfl ?_
  refine tz_bipush 16 (by decide) C dJ6_bitCount_0f7a4_43 ?_
  refine tz_iushr C dJ6_bitCount_0f7a4_45 ?_
  refine tz_iadd C dJ6_bitCount_0f7a4_46 ?_
  refine tz_istore_n 0 [] C dJ6_bitCount_0f7a4_47 rfl (Nat.le_of_ble_eq_true rfl) rfl h (fun x0_5 h => ?_)
  refine tz_iload_n 0 0 C dJ6_bitCount_0f7a4_48 rfl rfl ?_
  refine tz_bipush 63 (by decide) C dJ6_bitCount_0f7a4_49 ?_
  refine tz_iand C dJ6_bitCount_0f7a4_51 ?_
  exact hret _ _ _ _ dJ6_bitCount_0f7a4_52 h

def vc_X9_apart (x1 : Int32) (x2 : Int32) (σ : tzS) (Q : Int32 → tzS → Prop) : Prop :=
  vc_X9_noParts x1 σ (fun (r_2 : Int32) (σ_1 : tzS) =>
    (¬ r_2 = 0 →
      Q (-2) σ_1) ∧
    (r_2 = 0 →
      (x2 < 1 →
        Q (-2) σ_1) ∧
      (¬ x2 < 1 →
        (x2 ≤ 11 →
          vc_X9_readText  σ_1 (fun (σ_6 : tzS) =>
            ∀ x3_7 : Int32, x3_7 = (σ_6.1 4 0) →
            (x1 ≤ x3_7 →
              vc_X9_partText  σ_6 (fun (σ_9 : tzS) =>
                vc_X5_seamBits 59 x1 x3_7 σ_9 (fun (r_11 : Int32) (σ_10 : tzS) =>
                  tz_loop2 (fun (x5_14 : Int32) (x6_15 : Int32) (σ_13 : tzS) (ag_12 : Int32 → Int32 → tzS → Prop) =>
                    (x3_7 ≤ (x6_15 + x2) →
                      Q x5_14 σ_13) ∧
                    (¬ x3_7 ≤ (x6_15 + x2) →
                      ∀ x7_17 : Int32, x7_17 = ((((1 : Int32) <<< (x2 &&& 31)) - 1) <<< ((x6_15 + 1) &&& 31)) →
                      vc_J6_bitCount_0f7a4 (r_11 &&& x7_17) σ_13 (fun (r_19 : Int32) (σ_18 : tzS) =>
                        vc_J6_bitCount_0f7a4 ((σ_18.1 0 10) &&& x7_17) σ_18 (fun (r_21 : Int32) (σ_20 : tzS) =>
                          (r_19 = r_21 →
                            ∀ x6_23 : Int32, x6_23 = x6_15 + 1 →
                            ag_12 x5_14 x6_23 σ_20) ∧
                          (¬ r_19 = r_21 →
                            ∀ x5_24 : Int32, x5_24 = x5_14 + 1 →
                            ∀ x6_25 : Int32, x6_25 = x6_15 + 1 →
                            ag_12 x5_24 x6_25 σ_20))))) (0 : Int32) (0 : Int32) σ_10))) ∧
            (¬ x1 ≤ x3_7 →
              Q (-1) σ_6))) ∧
        (¬ x2 ≤ 11 →
          Q (-2) σ_1))))
set_option maxRecDepth 20000 in
set_option maxHeartbeats 4000000 in
theorem m_X9_apart (G : tzG) (hG : tz_ok G) {x1 : Int32} {x2 : Int32}  {σ : tzS} {Q : Int32 → tzS → Prop} (h : vc_X9_apart x1 x2 σ Q) : tz_M G yX9_apart cX9_apart 8 (some .int) 4 99 [.ref 0, .int x1, .int x2] σ (tz_Qi G Q) := by
  unfold vc_X9_apart at h
  refine tz_starti hG RX9 [(0, .ref 0), (1, .int x1), (2, .int x2)] (by decide) rfl (Nat.le_of_ble_eq_true rfl) rfl (fun E C hret => ?_)
  refine tz_iload_n 1 1 C dX9_apart_0 rfl rfl ?_
  refine tz_callis C dX9_apart_1 lk_RX9_223 (m_X9_noParts G hG  h) rfl ⟨Nat.le_of_ble_eq_true rfl, Nat.le_of_ble_eq_true rfl⟩ (Nat.le_of_ble_eq_true rfl) rfl (fun r_2 σ_1 h => ?_)
  refine tz_if_ne 18 C dX9_apart_4 (by decide) h (fun c_3 h => ?_) (fun c_3 h => ?_)
  · refine tz_bipush (-2) (by decide) C dX9_apart_18 ?_
    exact hret _ _ _ _ dX9_apart_20 h
  · refine tz_iload_n 2 2 C dX9_apart_7 rfl rfl ?_
    refine tz_iconst 1 (by decide) C dX9_apart_8 ?_
    refine tz_icmp_lt 18 C dX9_apart_9 (by decide) h (fun c_4 h => ?_) (fun c_4 h => ?_)
    · refine tz_bipush (-2) (by decide) C dX9_apart_18 ?_
      exact hret _ _ _ _ dX9_apart_20 h
    · refine tz_iload_n 2 2 C dX9_apart_12 rfl rfl ?_
      refine tz_bipush 11 (by decide) C dX9_apart_13 ?_
      refine tz_icmp_le 21 C dX9_apart_15 (by decide) h (fun c_5 h => ?_) (fun c_5 h => ?_)
      · refine tz_aload_n 0 0 C dX9_apart_21 rfl rfl ?_
        refine tz_callvv C dX9_apart_22 lk_RX9_113 (m_X9_readText G hG  h) (by decide) rfl rfl rfl rfl ⟨Nat.le_of_ble_eq_true rfl, Nat.le_of_ble_eq_true rfl⟩ (Nat.le_of_ble_eq_true rfl) rfl (fun σ_6 h => ?_)
        refine tz_aload_n 0 0 C dX9_apart_25 rfl rfl ?_
        refine tz_getR C dX9_apart_26 fl_RX9_26 (by decide) rfl rfl ?_
        refine tz_getI C dX9_apart_29 fl_RX9_214 (by decide) rfl rfl ?_
        refine tz_istore_n 3 [(0, .ref 0), (1, .int x1), (2, .int x2)] C dX9_apart_32 rfl (Nat.le_of_ble_eq_true rfl) rfl h (fun x3_7 h => ?_)
        refine tz_iload_n 1 2 C dX9_apart_33 rfl rfl ?_
        refine tz_iload_n 3 0 C dX9_apart_34 rfl rfl ?_
        refine tz_icmp_le 40 C dX9_apart_35 (by decide) h (fun c_8 h => ?_) (fun c_8 h => ?_)
        · refine tz_aload_n 0 1 C dX9_apart_40 rfl rfl ?_
          refine tz_callvv C dX9_apart_41 lk_RX9_217 (m_X9_partText G hG  h) (by decide) rfl rfl rfl rfl ⟨Nat.le_of_ble_eq_true rfl, Nat.le_of_ble_eq_true rfl⟩ (Nat.le_of_ble_eq_true rfl) rfl (fun σ_9 h => ?_)
          refine tz_aload_n 0 1 C dX9_apart_44 rfl rfl ?_
          refine tz_getR C dX9_apart_45 fl_RX9_47 (by decide) rfl rfl ?_
          refine tz_iload_n 1 2 C dX9_apart_48 rfl rfl ?_
          refine tz_iload_n 3 0 C dX9_apart_49 rfl rfl ?_
          refine tz_calliv C dX9_apart_50 lk_RX9_258 (m_X5_seamBits G hG (by decide) h) (by decide) rfl rfl rfl rfl ⟨Nat.le_of_ble_eq_true rfl, Nat.le_of_ble_eq_true rfl⟩ (Nat.le_of_ble_eq_true rfl) rfl (fun r_11 σ_10 h => ?_)
          refine tz_istore_k [(3, .int x3_7), (0, .ref 0), (1, .int x1), (2, .int x2)] C dX9_apart_53 (Nat.le_of_ble_eq_true rfl) rfl ?_
          refine tz_iconst 0 (by decide) C dX9_apart_55 ?_
          refine tz_istore_k [(4, .int r_11), (3, .int x3_7), (0, .ref 0), (1, .int x1), (2, .int x2)] C dX9_apart_56 (Nat.le_of_ble_eq_true rfl) rfl ?_
          refine tz_iconst 0 (by decide) C dX9_apart_58 ?_
          refine tz_istore_k [(5, .int 0), (4, .int r_11), (3, .int x3_7), (0, .ref 0), (1, .int x1), (2, .int x2)] C dX9_apart_59 (Nat.le_of_ble_eq_true rfl) rfl ?_
          refine tz_sub (L := [(0, .ref 0), (2, .int x2), (3, .int x3_7), (4, .int r_11), (5, .int 0), (6, .int 0)]) ?_ [4, 6, 3, 2, 1, 0] rfl
          refine tz_loop2_w (V := fun (x5_14 : Int32) (x6_15 : Int32) (σ_13 : tzS) => tz_V G E 61 [(0, .ref 0), (2, .int x2), (3, .int x3_7), (4, .int r_11), (5, .int x5_14), (6, .int x6_15)] [] σ_13) h (fun ag_12 ihag_12 x5_14 x6_15 σ_13 h => ?_)
          refine tz_iload 5 C dX9_apart_61 rfl ?_
          refine tz_iload_n 2 1 C dX9_apart_63 rfl rfl ?_
          refine tz_iadd C dX9_apart_64 ?_
          refine tz_iload_n 3 2 C dX9_apart_65 rfl rfl ?_
          refine tz_icmp_ge 111 C dX9_apart_66 (by decide) h (fun c_16 h => ?_) (fun c_16 h => ?_)
          · refine tz_iload 4 C dX9_apart_111 rfl ?_
            exact hret _ _ _ _ dX9_apart_113 h
          · refine tz_iconst 1 (by decide) C dX9_apart_69 ?_
            refine tz_iload_n 2 1 C dX9_apart_70 rfl rfl ?_
            refine tz_ishl C dX9_apart_71 ?_
            refine tz_iconst 1 (by decide) C dX9_apart_72 ?_
            refine tz_isub C dX9_apart_73 ?_
            refine tz_iload 5 C dX9_apart_74 rfl ?_
            refine tz_iconst 1 (by decide) C dX9_apart_76 ?_
            refine tz_iadd C dX9_apart_77 ?_
            refine tz_ishl C dX9_apart_78 ?_
            refine tz_istore [(0, .ref 0), (2, .int x2), (3, .int x3_7), (4, .int r_11), (5, .int x5_14), (6, .int x6_15)] C dX9_apart_79 (Nat.le_of_ble_eq_true rfl) rfl h (fun x7_17 h => ?_)
            refine tz_iload 4 C dX9_apart_81 rfl ?_
            refine tz_iload 0 C dX9_apart_83 rfl ?_
            refine tz_iand C dX9_apart_85 ?_
            refine tz_callis C dX9_apart_86 lk_RX9_261 (m_J6_bitCount_0f7a4 G hG  h) rfl ⟨Nat.le_of_ble_eq_true rfl, Nat.le_of_ble_eq_true rfl⟩ (Nat.le_of_ble_eq_true rfl) rfl (fun r_19 σ_18 h => ?_)
            refine tz_aload_n 0 1 C dX9_apart_89 rfl rfl ?_
            refine tz_getI C dX9_apart_90 fl_RX9_76 (by decide) rfl rfl ?_
            refine tz_iload 0 C dX9_apart_93 rfl ?_
            refine tz_iand C dX9_apart_95 ?_
            refine tz_callis C dX9_apart_96 lk_RX9_261 (m_J6_bitCount_0f7a4 G hG  h) rfl ⟨Nat.le_of_ble_eq_true rfl, Nat.le_of_ble_eq_true rfl⟩ (Nat.le_of_ble_eq_true rfl) rfl (fun r_21 σ_20 h => ?_)
            refine tz_icmp_eq 105 C dX9_apart_99 (by decide) h (fun c_22 h => ?_) (fun c_22 h => ?_)
            · refine tz_iinc 6 [(7, .int x7_17), (0, .ref 0), (2, .int x2), (3, .int x3_7), (4, .int r_11), (5, .int x5_14)] 1 C dX9_apart_105 (by decide) rfl (Nat.le_of_ble_eq_true rfl) rfl h (fun x6_23 h => ?_)
              refine tz_goto 61 C dX9_apart_108 (by decide) ?_
              exact tz_sub (ihag_12 _ _ _ h) [2, 3, 4, 5, 6, 0] rfl
            · refine tz_iinc 5 [(7, .int x7_17), (0, .ref 0), (2, .int x2), (3, .int x3_7), (4, .int r_11), (6, .int x6_15)] 1 C dX9_apart_102 (by decide) rfl (Nat.le_of_ble_eq_true rfl) rfl h (fun x5_24 h => ?_)
              refine tz_iinc 6 [(5, .int x5_24), (7, .int x7_17), (0, .ref 0), (2, .int x2), (3, .int x3_7), (4, .int r_11)] 1 C dX9_apart_105 (by decide) rfl (Nat.le_of_ble_eq_true rfl) rfl h (fun x6_25 h => ?_)
              refine tz_goto 61 C dX9_apart_108 (by decide) ?_
              exact tz_sub (ihag_12 _ _ _ h) [3, 4, 5, 6, 1, 0] rfl
        · refine tz_iconst (-1) (by decide) C dX9_apart_38 ?_
          exact hret _ _ _ _ dX9_apart_39 h
      · refine tz_bipush (-2) (by decide) C dX9_apart_18 ?_
        exact hret _ _ _ _ dX9_apart_20 h

def vc_X9_noForm (x0 : Int32) (σ : tzS) (Q : Int32 → tzS → Prop) : Prop :=
  (x0 < 0 →
    Q 1 σ) ∧
  (¬ x0 < 0 →
    (x0 ≤ 2 →
      Q 0 σ) ∧
    (¬ x0 ≤ 2 →
      Q 1 σ))
set_option maxRecDepth 20000 in
set_option maxHeartbeats 4000000 in
theorem m_X9_noForm (G : tzG) (hG : tz_ok G) {x0 : Int32}  {σ : tzS} {Q : Int32 → tzS → Prop} (h : vc_X9_noForm x0 σ Q) : tz_M G yX9_noForm cX9_noForm 1 (some .boolean) 0 0 [.int x0] σ (tz_Qi G Q) := by
  unfold vc_X9_noForm at h
  refine tz_startz hG RX9 [(0, .int x0)] (by decide) rfl (Nat.le_of_ble_eq_true rfl) rfl (fun E C hret => ?_)
  refine tz_iload_n 0 0 C dX9_noForm_0 rfl rfl ?_
  refine tz_if_lt 9 C dX9_noForm_1 (by decide) h (fun c_1 h => ?_) (fun c_1 h => ?_)
  · refine tz_iconst 1 (by decide) C dX9_noForm_9 ?_
    refine tz_goto 14 C dX9_noForm_10 (by decide) ?_
    exact hret _ _ _ _ dX9_noForm_14 rfl h
  · refine tz_iload_n 0 0 C dX9_noForm_4 rfl rfl ?_
    refine tz_iconst 2 (by decide) C dX9_noForm_5 ?_
    refine tz_icmp_le 13 C dX9_noForm_6 (by decide) h (fun c_2 h => ?_) (fun c_2 h => ?_)
    · refine tz_iconst 0 (by decide) C dX9_noForm_13 ?_
      exact hret _ _ _ _ dX9_noForm_14 rfl h
    · refine tz_iconst 1 (by decide) C dX9_noForm_9 ?_
      refine tz_goto 14 C dX9_noForm_10 (by decide) ?_
      exact hret _ _ _ _ dX9_noForm_14 rfl h

def vc_X9_sheet (x1 : Int32) (x2 : Int32) (x3 : Int32) (σ : tzS) (Q : Int32 → tzS → Prop) : Prop :=
  vc_X9_noSheet x1 σ (fun (r_2 : Int32) (σ_1 : tzS) =>
    (¬ r_2 = 0 →
      Q (-2) σ_1) ∧
    (r_2 = 0 →
      vc_X9_noForm x2 σ_1 (fun (r_5 : Int32) (σ_4 : tzS) =>
        (¬ r_5 = 0 →
          Q (-2) σ_4) ∧
        (r_5 = 0 →
          (x3 ≤ 60 →
            ((0 : Int32) ≤ x3 →
              vc_X7_make x1 x2 x3 σ_4 (fun (σ_9 : tzS) =>
                Q x3 σ_9)) ∧
            (¬ (0 : Int32) ≤ x3 →
              vc_X9_finding 5 σ_4 (fun (r_11 : Int32) (σ_10 : tzS) =>
                Q r_11 σ_10))) ∧
          (¬ x3 ≤ 60 →
            Q (-2) σ_4)))))
set_option maxRecDepth 20000 in
set_option maxHeartbeats 4000000 in
theorem m_X9_sheet (G : tzG) (hG : tz_ok G) {x1 : Int32} {x2 : Int32} {x3 : Int32}  {σ : tzS} {Q : Int32 → tzS → Prop} (h : vc_X9_sheet x1 x2 x3 σ Q) : tz_M G yX9_sheet cX9_sheet 4 (some .int) 1 24 [.ref 0, .int x1, .int x2, .int x3] σ (tz_Qi G Q) := by
  unfold vc_X9_sheet at h
  refine tz_starti hG RX9 [(0, .ref 0), (1, .int x1), (2, .int x2), (3, .int x3)] (by decide) rfl (Nat.le_of_ble_eq_true rfl) rfl (fun E C hret => ?_)
  refine tz_iload_n 1 1 C dX9_sheet_0 rfl rfl ?_
  refine tz_callis C dX9_sheet_1 lk_RX9_131 (m_X9_noSheet G hG  h) rfl ⟨Nat.le_of_ble_eq_true rfl, Nat.le_of_ble_eq_true rfl⟩ (Nat.le_of_ble_eq_true rfl) rfl (fun r_2 σ_1 h => ?_)
  refine tz_if_ne 20 C dX9_sheet_4 (by decide) h (fun c_3 h => ?_) (fun c_3 h => ?_)
  · refine tz_bipush (-2) (by decide) C dX9_sheet_20 ?_
    exact hret _ _ _ _ dX9_sheet_22 h
  · refine tz_iload_n 2 2 C dX9_sheet_7 rfl rfl ?_
    refine tz_callis C dX9_sheet_8 lk_RX9_266 (m_X9_noForm G hG  h) rfl ⟨Nat.le_of_ble_eq_true rfl, Nat.le_of_ble_eq_true rfl⟩ (Nat.le_of_ble_eq_true rfl) rfl (fun r_5 σ_4 h => ?_)
    refine tz_if_ne 20 C dX9_sheet_11 (by decide) h (fun c_6 h => ?_) (fun c_6 h => ?_)
    · refine tz_bipush (-2) (by decide) C dX9_sheet_20 ?_
      exact hret _ _ _ _ dX9_sheet_22 h
    · refine tz_iload_n 3 3 C dX9_sheet_14 rfl rfl ?_
      refine tz_bipush 60 (by decide) C dX9_sheet_15 ?_
      refine tz_icmp_le 23 C dX9_sheet_17 (by decide) h (fun c_7 h => ?_) (fun c_7 h => ?_)
      · refine tz_iload_n 3 3 C dX9_sheet_23 rfl rfl ?_
        refine tz_if_ge 33 C dX9_sheet_24 (by decide) h (fun c_8 h => ?_) (fun c_8 h => ?_)
        · refine tz_aload_n 0 0 C dX9_sheet_33 rfl rfl ?_
          refine tz_getR C dX9_sheet_34 fl_RX9_68 (by decide) rfl rfl ?_
          refine tz_iload_n 1 1 C dX9_sheet_37 rfl rfl ?_
          refine tz_iload_n 2 2 C dX9_sheet_38 rfl rfl ?_
          refine tz_iload_n 3 3 C dX9_sheet_39 rfl rfl ?_
          refine tz_callvv C dX9_sheet_40 lk_RX9_269 (m_X7_make G hG  h) (by decide) rfl rfl rfl rfl ⟨Nat.le_of_ble_eq_true rfl, Nat.le_of_ble_eq_true rfl⟩ (Nat.le_of_ble_eq_true rfl) rfl (fun σ_9 h => ?_)
          refine tz_iload_n 3 3 C dX9_sheet_43 rfl rfl ?_
          exact hret _ _ _ _ dX9_sheet_44 h
        · refine tz_aload_n 0 0 C dX9_sheet_27 rfl rfl ?_
          refine tz_iconst 5 (by decide) C dX9_sheet_28 ?_
          refine tz_calliv C dX9_sheet_29 lk_RX9_137 (m_X9_finding G hG  h) (by decide) rfl rfl rfl rfl ⟨Nat.le_of_ble_eq_true rfl, Nat.le_of_ble_eq_true rfl⟩ (Nat.le_of_ble_eq_true rfl) rfl (fun r_11 σ_10 h => ?_)
          exact hret _ _ _ _ dX9_sheet_32 h
      · refine tz_bipush (-2) (by decide) C dX9_sheet_20 ?_
        exact hret _ _ _ _ dX9_sheet_22 h

def vc_X9_lose (x1 : Int32) (σ : tzS) (Q : Int32 → tzS → Prop) : Prop :=
  vc_X9_noSheet x1 σ (fun (r_2 : Int32) (σ_1 : tzS) =>
    (r_2 = 0 →
      vc_X7_isLost x1 σ_1 (fun (r_5 : Int32) (σ_4 : tzS) =>
        (r_5 = 0 →
          vp_in x1 4 ∧ (
            ∀ σ_7 : tzS, σ_7 = tz_st σ_4 125 x1.toNatClampNeg (-1) →
            Q (σ_7.1 126 x1.toNatClampNeg) σ_7)) ∧
        (¬ r_5 = 0 →
          vc_X9_finding 1 σ_4 (fun (r_10 : Int32) (σ_9 : tzS) =>
            Q r_10 σ_9)))) ∧
    (¬ r_2 = 0 →
      Q (-2) σ_1))
set_option maxRecDepth 20000 in
set_option maxHeartbeats 4000000 in
theorem m_X9_lose (G : tzG) (hG : tz_ok G) {x1 : Int32}  {σ : tzS} {Q : Int32 → tzS → Prop} (h : vc_X9_lose x1 σ Q) : tz_M G yX9_lose cX9_lose 2 (some .int) 1 21 [.ref 0, .int x1] σ (tz_Qi G Q) := by
  unfold vc_X9_lose at h
  refine tz_starti hG RX9 [(0, .ref 0), (1, .int x1)] (by decide) rfl (Nat.le_of_ble_eq_true rfl) rfl (fun E C hret => ?_)
  refine tz_iload_n 1 1 C dX9_lose_0 rfl rfl ?_
  refine tz_callis C dX9_lose_1 lk_RX9_131 (m_X9_noSheet G hG  h) rfl ⟨Nat.le_of_ble_eq_true rfl, Nat.le_of_ble_eq_true rfl⟩ (Nat.le_of_ble_eq_true rfl) rfl (fun r_2 σ_1 h => ?_)
  refine tz_if_eq 10 C dX9_lose_4 (by decide) h (fun c_3 h => ?_) (fun c_3 h => ?_)
  · refine tz_aload_n 0 0 C dX9_lose_10 rfl rfl ?_
    refine tz_getR C dX9_lose_11 fl_RX9_68 (by decide) rfl rfl ?_
    refine tz_iload_n 1 1 C dX9_lose_14 rfl rfl ?_
    refine tz_calliv C dX9_lose_15 lk_RX9_134 (m_X7_isLost G hG  h) (by decide) rfl rfl rfl rfl ⟨Nat.le_of_ble_eq_true rfl, Nat.le_of_ble_eq_true rfl⟩ (Nat.le_of_ble_eq_true rfl) rfl (fun r_5 σ_4 h => ?_)
    refine tz_if_eq 27 C dX9_lose_18 (by decide) h (fun c_6 h => ?_) (fun c_6 h => ?_)
    · refine tz_aload_n 0 0 C dX9_lose_27 rfl rfl ?_
      refine tz_getR C dX9_lose_28 fl_RX9_68 (by decide) rfl rfl ?_
      refine tz_getR C dX9_lose_31 fl_RX9_273 (by decide) rfl rfl ?_
      refine tz_iload_n 1 1 C dX9_lose_34 rfl rfl ?_
      refine tz_iconst (-1) (by decide) C dX9_lose_35 ?_
      have hin_8 := h.1
      refine tz_iast C dX9_lose_36 (by decide) rfl h (fun σ_7 h => ?_)
      refine tz_aload_n 0 0 C dX9_lose_37 rfl rfl ?_
      refine tz_getR C dX9_lose_38 fl_RX9_68 (by decide) rfl rfl ?_
      refine tz_getR C dX9_lose_41 fl_RX9_276 (by decide) rfl rfl ?_
      refine tz_iload_n 1 1 C dX9_lose_44 rfl rfl ?_
      refine tz_iald C dX9_lose_45 (by decide) rfl hin_8 ?_
      exact hret _ _ _ _ dX9_lose_46 h
    · refine tz_aload_n 0 0 C dX9_lose_21 rfl rfl ?_
      refine tz_iconst 1 (by decide) C dX9_lose_22 ?_
      refine tz_calliv C dX9_lose_23 lk_RX9_137 (m_X9_finding G hG  h) (by decide) rfl rfl rfl rfl ⟨Nat.le_of_ble_eq_true rfl, Nat.le_of_ble_eq_true rfl⟩ (Nat.le_of_ble_eq_true rfl) rfl (fun r_10 σ_9 h => ?_)
      exact hret _ _ _ _ dX9_lose_26 h
  · refine tz_bipush (-2) (by decide) C dX9_lose_7 ?_
    exact hret _ _ _ _ dX9_lose_9 h

def vc_X9_put (x1 : Int32) (x2 : Int32) (x3 : Int32) (x4 : Int32) (σ : tzS) (Q : Int32 → tzS → Prop) : Prop :=
  vc_X9_noSheet x1 σ (fun (r_2 : Int32) (σ_1 : tzS) =>
    (¬ r_2 = 0 →
      Q (-2) σ_1) ∧
    (r_2 = 0 →
      vc_X9_noForm x2 σ_1 (fun (r_5 : Int32) (σ_4 : tzS) =>
        (r_5 = 0 →
          vc_X7_againstItem x1 x2 x3 σ_4 (fun (r_8 : Int32) (σ_7 : tzS) =>
            (r_8 = 0 →
              vc_X7_keep x1 x3 x4 σ_7 (fun (σ_10 : tzS) =>
                Q 1 σ_10)) ∧
            (¬ r_8 = 0 →
              vc_X9_finding r_8 σ_7 (fun (r_12 : Int32) (σ_11 : tzS) =>
                Q r_12 σ_11)))) ∧
        (¬ r_5 = 0 →
          Q (-2) σ_4))))
set_option maxRecDepth 20000 in
set_option maxHeartbeats 4000000 in
theorem m_X9_put (G : tzG) (hG : tz_ok G) {x1 : Int32} {x2 : Int32} {x3 : Int32} {x4 : Int32}  {σ : tzS} {Q : Int32 → tzS → Prop} (h : vc_X9_put x1 x2 x3 x4 σ Q) : tz_M G yX9_put cX9_put 6 (some .int) 2 44 [.ref 0, .int x1, .int x2, .int x3, .int x4] σ (tz_Qi G Q) := by
  unfold vc_X9_put at h
  refine tz_starti hG RX9 [(0, .ref 0), (1, .int x1), (2, .int x2), (3, .int x3), (4, .int x4)] (by decide) rfl (Nat.le_of_ble_eq_true rfl) rfl (fun E C hret => ?_)
  refine tz_iload_n 1 1 C dX9_put_0 rfl rfl ?_
  refine tz_callis C dX9_put_1 lk_RX9_131 (m_X9_noSheet G hG  h) rfl ⟨Nat.le_of_ble_eq_true rfl, Nat.le_of_ble_eq_true rfl⟩ (Nat.le_of_ble_eq_true rfl) rfl (fun r_2 σ_1 h => ?_)
  refine tz_if_ne 14 C dX9_put_4 (by decide) h (fun c_3 h => ?_) (fun c_3 h => ?_)
  · refine tz_bipush (-2) (by decide) C dX9_put_14 ?_
    exact hret _ _ _ _ dX9_put_16 h
  · refine tz_iload_n 2 2 C dX9_put_7 rfl rfl ?_
    refine tz_callis C dX9_put_8 lk_RX9_266 (m_X9_noForm G hG  h) rfl ⟨Nat.le_of_ble_eq_true rfl, Nat.le_of_ble_eq_true rfl⟩ (Nat.le_of_ble_eq_true rfl) rfl (fun r_5 σ_4 h => ?_)
    refine tz_if_eq 17 C dX9_put_11 (by decide) h (fun c_6 h => ?_) (fun c_6 h => ?_)
    · refine tz_aload_n 0 0 C dX9_put_17 rfl rfl ?_
      refine tz_getR C dX9_put_18 fl_RX9_68 (by decide) rfl rfl ?_
      refine tz_iload_n 1 1 C dX9_put_21 rfl rfl ?_
      refine tz_iload_n 2 2 C dX9_put_22 rfl rfl ?_
      refine tz_iload_n 3 3 C dX9_put_23 rfl rfl ?_
      refine tz_calliv C dX9_put_24 lk_RX9_279 (m_X7_againstItem G hG  h) (by decide) rfl rfl rfl rfl ⟨Nat.le_of_ble_eq_true rfl, Nat.le_of_ble_eq_true rfl⟩ (Nat.le_of_ble_eq_true rfl) rfl (fun r_8 σ_7 h => ?_)
      refine tz_istore_k [(0, .ref 0), (1, .int x1), (2, .int x2), (3, .int x3), (4, .int x4)] C dX9_put_27 (Nat.le_of_ble_eq_true rfl) rfl ?_
      refine tz_iload 0 C dX9_put_29 rfl ?_
      refine tz_if_eq 41 C dX9_put_31 (by decide) h (fun c_9 h => ?_) (fun c_9 h => ?_)
      · refine tz_aload_n 0 1 C dX9_put_41 rfl rfl ?_
        refine tz_getR C dX9_put_42 fl_RX9_68 (by decide) rfl rfl ?_
        refine tz_iload_n 1 2 C dX9_put_45 rfl rfl ?_
        refine tz_iload_n 3 4 C dX9_put_46 rfl rfl ?_
        refine tz_iload 5 C dX9_put_47 rfl ?_
        refine tz_callvv C dX9_put_49 lk_RX9_282 (m_X7_keep G hG  h) (by decide) rfl rfl rfl rfl ⟨Nat.le_of_ble_eq_true rfl, Nat.le_of_ble_eq_true rfl⟩ (Nat.le_of_ble_eq_true rfl) rfl (fun σ_10 h => ?_)
        refine tz_iconst 1 (by decide) C dX9_put_52 ?_
        exact hret _ _ _ _ dX9_put_53 h
      · refine tz_aload_n 0 1 C dX9_put_34 rfl rfl ?_
        refine tz_iload 0 C dX9_put_35 rfl ?_
        refine tz_calliv C dX9_put_37 lk_RX9_137 (m_X9_finding G hG  h) (by decide) rfl rfl rfl rfl ⟨Nat.le_of_ble_eq_true rfl, Nat.le_of_ble_eq_true rfl⟩ (Nat.le_of_ble_eq_true rfl) rfl (fun r_12 σ_11 h => ?_)
        exact hret _ _ _ _ dX9_put_40 h
    · refine tz_bipush (-2) (by decide) C dX9_put_14 ?_
      exact hret _ _ _ _ dX9_put_16 h

def vc_X9_get (x1 : Int32) (x2 : Int32) (x3 : Int32) (σ : tzS) (Q : Int32 → tzS → Prop) : Prop :=
  vc_X9_noSheet x1 σ (fun (r_2 : Int32) (σ_1 : tzS) =>
    (¬ r_2 = 0 →
      Q (-2147483648) σ_1) ∧
    (r_2 = 0 →
      vc_X9_noForm x2 σ_1 (fun (r_5 : Int32) (σ_4 : tzS) =>
        (r_5 = 0 →
          vc_X7_againstItem x1 x2 x3 σ_4 (fun (r_8 : Int32) (σ_7 : tzS) =>
            (r_8 = 0 →
              vc_X7_item x1 x3 σ_7 (fun (r_11 : Int32) (σ_10 : tzS) =>
                Q r_11 σ_10)) ∧
            (¬ r_8 = 0 →
              ∀ σ_12 : tzS, σ_12 = tz_st σ_7 0 11 r_8 →
              Q (-2147483648) σ_12))) ∧
        (¬ r_5 = 0 →
          Q (-2147483648) σ_4))))
set_option maxRecDepth 20000 in
set_option maxHeartbeats 4000000 in
theorem m_X9_get (G : tzG) (hG : tz_ok G) {x1 : Int32} {x2 : Int32} {x3 : Int32}  {σ : tzS} {Q : Int32 → tzS → Prop} (h : vc_X9_get x1 x2 x3 σ Q) : tz_M G yX9_get cX9_get 5 (some .int) 2 44 [.ref 0, .int x1, .int x2, .int x3] σ (tz_Qi G Q) := by
  unfold vc_X9_get at h
  refine tz_starti hG RX9 [(0, .ref 0), (1, .int x1), (2, .int x2), (3, .int x3)] (by decide) rfl (Nat.le_of_ble_eq_true rfl) rfl (fun E C hret => ?_)
  refine tz_iload_n 1 1 C dX9_get_0 rfl rfl ?_
  refine tz_callis C dX9_get_1 lk_RX9_131 (m_X9_noSheet G hG  h) rfl ⟨Nat.le_of_ble_eq_true rfl, Nat.le_of_ble_eq_true rfl⟩ (Nat.le_of_ble_eq_true rfl) rfl (fun r_2 σ_1 h => ?_)
  refine tz_if_ne 14 C dX9_get_4 (by decide) h (fun c_3 h => ?_) (fun c_3 h => ?_)
  · refine tz_ldcw (-2147483648) C dX9_get_14 cw_RX9_285 ?_
    exact hret _ _ _ _ dX9_get_17 h
  · refine tz_iload_n 2 2 C dX9_get_7 rfl rfl ?_
    refine tz_callis C dX9_get_8 lk_RX9_266 (m_X9_noForm G hG  h) rfl ⟨Nat.le_of_ble_eq_true rfl, Nat.le_of_ble_eq_true rfl⟩ (Nat.le_of_ble_eq_true rfl) rfl (fun r_5 σ_4 h => ?_)
    refine tz_if_eq 18 C dX9_get_11 (by decide) h (fun c_6 h => ?_) (fun c_6 h => ?_)
    · refine tz_aload_n 0 0 C dX9_get_18 rfl rfl ?_
      refine tz_getR C dX9_get_19 fl_RX9_68 (by decide) rfl rfl ?_
      refine tz_iload_n 1 1 C dX9_get_22 rfl rfl ?_
      refine tz_iload_n 2 2 C dX9_get_23 rfl rfl ?_
      refine tz_iload_n 3 3 C dX9_get_24 rfl rfl ?_
      refine tz_calliv C dX9_get_25 lk_RX9_279 (m_X7_againstItem G hG  h) (by decide) rfl rfl rfl rfl ⟨Nat.le_of_ble_eq_true rfl, Nat.le_of_ble_eq_true rfl⟩ (Nat.le_of_ble_eq_true rfl) rfl (fun r_8 σ_7 h => ?_)
      refine tz_istore_k [(0, .ref 0), (1, .int x1), (2, .int x2), (3, .int x3)] C dX9_get_28 (Nat.le_of_ble_eq_true rfl) rfl ?_
      refine tz_iload 0 C dX9_get_30 rfl ?_
      refine tz_if_eq 45 C dX9_get_32 (by decide) h (fun c_9 h => ?_) (fun c_9 h => ?_)
      · refine tz_aload_n 0 1 C dX9_get_45 rfl rfl ?_
        refine tz_getR C dX9_get_46 fl_RX9_68 (by decide) rfl rfl ?_
        refine tz_iload_n 1 2 C dX9_get_49 rfl rfl ?_
        refine tz_iload_n 3 4 C dX9_get_50 rfl rfl ?_
        refine tz_calliv C dX9_get_51 lk_RX9_150 (m_X7_item G hG  h) (by decide) rfl rfl rfl rfl ⟨Nat.le_of_ble_eq_true rfl, Nat.le_of_ble_eq_true rfl⟩ (Nat.le_of_ble_eq_true rfl) rfl (fun r_11 σ_10 h => ?_)
        exact hret _ _ _ _ dX9_get_54 h
      · refine tz_aload_n 0 1 C dX9_get_35 rfl rfl ?_
        refine tz_iload 0 C dX9_get_36 rfl ?_
        refine tz_put C dX9_get_38 fp_RX9_80 (by decide) rfl rfl rfl rfl h (fun σ_12 h => ?_)
        refine tz_ldcw (-2147483648) C dX9_get_41 cw_RX9_285 ?_
        exact hret _ _ _ _ dX9_get_44 h
    · refine tz_ldcw (-2147483648) C dX9_get_14 cw_RX9_285 ?_
      exact hret _ _ _ _ dX9_get_17 h

def vc_X9_copy (x1 : Int32) (x2 : Int32) (x3 : Int32) (x4 : Int32) (x5 : Int32) (σ : tzS) (Q : Int32 → tzS → Prop) : Prop :=
  vc_X9_noSheet x1 σ (fun (r_2 : Int32) (σ_1 : tzS) =>
    (¬ r_2 = 0 →
      Q (-2) σ_1) ∧
    (r_2 = 0 →
      vc_X9_noSheet x3 σ_1 (fun (r_5 : Int32) (σ_4 : tzS) =>
        (r_5 = 0 →
          vc_X7_isLost x1 σ_4 (fun (r_8 : Int32) (σ_7 : tzS) =>
            (¬ r_8 = 0 →
              vc_X9_finding 1 σ_7 (fun (r_11 : Int32) (σ_10 : tzS) =>
                Q r_11 σ_10)) ∧
            (r_8 = 0 →
              vc_X7_isLost x3 σ_7 (fun (r_13 : Int32) (σ_12 : tzS) =>
                (r_13 = 0 →
                  vp_in x1 4 ∧ (
                    vp_in x3 4 ∧ (
                      ((σ_12.1 125 x1.toNatClampNeg) = (σ_12.1 125 x3.toNatClampNeg) →
                        vc_X7_lacks x1 x2 x5 σ_12 (fun (r_19 : Int32) (σ_18 : tzS) =>
                          (¬ r_19 = 0 →
                            vc_X9_finding 2 σ_18 (fun (r_22 : Int32) (σ_21 : tzS) =>
                              Q r_22 σ_21)) ∧
                          (r_19 = 0 →
                            vc_X7_lacks x3 x4 x5 σ_18 (fun (r_24 : Int32) (σ_23 : tzS) =>
                              (r_24 = 0 →
                                vc_X7_move x1 x2 x3 x4 x5 σ_23 (fun (σ_26 : tzS) =>
                                  Q 1 σ_26)) ∧
                              (¬ r_24 = 0 →
                                vc_X9_finding 2 σ_23 (fun (r_28 : Int32) (σ_27 : tzS) =>
                                  Q r_28 σ_27)))))) ∧
                      (¬ (σ_12.1 125 x1.toNatClampNeg) = (σ_12.1 125 x3.toNatClampNeg) →
                        vc_X9_finding 4 σ_12 (fun (r_30 : Int32) (σ_29 : tzS) =>
                          Q r_30 σ_29))))) ∧
                (¬ r_13 = 0 →
                  vc_X9_finding 1 σ_12 (fun (r_32 : Int32) (σ_31 : tzS) =>
                    Q r_32 σ_31)))))) ∧
        (¬ r_5 = 0 →
          Q (-2) σ_4))))
set_option maxRecDepth 20000 in
set_option maxHeartbeats 4000000 in
theorem m_X9_copy (G : tzG) (hG : tz_ok G) {x1 : Int32} {x2 : Int32} {x3 : Int32} {x4 : Int32} {x5 : Int32}  {σ : tzS} {Q : Int32 → tzS → Prop} (h : vc_X9_copy x1 x2 x3 x4 x5 σ Q) : tz_M G yX9_copy cX9_copy 6 (some .int) 2 85 [.ref 0, .int x1, .int x2, .int x3, .int x4, .int x5] σ (tz_Qi G Q) := by
  unfold vc_X9_copy at h
  refine tz_starti hG RX9 [(0, .ref 0), (1, .int x1), (2, .int x2), (3, .int x3), (4, .int x4), (5, .int x5)] (by decide) rfl (Nat.le_of_ble_eq_true rfl) rfl (fun E C hret => ?_)
  refine tz_iload_n 1 1 C dX9_copy_0 rfl rfl ?_
  refine tz_callis C dX9_copy_1 lk_RX9_131 (m_X9_noSheet G hG  h) rfl ⟨Nat.le_of_ble_eq_true rfl, Nat.le_of_ble_eq_true rfl⟩ (Nat.le_of_ble_eq_true rfl) rfl (fun r_2 σ_1 h => ?_)
  refine tz_if_ne 14 C dX9_copy_4 (by decide) h (fun c_3 h => ?_) (fun c_3 h => ?_)
  · refine tz_bipush (-2) (by decide) C dX9_copy_14 ?_
    exact hret _ _ _ _ dX9_copy_16 h
  · refine tz_iload_n 3 3 C dX9_copy_7 rfl rfl ?_
    refine tz_callis C dX9_copy_8 lk_RX9_131 (m_X9_noSheet G hG  h) rfl ⟨Nat.le_of_ble_eq_true rfl, Nat.le_of_ble_eq_true rfl⟩ (Nat.le_of_ble_eq_true rfl) rfl (fun r_5 σ_4 h => ?_)
    refine tz_if_eq 17 C dX9_copy_11 (by decide) h (fun c_6 h => ?_) (fun c_6 h => ?_)
    · refine tz_aload_n 0 0 C dX9_copy_17 rfl rfl ?_
      refine tz_getR C dX9_copy_18 fl_RX9_68 (by decide) rfl rfl ?_
      refine tz_iload_n 1 1 C dX9_copy_21 rfl rfl ?_
      refine tz_calliv C dX9_copy_22 lk_RX9_134 (m_X7_isLost G hG  h) (by decide) rfl rfl rfl rfl ⟨Nat.le_of_ble_eq_true rfl, Nat.le_of_ble_eq_true rfl⟩ (Nat.le_of_ble_eq_true rfl) rfl (fun r_8 σ_7 h => ?_)
      refine tz_if_ne 39 C dX9_copy_25 (by decide) h (fun c_9 h => ?_) (fun c_9 h => ?_)
      · refine tz_aload_n 0 0 C dX9_copy_39 rfl rfl ?_
        refine tz_iconst 1 (by decide) C dX9_copy_40 ?_
        refine tz_calliv C dX9_copy_41 lk_RX9_137 (m_X9_finding G hG  h) (by decide) rfl rfl rfl rfl ⟨Nat.le_of_ble_eq_true rfl, Nat.le_of_ble_eq_true rfl⟩ (Nat.le_of_ble_eq_true rfl) rfl (fun r_11 σ_10 h => ?_)
        exact hret _ _ _ _ dX9_copy_44 h
      · refine tz_aload_n 0 0 C dX9_copy_28 rfl rfl ?_
        refine tz_getR C dX9_copy_29 fl_RX9_68 (by decide) rfl rfl ?_
        refine tz_iload_n 3 3 C dX9_copy_32 rfl rfl ?_
        refine tz_calliv C dX9_copy_33 lk_RX9_134 (m_X7_isLost G hG  h) (by decide) rfl rfl rfl rfl ⟨Nat.le_of_ble_eq_true rfl, Nat.le_of_ble_eq_true rfl⟩ (Nat.le_of_ble_eq_true rfl) rfl (fun r_13 σ_12 h => ?_)
        refine tz_if_eq 45 C dX9_copy_36 (by decide) h (fun c_14 h => ?_) (fun c_14 h => ?_)
        · refine tz_aload_n 0 0 C dX9_copy_45 rfl rfl ?_
          refine tz_getR C dX9_copy_46 fl_RX9_68 (by decide) rfl rfl ?_
          refine tz_getR C dX9_copy_49 fl_RX9_273 (by decide) rfl rfl ?_
          refine tz_iload_n 1 1 C dX9_copy_52 rfl rfl ?_
          obtain ⟨hin_15, h⟩ := h
          refine tz_iald C dX9_copy_53 (by decide) rfl hin_15 ?_
          refine tz_aload_n 0 0 C dX9_copy_54 rfl rfl ?_
          refine tz_getR C dX9_copy_55 fl_RX9_68 (by decide) rfl rfl ?_
          refine tz_getR C dX9_copy_58 fl_RX9_273 (by decide) rfl rfl ?_
          refine tz_iload_n 3 3 C dX9_copy_61 rfl rfl ?_
          obtain ⟨hin_16, h⟩ := h
          refine tz_iald C dX9_copy_62 (by decide) rfl hin_16 ?_
          refine tz_icmp_eq 72 C dX9_copy_63 (by decide) h (fun c_17 h => ?_) (fun c_17 h => ?_)
          · refine tz_aload_n 0 0 C dX9_copy_72 rfl rfl ?_
            refine tz_getR C dX9_copy_73 fl_RX9_68 (by decide) rfl rfl ?_
            refine tz_iload_n 1 1 C dX9_copy_76 rfl rfl ?_
            refine tz_iload_n 2 2 C dX9_copy_77 rfl rfl ?_
            refine tz_iload 5 C dX9_copy_78 rfl ?_
            refine tz_calliv C dX9_copy_80 lk_RX9_286 (m_X7_lacks G hG  h) (by decide) rfl rfl rfl rfl ⟨Nat.le_of_ble_eq_true rfl, Nat.le_of_ble_eq_true rfl⟩ (Nat.le_of_ble_eq_true rfl) rfl (fun r_19 σ_18 h => ?_)
            refine tz_if_ne 101 C dX9_copy_83 (by decide) h (fun c_20 h => ?_) (fun c_20 h => ?_)
            · refine tz_aload_n 0 0 C dX9_copy_101 rfl rfl ?_
              refine tz_iconst 2 (by decide) C dX9_copy_102 ?_
              refine tz_calliv C dX9_copy_103 lk_RX9_137 (m_X9_finding G hG  h) (by decide) rfl rfl rfl rfl ⟨Nat.le_of_ble_eq_true rfl, Nat.le_of_ble_eq_true rfl⟩ (Nat.le_of_ble_eq_true rfl) rfl (fun r_22 σ_21 h => ?_)
              exact hret _ _ _ _ dX9_copy_106 h
            · refine tz_aload_n 0 0 C dX9_copy_86 rfl rfl ?_
              refine tz_getR C dX9_copy_87 fl_RX9_68 (by decide) rfl rfl ?_
              refine tz_iload_n 3 3 C dX9_copy_90 rfl rfl ?_
              refine tz_iload 4 C dX9_copy_91 rfl ?_
              refine tz_iload 5 C dX9_copy_93 rfl ?_
              refine tz_calliv C dX9_copy_95 lk_RX9_286 (m_X7_lacks G hG  h) (by decide) rfl rfl rfl rfl ⟨Nat.le_of_ble_eq_true rfl, Nat.le_of_ble_eq_true rfl⟩ (Nat.le_of_ble_eq_true rfl) rfl (fun r_24 σ_23 h => ?_)
              refine tz_if_eq 107 C dX9_copy_98 (by decide) h (fun c_25 h => ?_) (fun c_25 h => ?_)
              · refine tz_aload_n 0 0 C dX9_copy_107 rfl rfl ?_
                refine tz_getR C dX9_copy_108 fl_RX9_68 (by decide) rfl rfl ?_
                refine tz_iload_n 1 1 C dX9_copy_111 rfl rfl ?_
                refine tz_iload_n 2 2 C dX9_copy_112 rfl rfl ?_
                refine tz_iload_n 3 3 C dX9_copy_113 rfl rfl ?_
                refine tz_iload 4 C dX9_copy_114 rfl ?_
                refine tz_iload 5 C dX9_copy_116 rfl ?_
                refine tz_callvv C dX9_copy_118 lk_RX9_290 (m_X7_move G hG  h) (by decide) rfl rfl rfl rfl ⟨Nat.le_of_ble_eq_true rfl, Nat.le_of_ble_eq_true rfl⟩ (Nat.le_of_ble_eq_true rfl) rfl (fun σ_26 h => ?_)
                refine tz_iconst 1 (by decide) C dX9_copy_121 ?_
                exact hret _ _ _ _ dX9_copy_122 h
              · refine tz_aload_n 0 0 C dX9_copy_101 rfl rfl ?_
                refine tz_iconst 2 (by decide) C dX9_copy_102 ?_
                refine tz_calliv C dX9_copy_103 lk_RX9_137 (m_X9_finding G hG  h) (by decide) rfl rfl rfl rfl ⟨Nat.le_of_ble_eq_true rfl, Nat.le_of_ble_eq_true rfl⟩ (Nat.le_of_ble_eq_true rfl) rfl (fun r_28 σ_27 h => ?_)
                exact hret _ _ _ _ dX9_copy_106 h
          · refine tz_aload_n 0 0 C dX9_copy_66 rfl rfl ?_
            refine tz_iconst 4 (by decide) C dX9_copy_67 ?_
            refine tz_calliv C dX9_copy_68 lk_RX9_137 (m_X9_finding G hG  h) (by decide) rfl rfl rfl rfl ⟨Nat.le_of_ble_eq_true rfl, Nat.le_of_ble_eq_true rfl⟩ (Nat.le_of_ble_eq_true rfl) rfl (fun r_30 σ_29 h => ?_)
            exact hret _ _ _ _ dX9_copy_71 h
        · refine tz_aload_n 0 0 C dX9_copy_39 rfl rfl ?_
          refine tz_iconst 1 (by decide) C dX9_copy_40 ?_
          refine tz_calliv C dX9_copy_41 lk_RX9_137 (m_X9_finding G hG  h) (by decide) rfl rfl rfl rfl ⟨Nat.le_of_ble_eq_true rfl, Nat.le_of_ble_eq_true rfl⟩ (Nat.le_of_ble_eq_true rfl) rfl (fun r_32 σ_31 h => ?_)
          exact hret _ _ _ _ dX9_copy_44 h
    · refine tz_bipush (-2) (by decide) C dX9_copy_14 ?_
      exact hret _ _ _ _ dX9_copy_16 h

def vc_X9_write (x1 : Int32) (x2 : Int32) (σ : tzS) (Q : Int32 → tzS → Prop) : Prop :=
  vc_X9_noParts x1 σ (fun (r_2 : Int32) (σ_1 : tzS) =>
    (¬ r_2 = 0 →
      Q (-2) σ_1) ∧
    (r_2 = 0 →
      vc_X9_noSheet x2 σ_1 (fun (r_5 : Int32) (σ_4 : tzS) =>
        (r_5 = 0 →
          vc_X7_isLost x2 σ_4 (fun (r_8 : Int32) (σ_7 : tzS) =>
            (r_8 = 0 →
              vc_X9_readText  σ_7 (fun (σ_10 : tzS) =>
                (x1 ≤ (σ_10.1 4 0) →
                  vc_X9_partText  σ_10 (fun (σ_12 : tzS) =>
                    vp_in x2 4 ∧ (
                      ∀ x3_14 : Int32, x3_14 = (if (σ_12.1 126 x2.toNatClampNeg) < x1 then (σ_12.1 126 x2.toNatClampNeg) else x1) →
                      tz_loop1 (fun (x4_17 : Int32) (σ_16 : tzS) (ag_15 : Int32 → tzS → Prop) =>
                        (x3_14 ≤ x4_17 →
                          Q x3_14 σ_16) ∧
                        (¬ x3_14 ≤ x4_17 →
                          vc_X5_beginOf 59 x1 x4_17 (σ_16.1 4 0) σ_16 (fun (r_20 : Int32) (σ_19 : tzS) =>
                            vc_X7_keep x2 x4_17 r_20 σ_19 (fun (σ_21 : tzS) =>
                              ∀ x4_22 : Int32, x4_22 = x4_17 + 1 →
                              ag_15 x4_22 σ_21)))) (0 : Int32) σ_12))) ∧
                (¬ x1 ≤ (σ_10.1 4 0) →
                  Q 0 σ_10))) ∧
            (¬ r_8 = 0 →
              vc_X9_finding 1 σ_7 (fun (r_24 : Int32) (σ_23 : tzS) =>
                Q r_24 σ_23)))) ∧
        (¬ r_5 = 0 →
          Q (-2) σ_4))))
set_option maxRecDepth 20000 in
set_option maxHeartbeats 4000000 in
theorem m_X9_write (G : tzG) (hG : tz_ok G) {x1 : Int32} {x2 : Int32}  {σ : tzS} {Q : Int32 → tzS → Prop} (h : vc_X9_write x1 x2 σ Q) : tz_M G yX9_write cX9_write 5 (some .int) 4 99 [.ref 0, .int x1, .int x2] σ (tz_Qi G Q) := by
  unfold vc_X9_write at h
  refine tz_starti hG RX9 [(0, .ref 0), (1, .int x1), (2, .int x2)] (by decide) rfl (Nat.le_of_ble_eq_true rfl) rfl (fun E C hret => ?_)
  refine tz_iload_n 1 1 C dX9_write_0 rfl rfl ?_
  refine tz_callis C dX9_write_1 lk_RX9_223 (m_X9_noParts G hG  h) rfl ⟨Nat.le_of_ble_eq_true rfl, Nat.le_of_ble_eq_true rfl⟩ (Nat.le_of_ble_eq_true rfl) rfl (fun r_2 σ_1 h => ?_)
  refine tz_if_ne 14 C dX9_write_4 (by decide) h (fun c_3 h => ?_) (fun c_3 h => ?_)
  · refine tz_bipush (-2) (by decide) C dX9_write_14 ?_
    exact hret _ _ _ _ dX9_write_16 h
  · refine tz_iload_n 2 2 C dX9_write_7 rfl rfl ?_
    refine tz_callis C dX9_write_8 lk_RX9_131 (m_X9_noSheet G hG  h) rfl ⟨Nat.le_of_ble_eq_true rfl, Nat.le_of_ble_eq_true rfl⟩ (Nat.le_of_ble_eq_true rfl) rfl (fun r_5 σ_4 h => ?_)
    refine tz_if_eq 17 C dX9_write_11 (by decide) h (fun c_6 h => ?_) (fun c_6 h => ?_)
    · refine tz_aload_n 0 0 C dX9_write_17 rfl rfl ?_
      refine tz_getR C dX9_write_18 fl_RX9_68 (by decide) rfl rfl ?_
      refine tz_iload_n 2 2 C dX9_write_21 rfl rfl ?_
      refine tz_calliv C dX9_write_22 lk_RX9_134 (m_X7_isLost G hG  h) (by decide) rfl rfl rfl rfl ⟨Nat.le_of_ble_eq_true rfl, Nat.le_of_ble_eq_true rfl⟩ (Nat.le_of_ble_eq_true rfl) rfl (fun r_8 σ_7 h => ?_)
      refine tz_if_eq 34 C dX9_write_25 (by decide) h (fun c_9 h => ?_) (fun c_9 h => ?_)
      · refine tz_aload_n 0 0 C dX9_write_34 rfl rfl ?_
        refine tz_callvv C dX9_write_35 lk_RX9_113 (m_X9_readText G hG  h) (by decide) rfl rfl rfl rfl ⟨Nat.le_of_ble_eq_true rfl, Nat.le_of_ble_eq_true rfl⟩ (Nat.le_of_ble_eq_true rfl) rfl (fun σ_10 h => ?_)
        refine tz_iload_n 1 1 C dX9_write_38 rfl rfl ?_
        refine tz_aload_n 0 0 C dX9_write_39 rfl rfl ?_
        refine tz_getR C dX9_write_40 fl_RX9_26 (by decide) rfl rfl ?_
        refine tz_getI C dX9_write_43 fl_RX9_214 (by decide) rfl rfl ?_
        refine tz_icmp_le 51 C dX9_write_46 (by decide) h (fun c_11 h => ?_) (fun c_11 h => ?_)
        · refine tz_aload_n 0 0 C dX9_write_51 rfl rfl ?_
          refine tz_callvv C dX9_write_52 lk_RX9_217 (m_X9_partText G hG  h) (by decide) rfl rfl rfl rfl ⟨Nat.le_of_ble_eq_true rfl, Nat.le_of_ble_eq_true rfl⟩ (Nat.le_of_ble_eq_true rfl) rfl (fun σ_12 h => ?_)
          refine tz_iload_n 1 1 C dX9_write_55 rfl rfl ?_
          refine tz_aload_n 0 0 C dX9_write_56 rfl rfl ?_
          refine tz_getR C dX9_write_57 fl_RX9_68 (by decide) rfl rfl ?_
          refine tz_getR C dX9_write_60 fl_RX9_276 (by decide) rfl rfl ?_
          refine tz_iload_n 2 2 C dX9_write_63 rfl rfl ?_
          obtain ⟨hin_13, h⟩ := h
          refine tz_iald C dX9_write_64 (by decide) rfl hin_13 ?_
          refine tz_mmin C dX9_write_65 mk_RX9_144 mk_st_min mk_ini mk_co_min ⟨Nat.le_of_ble_eq_true rfl, Nat.le_of_ble_eq_true rfl⟩ ?_
          refine tz_istore_n 3 [(0, .ref 0), (1, .int x1), (2, .int x2)] C dX9_write_68 rfl (Nat.le_of_ble_eq_true rfl) rfl h (fun x3_14 h => ?_)
          refine tz_iconst 0 (by decide) C dX9_write_69 ?_
          refine tz_istore_k [(3, .int x3_14), (0, .ref 0), (1, .int x1), (2, .int x2)] C dX9_write_70 (Nat.le_of_ble_eq_true rfl) rfl ?_
          refine tz_sub (L := [(0, .ref 0), (1, .int x1), (2, .int x2), (3, .int x3_14), (4, .int 0)]) ?_ [2, 3, 4, 1, 0] rfl
          refine tz_loop1_w (V := fun (x4_17 : Int32) (σ_16 : tzS) => tz_V G E 72 [(0, .ref 0), (1, .int x1), (2, .int x2), (3, .int x3_14), (4, .int x4_17)] [] σ_16) h (fun ag_15 ihag_15 x4_17 σ_16 h => ?_)
          refine tz_iload 4 C dX9_write_72 rfl ?_
          refine tz_iload_n 3 3 C dX9_write_74 rfl rfl ?_
          refine tz_icmp_ge 111 C dX9_write_75 (by decide) h (fun c_18 h => ?_) (fun c_18 h => ?_)
          · refine tz_iload_n 3 3 C dX9_write_111 rfl rfl ?_
            exact hret _ _ _ _ dX9_write_112 h
          · refine tz_aload_n 0 0 C dX9_write_78 rfl rfl ?_
            refine tz_getR C dX9_write_79 fl_RX9_68 (by decide) rfl rfl ?_
            refine tz_iload_n 2 2 C dX9_write_82 rfl rfl ?_
            refine tz_iload 4 C dX9_write_83 rfl ?_
            refine tz_aload_n 0 0 C dX9_write_85 rfl rfl ?_
            refine tz_getR C dX9_write_86 fl_RX9_47 (by decide) rfl rfl ?_
            refine tz_iload_n 1 1 C dX9_write_89 rfl rfl ?_
            refine tz_iload 4 C dX9_write_90 rfl ?_
            refine tz_aload_n 0 0 C dX9_write_92 rfl rfl ?_
            refine tz_getR C dX9_write_93 fl_RX9_26 (by decide) rfl rfl ?_
            refine tz_getI C dX9_write_96 fl_RX9_214 (by decide) rfl rfl ?_
            refine tz_calliv C dX9_write_99 lk_RX9_229 (m_X5_beginOf G hG (by decide) h) (by decide) rfl rfl rfl rfl ⟨Nat.le_of_ble_eq_true rfl, Nat.le_of_ble_eq_true rfl⟩ (Nat.le_of_ble_eq_true rfl) rfl (fun r_20 σ_19 h => ?_)
            refine tz_callvv C dX9_write_102 lk_RX9_282 (m_X7_keep G hG  h) (by decide) rfl rfl rfl rfl ⟨Nat.le_of_ble_eq_true rfl, Nat.le_of_ble_eq_true rfl⟩ (Nat.le_of_ble_eq_true rfl) rfl (fun σ_21 h => ?_)
            refine tz_iinc 4 [(0, .ref 0), (1, .int x1), (2, .int x2), (3, .int x3_14)] 1 C dX9_write_105 (by decide) rfl (Nat.le_of_ble_eq_true rfl) rfl h (fun x4_22 h => ?_)
            refine tz_goto 72 C dX9_write_108 (by decide) ?_
            exact tz_sub (ihag_15 _ _ h) [1, 2, 3, 4, 0] rfl
        · refine tz_iconst 0 (by decide) C dX9_write_49 ?_
          exact hret _ _ _ _ dX9_write_50 h
      · refine tz_aload_n 0 0 C dX9_write_28 rfl rfl ?_
        refine tz_iconst 1 (by decide) C dX9_write_29 ?_
        refine tz_calliv C dX9_write_30 lk_RX9_137 (m_X9_finding G hG  h) (by decide) rfl rfl rfl rfl ⟨Nat.le_of_ble_eq_true rfl, Nat.le_of_ble_eq_true rfl⟩ (Nat.le_of_ble_eq_true rfl) rfl (fun r_24 σ_23 h => ?_)
        exact hret _ _ _ _ dX9_write_33 h
    · refine tz_bipush (-2) (by decide) C dX9_write_14 ?_
      exact hret _ _ _ _ dX9_write_16 h

def vc_X9_count (x1 : Int32) (σ : tzS) (Q : Int32 → tzS → Prop) : Prop :=
  vc_X9_readText  σ (fun (σ_1 : tzS) =>
    (x1 = 0 →
      Q (σ_1.1 1 1) σ_1) ∧
    (x1 = 1 →
      Q (σ_1.1 4 0) σ_1) ∧
    (x1 = 2 →
      Q (σ_1.1 4 1) σ_1) ∧
    (x1 = 3 →
      Q (σ_1.1 4 2) σ_1) ∧
    (x1 = 4 →
      vc_X9_chains  σ_1 (fun (r_3 : Int32) (σ_2 : tzS) =>
        Q r_3 σ_2)) ∧
    (x1 = 5 →
      Q (σ_1.1 132 0) σ_1) ∧
    (x1 = 6 →
      Q (σ_1.1 132 1) σ_1) ∧
    (x1 = 7 →
      Q (σ_1.1 0 10) σ_1) ∧
    (x1 = 8 →
      Q (σ_1.1 0 11) σ_1) ∧
    (¬ x1 = 0 → ¬ x1 = 1 → ¬ x1 = 2 → ¬ x1 = 3 → ¬ x1 = 4 → ¬ x1 = 5 → ¬ x1 = 6 → ¬ x1 = 7 → ¬ x1 = 8 →
      Q (-2) σ_1))
set_option maxRecDepth 20000 in
set_option maxHeartbeats 4000000 in
theorem m_X9_count (G : tzG) (hG : tz_ok G) {x1 : Int32}  {σ : tzS} {Q : Int32 → tzS → Prop} (h : vc_X9_count x1 σ Q) : tz_M G yX9_count cX9_count 2 (some .int) 5 119 [.ref 0, .int x1] σ (tz_Qi G Q) := by
  unfold vc_X9_count at h
  refine tz_starti hG RX9 [(0, .ref 0), (1, .int x1)] (by decide) rfl (Nat.le_of_ble_eq_true rfl) rfl (fun E C hret => ?_)
  refine tz_aload_n 0 0 C dX9_count_0 rfl rfl ?_
  refine tz_callvv C dX9_count_1 lk_RX9_113 (m_X9_readText G hG  h) (by decide) rfl rfl rfl rfl ⟨Nat.le_of_ble_eq_true rfl, Nat.le_of_ble_eq_true rfl⟩ (Nat.le_of_ble_eq_true rfl) rfl (fun σ_1 h => ?_)
  refine tz_iload_n 1 1 C dX9_count_4 rfl rfl ?_
  refine tz_swc 0 (51) 56 C dX9_count_5 (by decide) (by decide) rfl (by decide) h (fun h => ?_) (fun e0 h => ?_)
  · refine tz_aload_n 0 0 C dX9_count_56 rfl rfl ?_
    refine tz_getR C dX9_count_57 fl_RX9_12 (by decide) rfl rfl ?_
    refine tz_getI C dX9_count_60 fl_RX9_103 (by decide) rfl rfl ?_
    exact hret _ _ _ _ dX9_count_63 h
  refine tz_swc 1 (59) 64 C dX9_count_5 (by decide) (by decide) rfl (by decide) h (fun h => ?_) (fun e1 h => ?_)
  · refine tz_aload_n 0 0 C dX9_count_64 rfl rfl ?_
    refine tz_getR C dX9_count_65 fl_RX9_26 (by decide) rfl rfl ?_
    refine tz_getI C dX9_count_68 fl_RX9_214 (by decide) rfl rfl ?_
    exact hret _ _ _ _ dX9_count_71 h
  refine tz_swc 2 (67) 72 C dX9_count_5 (by decide) (by decide) rfl (by decide) h (fun h => ?_) (fun e2 h => ?_)
  · refine tz_aload_n 0 0 C dX9_count_72 rfl rfl ?_
    refine tz_getR C dX9_count_73 fl_RX9_26 (by decide) rfl rfl ?_
    refine tz_getI C dX9_count_76 fl_RX9_294 (by decide) rfl rfl ?_
    exact hret _ _ _ _ dX9_count_79 h
  refine tz_swc 3 (75) 80 C dX9_count_5 (by decide) (by decide) rfl (by decide) h (fun h => ?_) (fun e3 h => ?_)
  · refine tz_aload_n 0 0 C dX9_count_80 rfl rfl ?_
    refine tz_getR C dX9_count_81 fl_RX9_26 (by decide) rfl rfl ?_
    refine tz_getI C dX9_count_84 fl_RX9_297 (by decide) rfl rfl ?_
    exact hret _ _ _ _ dX9_count_87 h
  refine tz_swc 4 (83) 88 C dX9_count_5 (by decide) (by decide) rfl (by decide) h (fun h => ?_) (fun e4 h => ?_)
  · refine tz_aload_n 0 0 C dX9_count_88 rfl rfl ?_
    refine tz_calliv C dX9_count_89 lk_RX9_300 (m_X9_chains G hG  h) (by decide) rfl rfl rfl rfl ⟨Nat.le_of_ble_eq_true rfl, Nat.le_of_ble_eq_true rfl⟩ (Nat.le_of_ble_eq_true rfl) rfl (fun r_3 σ_2 h => ?_)
    exact hret _ _ _ _ dX9_count_92 h
  refine tz_swc 5 (88) 93 C dX9_count_5 (by decide) (by decide) rfl (by decide) h (fun h => ?_) (fun e5 h => ?_)
  · refine tz_aload_n 0 0 C dX9_count_93 rfl rfl ?_
    refine tz_getR C dX9_count_94 fl_RX9_72 (by decide) rfl rfl ?_
    refine tz_iconst 0 (by decide) C dX9_count_97 ?_
    refine tz_iald_c 0 C dX9_count_98 (by decide) rfl (tz_inl rfl) rfl ?_
    exact hret _ _ _ _ dX9_count_99 h
  refine tz_swc 6 (95) 100 C dX9_count_5 (by decide) (by decide) rfl (by decide) h (fun h => ?_) (fun e6 h => ?_)
  · refine tz_aload_n 0 0 C dX9_count_100 rfl rfl ?_
    refine tz_getR C dX9_count_101 fl_RX9_72 (by decide) rfl rfl ?_
    refine tz_iconst 1 (by decide) C dX9_count_104 ?_
    refine tz_iald_c 1 C dX9_count_105 (by decide) rfl (tz_inl rfl) rfl ?_
    exact hret _ _ _ _ dX9_count_106 h
  refine tz_swc 7 (102) 107 C dX9_count_5 (by decide) (by decide) rfl (by decide) h (fun h => ?_) (fun e7 h => ?_)
  · refine tz_aload_n 0 0 C dX9_count_107 rfl rfl ?_
    refine tz_getI C dX9_count_108 fl_RX9_76 (by decide) rfl rfl ?_
    exact hret _ _ _ _ dX9_count_111 h
  refine tz_swc 8 (107) 112 C dX9_count_5 (by decide) (by decide) rfl (by decide) h (fun h => ?_) (fun e8 h => ?_)
  · refine tz_aload_n 0 0 C dX9_count_112 rfl rfl ?_
    refine tz_getI C dX9_count_113 fl_RX9_80 (by decide) rfl rfl ?_
    exact hret _ _ _ _ dX9_count_116 h
  replace h := h e0 e1 e2 e3 e4 e5 e6 e7 e8
  refine tz_tabOut 117 C dX9_count_5 (tz_out8 e0 e1 e2 e3 e4 e5 e6 e7 e8) (by decide) ?_
  refine tz_bipush (-2) (by decide) C dX9_count_117 ?_
  exact hret _ _ _ _ dX9_count_119 h

def vc_X9_mixParting (x1 : Int64) (x3 : Int32) (σ : tzS) (Q : Int64 → tzS → Prop) : Prop :=
  vc_X9_best x3 σ (fun (r_2 : Int32) (σ_1 : tzS) =>
    ∀ x4_3 : Int64, x4_3 = ((31 * x1) + r_2.toInt64) →
    tz_loop2 (fun (x4_6 : Int64) (x6_7 : Int32) (σ_5 : tzS) (ag_4 : Int64 → Int32 → tzS → Prop) =>
      ((8 : Int32) ≤ x6_7 →
        vc_X9_drop x3 0 σ_5 (fun (r_10 : Int32) (σ_9 : tzS) =>
          ∀ x4_11 : Int64, x4_11 = ((31 * x4_6) + r_10.toInt64) →
          vc_X9_drop x3 1 σ_9 (fun (r_13 : Int32) (σ_12 : tzS) =>
            ∀ x4_14 : Int64, x4_14 = ((31 * x4_11) + r_13.toInt64) →
            vc_X9_apart x3 1 σ_12 (fun (r_16 : Int32) (σ_15 : tzS) =>
              ∀ x4_17 : Int64, x4_17 = ((31 * x4_14) + r_16.toInt64) →
              vc_X9_apart x3 3 σ_15 (fun (r_19 : Int32) (σ_18 : tzS) =>
                Q ((31 * x4_17) + r_19.toInt64) σ_18))))) ∧
      (¬ (8 : Int32) ≤ x6_7 →
        vc_X9_seam x3 x6_7 σ_5 (fun (r_21 : Int32) (σ_20 : tzS) =>
          ∀ x4_22 : Int64, x4_22 = ((31 * x4_6) + r_21.toInt64) →
          ∀ x6_23 : Int32, x6_23 = x6_7 + 1 →
          ag_4 x4_22 x6_23 σ_20))) x4_3 (0 : Int32) σ_1)
set_option maxRecDepth 20000 in
set_option maxHeartbeats 4000000 in
theorem m_X9_mixParting (G : tzG) (hG : tz_ok G) {x1 : Int64} {x3 : Int32}  {σ : tzS} {Q : Int64 → tzS → Prop} (h : vc_X9_mixParting x1 x3 σ Q) : tz_M G yX9_mixParting cX9_mixParting 7 (some .long) 5 126 [.ref 0, .long x1, .int x3] σ (tz_Ql G Q) := by
  unfold vc_X9_mixParting at h
  refine tz_startl hG RX9 [(0, .ref 0), (1, .long x1), (3, .int x3)] (by decide) rfl (Nat.le_of_ble_eq_true rfl) rfl (fun E C hret => ?_)
  refine tz_ldc2 31 C dX9_mixParting_0 cw_RX9_306 ?_
  refine tz_lload_n 1 1 C dX9_mixParting_3 rfl rfl ?_
  refine tz_lmul C dX9_mixParting_4 ?_
  refine tz_aload_n 0 0 C dX9_mixParting_5 rfl rfl ?_
  refine tz_iload_n 3 2 C dX9_mixParting_6 rfl rfl ?_
  refine tz_calliv C dX9_mixParting_7 lk_RX9_354 (m_X9_best G hG  h) (by decide) rfl rfl rfl rfl ⟨Nat.le_of_ble_eq_true rfl, Nat.le_of_ble_eq_true rfl⟩ (Nat.le_of_ble_eq_true rfl) rfl (fun r_2 σ_1 h => ?_)
  refine tz_i2l C dX9_mixParting_10 ?_
  refine tz_ladd C dX9_mixParting_11 ?_
  refine tz_lstore [(0, .ref 0), (1, .long x1), (3, .int x3)] C dX9_mixParting_12 (Nat.le_of_ble_eq_true rfl) rfl h (fun x4_3 h => ?_)
  refine tz_iconst 0 (by decide) C dX9_mixParting_14 ?_
  refine tz_istore_k [(4, .long x4_3), (0, .ref 0), (1, .long x1), (3, .int x3)] C dX9_mixParting_15 (Nat.le_of_ble_eq_true rfl) rfl ?_
  refine tz_sub (L := [(0, .ref 0), (3, .int x3), (4, .long x4_3), (6, .int 0)]) ?_ [2, 4, 1, 0] rfl
  refine tz_loop2_w (V := fun (x4_6 : Int64) (x6_7 : Int32) (σ_5 : tzS) => tz_V G E 17 [(0, .ref 0), (3, .int x3), (4, .long x4_6), (6, .int x6_7)] [] σ_5) h (fun ag_4 ihag_4 x4_6 x6_7 σ_5 h => ?_)
  refine tz_iload 3 C dX9_mixParting_17 rfl ?_
  refine tz_bipush 8 (by decide) C dX9_mixParting_19 ?_
  refine tz_icmp_ge 47 C dX9_mixParting_21 (by decide) h (fun c_8 h => ?_) (fun c_8 h => ?_)
  · refine tz_ldc2 31 C dX9_mixParting_47 cw_RX9_306 ?_
    refine tz_lload 2 C dX9_mixParting_50 rfl ?_
    refine tz_lmul C dX9_mixParting_52 ?_
    refine tz_aload_n 0 0 C dX9_mixParting_53 rfl rfl ?_
    refine tz_iload_n 3 1 C dX9_mixParting_54 rfl rfl ?_
    refine tz_iconst 0 (by decide) C dX9_mixParting_55 ?_
    refine tz_calliv C dX9_mixParting_56 lk_RX9_360 (m_X9_drop G hG  h) (by decide) rfl rfl rfl rfl ⟨Nat.le_of_ble_eq_true rfl, Nat.le_of_ble_eq_true rfl⟩ (Nat.le_of_ble_eq_true rfl) rfl (fun r_10 σ_9 h => ?_)
    refine tz_i2l C dX9_mixParting_59 ?_
    refine tz_ladd C dX9_mixParting_60 ?_
    refine tz_lstore [(0, .ref 0), (3, .int x3), (6, .int x6_7)] C dX9_mixParting_61 (Nat.le_of_ble_eq_true rfl) rfl h (fun x4_11 h => ?_)
    refine tz_ldc2 31 C dX9_mixParting_63 cw_RX9_306 ?_
    refine tz_lload 0 C dX9_mixParting_66 rfl ?_
    refine tz_lmul C dX9_mixParting_68 ?_
    refine tz_aload_n 0 1 C dX9_mixParting_69 rfl rfl ?_
    refine tz_iload_n 3 2 C dX9_mixParting_70 rfl rfl ?_
    refine tz_iconst 1 (by decide) C dX9_mixParting_71 ?_
    refine tz_calliv C dX9_mixParting_72 lk_RX9_360 (m_X9_drop G hG  h) (by decide) rfl rfl rfl rfl ⟨Nat.le_of_ble_eq_true rfl, Nat.le_of_ble_eq_true rfl⟩ (Nat.le_of_ble_eq_true rfl) rfl (fun r_13 σ_12 h => ?_)
    refine tz_i2l C dX9_mixParting_75 ?_
    refine tz_ladd C dX9_mixParting_76 ?_
    refine tz_lstore [(0, .ref 0), (3, .int x3), (6, .int x6_7)] C dX9_mixParting_77 (Nat.le_of_ble_eq_true rfl) rfl h (fun x4_14 h => ?_)
    refine tz_ldc2 31 C dX9_mixParting_79 cw_RX9_306 ?_
    refine tz_lload 0 C dX9_mixParting_82 rfl ?_
    refine tz_lmul C dX9_mixParting_84 ?_
    refine tz_aload_n 0 1 C dX9_mixParting_85 rfl rfl ?_
    refine tz_iload_n 3 2 C dX9_mixParting_86 rfl rfl ?_
    refine tz_iconst 1 (by decide) C dX9_mixParting_87 ?_
    refine tz_calliv C dX9_mixParting_88 lk_RX9_363 (m_X9_apart G hG  h) (by decide) rfl rfl rfl rfl ⟨Nat.le_of_ble_eq_true rfl, Nat.le_of_ble_eq_true rfl⟩ (Nat.le_of_ble_eq_true rfl) rfl (fun r_16 σ_15 h => ?_)
    refine tz_i2l C dX9_mixParting_91 ?_
    refine tz_ladd C dX9_mixParting_92 ?_
    refine tz_lstore [(0, .ref 0), (3, .int x3), (6, .int x6_7)] C dX9_mixParting_93 (Nat.le_of_ble_eq_true rfl) rfl h (fun x4_17 h => ?_)
    refine tz_ldc2 31 C dX9_mixParting_95 cw_RX9_306 ?_
    refine tz_lload 0 C dX9_mixParting_98 rfl ?_
    refine tz_lmul C dX9_mixParting_100 ?_
    refine tz_aload_n 0 1 C dX9_mixParting_101 rfl rfl ?_
    refine tz_iload_n 3 2 C dX9_mixParting_102 rfl rfl ?_
    refine tz_iconst 3 (by decide) C dX9_mixParting_103 ?_
    refine tz_calliv C dX9_mixParting_104 lk_RX9_363 (m_X9_apart G hG  h) (by decide) rfl rfl rfl rfl ⟨Nat.le_of_ble_eq_true rfl, Nat.le_of_ble_eq_true rfl⟩ (Nat.le_of_ble_eq_true rfl) rfl (fun r_19 σ_18 h => ?_)
    refine tz_i2l C dX9_mixParting_107 ?_
    refine tz_ladd C dX9_mixParting_108 ?_
    exact hret _ _ _ _ dX9_mixParting_109 h
  · refine tz_ldc2 31 C dX9_mixParting_24 cw_RX9_306 ?_
    refine tz_lload 2 C dX9_mixParting_27 rfl ?_
    refine tz_lmul C dX9_mixParting_29 ?_
    refine tz_aload_n 0 0 C dX9_mixParting_30 rfl rfl ?_
    refine tz_iload_n 3 1 C dX9_mixParting_31 rfl rfl ?_
    refine tz_iload 3 C dX9_mixParting_32 rfl ?_
    refine tz_calliv C dX9_mixParting_34 lk_RX9_357 (m_X9_seam G hG  h) (by decide) rfl rfl rfl rfl ⟨Nat.le_of_ble_eq_true rfl, Nat.le_of_ble_eq_true rfl⟩ (Nat.le_of_ble_eq_true rfl) rfl (fun r_21 σ_20 h => ?_)
    refine tz_i2l C dX9_mixParting_37 ?_
    refine tz_ladd C dX9_mixParting_38 ?_
    refine tz_lstore [(0, .ref 0), (3, .int x3), (6, .int x6_7)] C dX9_mixParting_39 (Nat.le_of_ble_eq_true rfl) rfl h (fun x4_22 h => ?_)
    refine tz_iinc 3 [(4, .long x4_22), (0, .ref 0), (3, .int x3)] 1 C dX9_mixParting_41 (by decide) rfl (Nat.le_of_ble_eq_true rfl) rfl h (fun x6_23 h => ?_)
    refine tz_goto 17 C dX9_mixParting_44 (by decide) ?_
    exact tz_sub (ihag_4 _ _ _ h) [2, 3, 1, 0] rfl

def vc_X9_mixStem (x1 : Int64) (x3 : Int32) (σ : tzS) (Q : Int64 → tzS → Prop) : Prop :=
  tz_loop2 (fun (x4_3 : Int64) (x6_4 : Int32) (σ_2 : tzS) (ag_1 : Int64 → Int32 → tzS → Prop) =>
    ((3 : Int32) < x6_4 →
      vc_X9_letter x3 0 σ_2 (fun (r_7 : Int32) (σ_6 : tzS) =>
        ∀ x4_8 : Int64, x4_8 = ((31 * x4_3) + r_7.toInt64) →
        vc_X9_letter x3 3 σ_6 (fun (r_10 : Int32) (σ_9 : tzS) =>
          Q ((31 * x4_8) + r_10.toInt64) σ_9))) ∧
    (¬ (3 : Int32) < x6_4 →
      vc_X9_stem x3 x6_4 σ_2 (fun (r_12 : Int32) (σ_11 : tzS) =>
        ∀ x4_13 : Int64, x4_13 = ((31 * x4_3) + r_12.toInt64) →
        ∀ x6_14 : Int32, x6_14 = x6_4 + 1 →
        ag_1 x4_13 x6_14 σ_11))) x1 (0 : Int32) σ
set_option maxRecDepth 20000 in
set_option maxHeartbeats 4000000 in
theorem m_X9_mixStem (G : tzG) (hG : tz_ok G) {x1 : Int64} {x3 : Int32}  {σ : tzS} {Q : Int64 → tzS → Prop} (h : vc_X9_mixStem x1 x3 σ Q) : tz_M G yX9_mixStem cX9_mixStem 7 (some .long) 5 121 [.ref 0, .long x1, .int x3] σ (tz_Ql G Q) := by
  unfold vc_X9_mixStem at h
  refine tz_startl hG RX9 [(0, .ref 0), (1, .long x1), (3, .int x3)] (by decide) rfl (Nat.le_of_ble_eq_true rfl) rfl (fun E C hret => ?_)
  refine tz_lload_n 1 1 C dX9_mixStem_0 rfl rfl ?_
  refine tz_lstore_k [(0, .ref 0), (1, .long x1), (3, .int x3)] C dX9_mixStem_1 (Nat.le_of_ble_eq_true rfl) rfl ?_
  refine tz_iconst 0 (by decide) C dX9_mixStem_3 ?_
  refine tz_istore_k [(4, .long x1), (0, .ref 0), (1, .long x1), (3, .int x3)] C dX9_mixStem_4 (Nat.le_of_ble_eq_true rfl) rfl ?_
  refine tz_sub (L := [(0, .ref 0), (3, .int x3), (4, .long x1), (6, .int 0)]) ?_ [2, 4, 1, 0] rfl
  refine tz_loop2_w (V := fun (x4_3 : Int64) (x6_4 : Int32) (σ_2 : tzS) => tz_V G E 6 [(0, .ref 0), (3, .int x3), (4, .long x4_3), (6, .int x6_4)] [] σ_2) h (fun ag_1 ihag_1 x4_3 x6_4 σ_2 h => ?_)
  refine tz_iload 3 C dX9_mixStem_6 rfl ?_
  refine tz_iconst 3 (by decide) C dX9_mixStem_8 ?_
  refine tz_icmp_gt 35 C dX9_mixStem_9 (by decide) h (fun c_5 h => ?_) (fun c_5 h => ?_)
  · refine tz_ldc2 31 C dX9_mixStem_35 cw_RX9_306 ?_
    refine tz_lload 2 C dX9_mixStem_38 rfl ?_
    refine tz_lmul C dX9_mixStem_40 ?_
    refine tz_aload_n 0 0 C dX9_mixStem_41 rfl rfl ?_
    refine tz_iload_n 3 1 C dX9_mixStem_42 rfl rfl ?_
    refine tz_iconst 0 (by decide) C dX9_mixStem_43 ?_
    refine tz_calliv C dX9_mixStem_44 lk_RX9_351 (m_X9_letter G hG  h) (by decide) rfl rfl rfl rfl ⟨Nat.le_of_ble_eq_true rfl, Nat.le_of_ble_eq_true rfl⟩ (Nat.le_of_ble_eq_true rfl) rfl (fun r_7 σ_6 h => ?_)
    refine tz_i2l C dX9_mixStem_47 ?_
    refine tz_ladd C dX9_mixStem_48 ?_
    refine tz_lstore [(0, .ref 0), (3, .int x3), (6, .int x6_4)] C dX9_mixStem_49 (Nat.le_of_ble_eq_true rfl) rfl h (fun x4_8 h => ?_)
    refine tz_ldc2 31 C dX9_mixStem_51 cw_RX9_306 ?_
    refine tz_lload 0 C dX9_mixStem_54 rfl ?_
    refine tz_lmul C dX9_mixStem_56 ?_
    refine tz_aload_n 0 1 C dX9_mixStem_57 rfl rfl ?_
    refine tz_iload_n 3 2 C dX9_mixStem_58 rfl rfl ?_
    refine tz_iconst 3 (by decide) C dX9_mixStem_59 ?_
    refine tz_calliv C dX9_mixStem_60 lk_RX9_351 (m_X9_letter G hG  h) (by decide) rfl rfl rfl rfl ⟨Nat.le_of_ble_eq_true rfl, Nat.le_of_ble_eq_true rfl⟩ (Nat.le_of_ble_eq_true rfl) rfl (fun r_10 σ_9 h => ?_)
    refine tz_i2l C dX9_mixStem_63 ?_
    refine tz_ladd C dX9_mixStem_64 ?_
    exact hret _ _ _ _ dX9_mixStem_65 h
  · refine tz_ldc2 31 C dX9_mixStem_12 cw_RX9_306 ?_
    refine tz_lload 2 C dX9_mixStem_15 rfl ?_
    refine tz_lmul C dX9_mixStem_17 ?_
    refine tz_aload_n 0 0 C dX9_mixStem_18 rfl rfl ?_
    refine tz_iload_n 3 1 C dX9_mixStem_19 rfl rfl ?_
    refine tz_iload 3 C dX9_mixStem_20 rfl ?_
    refine tz_calliv C dX9_mixStem_22 lk_RX9_348 (m_X9_stem G hG  h) (by decide) rfl rfl rfl rfl ⟨Nat.le_of_ble_eq_true rfl, Nat.le_of_ble_eq_true rfl⟩ (Nat.le_of_ble_eq_true rfl) rfl (fun r_12 σ_11 h => ?_)
    refine tz_i2l C dX9_mixStem_25 ?_
    refine tz_ladd C dX9_mixStem_26 ?_
    refine tz_lstore [(0, .ref 0), (3, .int x3), (6, .int x6_4)] C dX9_mixStem_27 (Nat.le_of_ble_eq_true rfl) rfl h (fun x4_13 h => ?_)
    refine tz_iinc 3 [(4, .long x4_13), (0, .ref 0), (3, .int x3)] 1 C dX9_mixStem_29 (by decide) rfl (Nat.le_of_ble_eq_true rfl) rfl h (fun x6_14 h => ?_)
    refine tz_goto 6 C dX9_mixStem_32 (by decide) ?_
    exact tz_sub (ihag_1 _ _ _ h) [2, 3, 1, 0] rfl

def vc_X9_mixSentence (x1 : Int64) (x3 : Int32) (σ : tzS) (Q : Int64 → tzS → Prop) : Prop :=
  tz_loop2 (fun (x4_3 : Int64) (x6_4 : Int32) (σ_2 : tzS) (ag_1 : Int64 → Int32 → tzS → Prop) =>
    ((3 : Int32) < x6_4 →
      vc_X9_word x3 0 σ_2 (fun (r_7 : Int32) (σ_6 : tzS) =>
        ∀ x4_8 : Int64, x4_8 = ((31 * x4_3) + r_7.toInt64) →
        vc_X9_word x3 2 σ_6 (fun (r_10 : Int32) (σ_9 : tzS) =>
          ∀ x4_11 : Int64, x4_11 = ((31 * x4_8) + r_10.toInt64) →
          vc_X9_gap x3 0 σ_9 (fun (r_13 : Int32) (σ_12 : tzS) =>
            ∀ x4_14 : Int64, x4_14 = ((31 * x4_11) + r_13.toInt64) →
            vc_X9_gap x3 1 σ_12 (fun (r_16 : Int32) (σ_15 : tzS) =>
              ∀ x4_17 : Int64, x4_17 = ((31 * x4_14) + r_16.toInt64) →
              vc_X9_over x3 0 σ_15 (fun (r_19 : Int32) (σ_18 : tzS) =>
                ∀ x4_20 : Int64, x4_20 = ((31 * x4_17) + r_19.toInt64) →
                vc_X9_over x3 1 σ_18 (fun (r_22 : Int32) (σ_21 : tzS) =>
                  ∀ x4_23 : Int64, x4_23 = ((31 * x4_20) + r_22.toInt64) →
                  vc_X9_deep x3 σ_21 (fun (r_25 : Int32) (σ_24 : tzS) =>
                    Q ((31 * x4_23) + r_25.toInt64) σ_24)))))))) ∧
    (¬ (3 : Int32) < x6_4 →
      vc_X9_sentence x3 x6_4 σ_2 (fun (r_27 : Int32) (σ_26 : tzS) =>
        ∀ x4_28 : Int64, x4_28 = ((31 * x4_3) + r_27.toInt64) →
        ∀ x6_29 : Int32, x6_29 = x6_4 + 1 →
        ag_1 x4_28 x6_29 σ_26))) x1 (0 : Int32) σ
set_option maxRecDepth 20000 in
set_option maxHeartbeats 4000000 in
theorem m_X9_mixSentence (G : tzG) (hG : tz_ok G) {x1 : Int64} {x3 : Int32}  {σ : tzS} {Q : Int64 → tzS → Prop} (h : vc_X9_mixSentence x1 x3 σ Q) : tz_M G yX9_mixSentence cX9_mixSentence 7 (some .long) 5 121 [.ref 0, .long x1, .int x3] σ (tz_Ql G Q) := by
  unfold vc_X9_mixSentence at h
  refine tz_startl hG RX9 [(0, .ref 0), (1, .long x1), (3, .int x3)] (by decide) rfl (Nat.le_of_ble_eq_true rfl) rfl (fun E C hret => ?_)
  refine tz_lload_n 1 1 C dX9_mixSentence_0 rfl rfl ?_
  refine tz_lstore_k [(0, .ref 0), (1, .long x1), (3, .int x3)] C dX9_mixSentence_1 (Nat.le_of_ble_eq_true rfl) rfl ?_
  refine tz_iconst 0 (by decide) C dX9_mixSentence_3 ?_
  refine tz_istore_k [(4, .long x1), (0, .ref 0), (1, .long x1), (3, .int x3)] C dX9_mixSentence_4 (Nat.le_of_ble_eq_true rfl) rfl ?_
  refine tz_sub (L := [(0, .ref 0), (3, .int x3), (4, .long x1), (6, .int 0)]) ?_ [2, 4, 1, 0] rfl
  refine tz_loop2_w (V := fun (x4_3 : Int64) (x6_4 : Int32) (σ_2 : tzS) => tz_V G E 6 [(0, .ref 0), (3, .int x3), (4, .long x4_3), (6, .int x6_4)] [] σ_2) h (fun ag_1 ihag_1 x4_3 x6_4 σ_2 h => ?_)
  refine tz_iload 3 C dX9_mixSentence_6 rfl ?_
  refine tz_iconst 3 (by decide) C dX9_mixSentence_8 ?_
  refine tz_icmp_gt 35 C dX9_mixSentence_9 (by decide) h (fun c_5 h => ?_) (fun c_5 h => ?_)
  · refine tz_ldc2 31 C dX9_mixSentence_35 cw_RX9_306 ?_
    refine tz_lload 2 C dX9_mixSentence_38 rfl ?_
    refine tz_lmul C dX9_mixSentence_40 ?_
    refine tz_aload_n 0 0 C dX9_mixSentence_41 rfl rfl ?_
    refine tz_iload_n 3 1 C dX9_mixSentence_42 rfl rfl ?_
    refine tz_iconst 0 (by decide) C dX9_mixSentence_43 ?_
    refine tz_calliv C dX9_mixSentence_44 lk_RX9_336 (m_X9_word G hG  h) (by decide) rfl rfl rfl rfl ⟨Nat.le_of_ble_eq_true rfl, Nat.le_of_ble_eq_true rfl⟩ (Nat.le_of_ble_eq_true rfl) rfl (fun r_7 σ_6 h => ?_)
    refine tz_i2l C dX9_mixSentence_47 ?_
    refine tz_ladd C dX9_mixSentence_48 ?_
    refine tz_lstore [(0, .ref 0), (3, .int x3), (6, .int x6_4)] C dX9_mixSentence_49 (Nat.le_of_ble_eq_true rfl) rfl h (fun x4_8 h => ?_)
    refine tz_ldc2 31 C dX9_mixSentence_51 cw_RX9_306 ?_
    refine tz_lload 0 C dX9_mixSentence_54 rfl ?_
    refine tz_lmul C dX9_mixSentence_56 ?_
    refine tz_aload_n 0 1 C dX9_mixSentence_57 rfl rfl ?_
    refine tz_iload_n 3 2 C dX9_mixSentence_58 rfl rfl ?_
    refine tz_iconst 2 (by decide) C dX9_mixSentence_59 ?_
    refine tz_calliv C dX9_mixSentence_60 lk_RX9_336 (m_X9_word G hG  h) (by decide) rfl rfl rfl rfl ⟨Nat.le_of_ble_eq_true rfl, Nat.le_of_ble_eq_true rfl⟩ (Nat.le_of_ble_eq_true rfl) rfl (fun r_10 σ_9 h => ?_)
    refine tz_i2l C dX9_mixSentence_63 ?_
    refine tz_ladd C dX9_mixSentence_64 ?_
    refine tz_lstore [(0, .ref 0), (3, .int x3), (6, .int x6_4)] C dX9_mixSentence_65 (Nat.le_of_ble_eq_true rfl) rfl h (fun x4_11 h => ?_)
    refine tz_ldc2 31 C dX9_mixSentence_67 cw_RX9_306 ?_
    refine tz_lload 0 C dX9_mixSentence_70 rfl ?_
    refine tz_lmul C dX9_mixSentence_72 ?_
    refine tz_aload_n 0 1 C dX9_mixSentence_73 rfl rfl ?_
    refine tz_iload_n 3 2 C dX9_mixSentence_74 rfl rfl ?_
    refine tz_iconst 0 (by decide) C dX9_mixSentence_75 ?_
    refine tz_calliv C dX9_mixSentence_76 lk_RX9_339 (m_X9_gap G hG  h) (by decide) rfl rfl rfl rfl ⟨Nat.le_of_ble_eq_true rfl, Nat.le_of_ble_eq_true rfl⟩ (Nat.le_of_ble_eq_true rfl) rfl (fun r_13 σ_12 h => ?_)
    refine tz_i2l C dX9_mixSentence_79 ?_
    refine tz_ladd C dX9_mixSentence_80 ?_
    refine tz_lstore [(0, .ref 0), (3, .int x3), (6, .int x6_4)] C dX9_mixSentence_81 (Nat.le_of_ble_eq_true rfl) rfl h (fun x4_14 h => ?_)
    refine tz_ldc2 31 C dX9_mixSentence_83 cw_RX9_306 ?_
    refine tz_lload 0 C dX9_mixSentence_86 rfl ?_
    refine tz_lmul C dX9_mixSentence_88 ?_
    refine tz_aload_n 0 1 C dX9_mixSentence_89 rfl rfl ?_
    refine tz_iload_n 3 2 C dX9_mixSentence_90 rfl rfl ?_
    refine tz_iconst 1 (by decide) C dX9_mixSentence_91 ?_
    refine tz_calliv C dX9_mixSentence_92 lk_RX9_339 (m_X9_gap G hG  h) (by decide) rfl rfl rfl rfl ⟨Nat.le_of_ble_eq_true rfl, Nat.le_of_ble_eq_true rfl⟩ (Nat.le_of_ble_eq_true rfl) rfl (fun r_16 σ_15 h => ?_)
    refine tz_i2l C dX9_mixSentence_95 ?_
    refine tz_ladd C dX9_mixSentence_96 ?_
    refine tz_lstore [(0, .ref 0), (3, .int x3), (6, .int x6_4)] C dX9_mixSentence_97 (Nat.le_of_ble_eq_true rfl) rfl h (fun x4_17 h => ?_)
    refine tz_ldc2 31 C dX9_mixSentence_99 cw_RX9_306 ?_
    refine tz_lload 0 C dX9_mixSentence_102 rfl ?_
    refine tz_lmul C dX9_mixSentence_104 ?_
    refine tz_aload_n 0 1 C dX9_mixSentence_105 rfl rfl ?_
    refine tz_iload_n 3 2 C dX9_mixSentence_106 rfl rfl ?_
    refine tz_iconst 0 (by decide) C dX9_mixSentence_107 ?_
    refine tz_calliv C dX9_mixSentence_108 lk_RX9_342 (m_X9_over G hG  h) (by decide) rfl rfl rfl rfl ⟨Nat.le_of_ble_eq_true rfl, Nat.le_of_ble_eq_true rfl⟩ (Nat.le_of_ble_eq_true rfl) rfl (fun r_19 σ_18 h => ?_)
    refine tz_i2l C dX9_mixSentence_111 ?_
    refine tz_ladd C dX9_mixSentence_112 ?_
    refine tz_lstore [(0, .ref 0), (3, .int x3), (6, .int x6_4)] C dX9_mixSentence_113 (Nat.le_of_ble_eq_true rfl) rfl h (fun x4_20 h => ?_)
    refine tz_ldc2 31 C dX9_mixSentence_115 cw_RX9_306 ?_
    refine tz_lload 0 C dX9_mixSentence_118 rfl ?_
    refine tz_lmul C dX9_mixSentence_120 ?_
    refine tz_aload_n 0 1 C dX9_mixSentence_121 rfl rfl ?_
    refine tz_iload_n 3 2 C dX9_mixSentence_122 rfl rfl ?_
    refine tz_iconst 1 (by decide) C dX9_mixSentence_123 ?_
    refine tz_calliv C dX9_mixSentence_124 lk_RX9_342 (m_X9_over G hG  h) (by decide) rfl rfl rfl rfl ⟨Nat.le_of_ble_eq_true rfl, Nat.le_of_ble_eq_true rfl⟩ (Nat.le_of_ble_eq_true rfl) rfl (fun r_22 σ_21 h => ?_)
    refine tz_i2l C dX9_mixSentence_127 ?_
    refine tz_ladd C dX9_mixSentence_128 ?_
    refine tz_lstore [(0, .ref 0), (3, .int x3), (6, .int x6_4)] C dX9_mixSentence_129 (Nat.le_of_ble_eq_true rfl) rfl h (fun x4_23 h => ?_)
    refine tz_ldc2 31 C dX9_mixSentence_131 cw_RX9_306 ?_
    refine tz_lload 0 C dX9_mixSentence_134 rfl ?_
    refine tz_lmul C dX9_mixSentence_136 ?_
    refine tz_aload_n 0 1 C dX9_mixSentence_137 rfl rfl ?_
    refine tz_iload_n 3 2 C dX9_mixSentence_138 rfl rfl ?_
    refine tz_calliv C dX9_mixSentence_139 lk_RX9_345 (m_X9_deep G hG  h) (by decide) rfl rfl rfl rfl ⟨Nat.le_of_ble_eq_true rfl, Nat.le_of_ble_eq_true rfl⟩ (Nat.le_of_ble_eq_true rfl) rfl (fun r_25 σ_24 h => ?_)
    refine tz_i2l C dX9_mixSentence_142 ?_
    refine tz_ladd C dX9_mixSentence_143 ?_
    exact hret _ _ _ _ dX9_mixSentence_144 h
  · refine tz_ldc2 31 C dX9_mixSentence_12 cw_RX9_306 ?_
    refine tz_lload 2 C dX9_mixSentence_15 rfl ?_
    refine tz_lmul C dX9_mixSentence_17 ?_
    refine tz_aload_n 0 0 C dX9_mixSentence_18 rfl rfl ?_
    refine tz_iload_n 3 1 C dX9_mixSentence_19 rfl rfl ?_
    refine tz_iload 3 C dX9_mixSentence_20 rfl ?_
    refine tz_calliv C dX9_mixSentence_22 lk_RX9_333 (m_X9_sentence G hG  h) (by decide) rfl rfl rfl rfl ⟨Nat.le_of_ble_eq_true rfl, Nat.le_of_ble_eq_true rfl⟩ (Nat.le_of_ble_eq_true rfl) rfl (fun r_27 σ_26 h => ?_)
    refine tz_i2l C dX9_mixSentence_25 ?_
    refine tz_ladd C dX9_mixSentence_26 ?_
    refine tz_lstore [(0, .ref 0), (3, .int x3), (6, .int x6_4)] C dX9_mixSentence_27 (Nat.le_of_ble_eq_true rfl) rfl h (fun x4_28 h => ?_)
    refine tz_iinc 3 [(4, .long x4_28), (0, .ref 0), (3, .int x3)] 1 C dX9_mixSentence_29 (by decide) rfl (Nat.le_of_ble_eq_true rfl) rfl h (fun x6_29 h => ?_)
    refine tz_goto 6 C dX9_mixSentence_32 (by decide) ?_
    exact tz_sub (ihag_1 _ _ _ h) [2, 3, 1, 0] rfl

def vc_X9_digest  (σ : tzS) (Q : Int64 → tzS → Prop) : Prop :=
  tz_loop2 (fun (x1_3 : Int64) (x3_4 : Int32) (σ_2 : tzS) (ag_1 : Int64 → Int32 → tzS → Prop) =>
    ((7 : Int32) < x3_4 →
      tz_loop2 (fun (x1_8 : Int64) (x3_9 : Int32) (σ_7 : tzS) (ag_6 : Int64 → Int32 → tzS → Prop) =>
        ((2 : Int32) < x3_9 →
          tz_loop2 (fun (x1_13 : Int64) (x3_14 : Int32) (σ_12 : tzS) (ag_11 : Int64 → Int32 → tzS → Prop) =>
            ((12 : Int32) ≤ x3_14 →
              tz_loop2 (fun (x1_18 : Int64) (x3_19 : Int32) (σ_17 : tzS) (ag_16 : Int64 → Int32 → tzS → Prop) =>
                ((σ_17.1 4 2) ≤ x3_19 →
                  tz_loop2 (fun (x1_23 : Int64) (x3_24 : Int32) (σ_22 : tzS) (ag_21 : Int64 → Int32 → tzS → Prop) =>
                    ((9 : Int32) < x3_24 →
                      tz_loop2 (fun (x1_28 : Int64) (x3_29 : Int32) (σ_27 : tzS) (ag_26 : Int64 → Int32 → tzS → Prop) =>
                        ((σ_27.1 4 0) ≤ x3_29 →
                          tz_loop2 (fun (x1_33 : Int64) (x3_34 : Int32) (σ_32 : tzS) (ag_31 : Int64 → Int32 → tzS → Prop) =>
                            ((8 : Int32) < x3_34 →
                              vc_X9_bent  σ_32 (fun (r_37 : Int32) (σ_36 : tzS) =>
                                Q ((31 * x1_33) + r_37.toInt64) σ_36)) ∧
                            (¬ (8 : Int32) < x3_34 →
                              vc_X9_mixParting x1_33 x3_34 σ_32 (fun (r_39 : Int64) (σ_38 : tzS) =>
                                ∀ x3_40 : Int32, x3_40 = x3_34 + 1 →
                                ag_31 r_39 x3_40 σ_38))) x1_28 (1 : Int32) σ_27) ∧
                        (¬ (σ_27.1 4 0) ≤ x3_29 →
                          vc_X9_cost 0 x3_29 σ_27 (fun (r_42 : Int32) (σ_41 : tzS) =>
                            ∀ x1_43 : Int64, x1_43 = ((31 * x1_28) + r_42.toInt64) →
                            vc_X9_cost x3_29 (σ_41.1 4 0) σ_41 (fun (r_45 : Int32) (σ_44 : tzS) =>
                              ∀ x1_46 : Int64, x1_46 = ((31 * x1_43) + r_45.toInt64) →
                              ∀ x3_47 : Int32, x3_47 = x3_29 + 1 →
                              ag_26 x1_46 x3_47 σ_44)))) x1_23 (0 : Int32) σ_22) ∧
                    (¬ (9 : Int32) < x3_24 →
                      tz_loop2 (fun (x1_50 : Int64) (x4_51 : Int32) (σ_49 : tzS) (ag_48 : Int64 → Int32 → tzS → Prop) =>
                        ((4 : Int32) < x4_51 →
                          ∀ x3_53 : Int32, x3_53 = x3_24 + 1 →
                          ag_21 x1_50 x3_53 σ_49) ∧
                        (¬ (4 : Int32) < x4_51 →
                          vc_X9_chain x3_24 x4_51 σ_49 (fun (r_55 : Int32) (σ_54 : tzS) =>
                            ∀ x1_56 : Int64, x1_56 = ((31 * x1_50) + r_55.toInt64) →
                            ∀ x4_57 : Int32, x4_57 = x4_51 + 1 →
                            ag_48 x1_56 x4_57 σ_54))) x1_23 (0 : Int32) σ_22)) x1_18 (0 : Int32) σ_17) ∧
                (¬ (σ_17.1 4 2) ≤ x3_19 →
                  vc_X9_mixStem x1_18 x3_19 σ_17 (fun (r_59 : Int64) (σ_58 : tzS) =>
                    ∀ x3_60 : Int32, x3_60 = x3_19 + 1 →
                    ag_16 r_59 x3_60 σ_58))) x1_13 (0 : Int32) σ_12) ∧
            (¬ (12 : Int32) ≤ x3_14 →
              vc_X9_mixSentence x1_13 x3_14 σ_12 (fun (r_62 : Int64) (σ_61 : tzS) =>
                ∀ x3_63 : Int32, x3_63 = x3_14 + 1 →
                ag_11 r_62 x3_63 σ_61))) x1_8 (0 : Int32) σ_7) ∧
        (¬ (2 : Int32) < x3_9 →
          vc_X9_fault x3_9 σ_7 (fun (r_65 : Int32) (σ_64 : tzS) =>
            ∀ x1_66 : Int64, x1_66 = ((31 * x1_8) + r_65.toInt64) →
            ∀ x3_67 : Int32, x3_67 = x3_9 + 1 →
            ag_6 x1_66 x3_67 σ_64))) x1_3 (0 : Int32) σ_2) ∧
    (¬ (7 : Int32) < x3_4 →
      vc_X9_count x3_4 σ_2 (fun (r_69 : Int32) (σ_68 : tzS) =>
        ∀ x1_70 : Int64, x1_70 = ((31 * x1_3) + r_69.toInt64) →
        ∀ x3_71 : Int32, x3_71 = x3_4 + 1 →
        ag_1 x1_70 x3_71 σ_68))) 17 (0 : Int32) σ
set_option maxRecDepth 20000 in
set_option maxHeartbeats 4000000 in
theorem m_X9_digest (G : tzG) (hG : tz_ok G)   {σ : tzS} {Q : Int64 → tzS → Prop} (h : vc_X9_digest  σ Q) : tz_M G yX9_digest cX9_digest 5 (some .long) 6 152 [.ref 0] σ (tz_Ql G Q) := by
  unfold vc_X9_digest at h
  refine tz_startl hG RX9 [(0, .ref 0)] (by decide) rfl (Nat.le_of_ble_eq_true rfl) rfl (fun E C hret => ?_)
  refine tz_ldc2 17 C dX9_digest_0 cw_RX9_304 ?_
  refine tz_lstore_n_k 1 [(0, .ref 0)] C dX9_digest_3 rfl (Nat.le_of_ble_eq_true rfl) rfl ?_
  refine tz_iconst 0 (by decide) C dX9_digest_4 ?_
  refine tz_istore_n_k 3 [(1, .long 17), (0, .ref 0)] C dX9_digest_5 rfl (Nat.le_of_ble_eq_true rfl) rfl ?_
  refine tz_sub (L := [(0, .ref 0), (1, .long 17), (3, .int 0)]) ?_ [2, 1, 0] rfl
  refine tz_loop2_w (V := fun (x1_3 : Int64) (x3_4 : Int32) (σ_2 : tzS) => tz_V G E 6 [(0, .ref 0), (1, .long x1_3), (3, .int x3_4)] [] σ_2) h (fun ag_1 ihag_1 x1_3 x3_4 σ_2 h => ?_)
  refine tz_iload_n 3 2 C dX9_digest_6 rfl rfl ?_
  refine tz_bipush 7 (by decide) C dX9_digest_7 ?_
  refine tz_icmp_gt 31 C dX9_digest_9 (by decide) h (fun c_5 h => ?_) (fun c_5 h => ?_)
  · refine tz_iconst 0 (by decide) C dX9_digest_31 ?_
    refine tz_istore_n_k 3 [(0, .ref 0), (1, .long x1_3)] C dX9_digest_32 rfl (Nat.le_of_ble_eq_true rfl) rfl ?_
    refine tz_sub (L := [(0, .ref 0), (1, .long x1_3), (3, .int 0)]) ?_ [1, 2, 0] rfl
    refine tz_loop2_w (V := fun (x1_8 : Int64) (x3_9 : Int32) (σ_7 : tzS) => tz_V G E 33 [(0, .ref 0), (1, .long x1_8), (3, .int x3_9)] [] σ_7) h (fun ag_6 ihag_6 x1_8 x3_9 σ_7 h => ?_)
    refine tz_iload_n 3 2 C dX9_digest_33 rfl rfl ?_
    refine tz_iconst 2 (by decide) C dX9_digest_34 ?_
    refine tz_icmp_gt 57 C dX9_digest_35 (by decide) h (fun c_10 h => ?_) (fun c_10 h => ?_)
    · refine tz_iconst 0 (by decide) C dX9_digest_57 ?_
      refine tz_istore_n_k 3 [(0, .ref 0), (1, .long x1_8)] C dX9_digest_58 rfl (Nat.le_of_ble_eq_true rfl) rfl ?_
      refine tz_sub (L := [(0, .ref 0), (1, .long x1_8), (3, .int 0)]) ?_ [1, 2, 0] rfl
      refine tz_loop2_w (V := fun (x1_13 : Int64) (x3_14 : Int32) (σ_12 : tzS) => tz_V G E 59 [(0, .ref 0), (1, .long x1_13), (3, .int x3_14)] [] σ_12) h (fun ag_11 ihag_11 x1_13 x3_14 σ_12 h => ?_)
      refine tz_iload_n 3 2 C dX9_digest_59 rfl rfl ?_
      refine tz_bipush 12 (by decide) C dX9_digest_60 ?_
      refine tz_icmp_ge 78 C dX9_digest_62 (by decide) h (fun c_15 h => ?_) (fun c_15 h => ?_)
      · refine tz_iconst 0 (by decide) C dX9_digest_78 ?_
        refine tz_istore_n_k 3 [(0, .ref 0), (1, .long x1_13)] C dX9_digest_79 rfl (Nat.le_of_ble_eq_true rfl) rfl ?_
        refine tz_sub (L := [(0, .ref 0), (1, .long x1_13), (3, .int 0)]) ?_ [1, 2, 0] rfl
        refine tz_loop2_w (V := fun (x1_18 : Int64) (x3_19 : Int32) (σ_17 : tzS) => tz_V G E 80 [(0, .ref 0), (1, .long x1_18), (3, .int x3_19)] [] σ_17) h (fun ag_16 ihag_16 x1_18 x3_19 σ_17 h => ?_)
        refine tz_iload_n 3 2 C dX9_digest_80 rfl rfl ?_
        refine tz_aload_n 0 0 C dX9_digest_81 rfl rfl ?_
        refine tz_getR C dX9_digest_82 fl_RX9_26 (by decide) rfl rfl ?_
        refine tz_getI C dX9_digest_85 fl_RX9_297 (by decide) rfl rfl ?_
        refine tz_icmp_ge 104 C dX9_digest_88 (by decide) h (fun c_20 h => ?_) (fun c_20 h => ?_)
        · refine tz_iconst 0 (by decide) C dX9_digest_104 ?_
          refine tz_istore_n_k 3 [(0, .ref 0), (1, .long x1_18)] C dX9_digest_105 rfl (Nat.le_of_ble_eq_true rfl) rfl ?_
          refine tz_sub (L := [(0, .ref 0), (1, .long x1_18), (3, .int 0)]) ?_ [1, 2, 0] rfl
          refine tz_loop2_w (V := fun (x1_23 : Int64) (x3_24 : Int32) (σ_22 : tzS) => tz_V G E 106 [(0, .ref 0), (1, .long x1_23), (3, .int x3_24)] [] σ_22) h (fun ag_21 ihag_21 x1_23 x3_24 σ_22 h => ?_)
          refine tz_iload_n 3 2 C dX9_digest_106 rfl rfl ?_
          refine tz_bipush 9 (by decide) C dX9_digest_107 ?_
          refine tz_icmp_gt 148 C dX9_digest_109 (by decide) h (fun c_25 h => ?_) (fun c_25 h => ?_)
          · refine tz_iconst 0 (by decide) C dX9_digest_148 ?_
            refine tz_istore_n_k 3 [(0, .ref 0), (1, .long x1_23)] C dX9_digest_149 rfl (Nat.le_of_ble_eq_true rfl) rfl ?_
            refine tz_sub (L := [(0, .ref 0), (1, .long x1_23), (3, .int 0)]) ?_ [1, 2, 0] rfl
            refine tz_loop2_w (V := fun (x1_28 : Int64) (x3_29 : Int32) (σ_27 : tzS) => tz_V G E 150 [(0, .ref 0), (1, .long x1_28), (3, .int x3_29)] [] σ_27) h (fun ag_26 ihag_26 x1_28 x3_29 σ_27 h => ?_)
            refine tz_iload_n 3 2 C dX9_digest_150 rfl rfl ?_
            refine tz_aload_n 0 0 C dX9_digest_151 rfl rfl ?_
            refine tz_getR C dX9_digest_152 fl_RX9_26 (by decide) rfl rfl ?_
            refine tz_getI C dX9_digest_155 fl_RX9_214 (by decide) rfl rfl ?_
            refine tz_icmp_ge 201 C dX9_digest_158 (by decide) h (fun c_30 h => ?_) (fun c_30 h => ?_)
            · refine tz_iconst 1 (by decide) C dX9_digest_201 ?_
              refine tz_istore_n_k 3 [(0, .ref 0), (1, .long x1_28)] C dX9_digest_202 rfl (Nat.le_of_ble_eq_true rfl) rfl ?_
              refine tz_sub (L := [(0, .ref 0), (1, .long x1_28), (3, .int 1)]) ?_ [1, 2, 0] rfl
              refine tz_loop2_w (V := fun (x1_33 : Int64) (x3_34 : Int32) (σ_32 : tzS) => tz_V G E 203 [(0, .ref 0), (1, .long x1_33), (3, .int x3_34)] [] σ_32) h (fun ag_31 ihag_31 x1_33 x3_34 σ_32 h => ?_)
              refine tz_iload_n 3 2 C dX9_digest_203 rfl rfl ?_
              refine tz_bipush 8 (by decide) C dX9_digest_204 ?_
              refine tz_icmp_gt 222 C dX9_digest_206 (by decide) h (fun c_35 h => ?_) (fun c_35 h => ?_)
              · refine tz_ldc2 31 C dX9_digest_222 cw_RX9_306 ?_
                refine tz_lload_n 1 1 C dX9_digest_225 rfl rfl ?_
                refine tz_lmul C dX9_digest_226 ?_
                refine tz_aload_n 0 0 C dX9_digest_227 rfl rfl ?_
                refine tz_calliv C dX9_digest_228 lk_RX9_330 (m_X9_bent G hG  h) (by decide) rfl rfl rfl rfl ⟨Nat.le_of_ble_eq_true rfl, Nat.le_of_ble_eq_true rfl⟩ (Nat.le_of_ble_eq_true rfl) rfl (fun r_37 σ_36 h => ?_)
                refine tz_i2l C dX9_digest_231 ?_
                refine tz_ladd C dX9_digest_232 ?_
                exact hret _ _ _ _ dX9_digest_233 h
              · refine tz_aload_n 0 0 C dX9_digest_209 rfl rfl ?_
                refine tz_lload_n 1 1 C dX9_digest_210 rfl rfl ?_
                refine tz_iload_n 3 2 C dX9_digest_211 rfl rfl ?_
                refine tz_calllv C dX9_digest_212 lk_RX9_327 (m_X9_mixParting G hG  h) (by decide) rfl rfl rfl rfl ⟨Nat.le_of_ble_eq_true rfl, Nat.le_of_ble_eq_true rfl⟩ (Nat.le_of_ble_eq_true rfl) rfl (fun r_39 σ_38 h => ?_)
                refine tz_lstore_n_k 1 [(0, .ref 0), (3, .int x3_34)] C dX9_digest_215 rfl (Nat.le_of_ble_eq_true rfl) rfl ?_
                refine tz_iinc 2 [(1, .long r_39), (0, .ref 0)] 1 C dX9_digest_216 (by decide) rfl (Nat.le_of_ble_eq_true rfl) rfl h (fun x3_40 h => ?_)
                refine tz_goto 203 C dX9_digest_219 (by decide) ?_
                exact tz_sub (ihag_31 _ _ _ h) [2, 1, 0] rfl
            · refine tz_ldc2 31 C dX9_digest_161 cw_RX9_306 ?_
              refine tz_lload_n 1 1 C dX9_digest_164 rfl rfl ?_
              refine tz_lmul C dX9_digest_165 ?_
              refine tz_aload_n 0 0 C dX9_digest_166 rfl rfl ?_
              refine tz_iconst 0 (by decide) C dX9_digest_167 ?_
              refine tz_iload_n 3 2 C dX9_digest_168 rfl rfl ?_
              refine tz_calliv C dX9_digest_169 lk_RX9_324 (m_X9_cost G hG  h) (by decide) rfl rfl rfl rfl ⟨Nat.le_of_ble_eq_true rfl, Nat.le_of_ble_eq_true rfl⟩ (Nat.le_of_ble_eq_true rfl) rfl (fun r_42 σ_41 h => ?_)
              refine tz_i2l C dX9_digest_172 ?_
              refine tz_ladd C dX9_digest_173 ?_
              refine tz_lstore_n 1 [(0, .ref 0), (3, .int x3_29)] C dX9_digest_174 rfl (Nat.le_of_ble_eq_true rfl) rfl h (fun x1_43 h => ?_)
              refine tz_ldc2 31 C dX9_digest_175 cw_RX9_306 ?_
              refine tz_lload_n 1 0 C dX9_digest_178 rfl rfl ?_
              refine tz_lmul C dX9_digest_179 ?_
              refine tz_aload_n 0 1 C dX9_digest_180 rfl rfl ?_
              refine tz_iload_n 3 2 C dX9_digest_181 rfl rfl ?_
              refine tz_aload_n 0 1 C dX9_digest_182 rfl rfl ?_
              refine tz_getR C dX9_digest_183 fl_RX9_26 (by decide) rfl rfl ?_
              refine tz_getI C dX9_digest_186 fl_RX9_214 (by decide) rfl rfl ?_
              refine tz_calliv C dX9_digest_189 lk_RX9_324 (m_X9_cost G hG  h) (by decide) rfl rfl rfl rfl ⟨Nat.le_of_ble_eq_true rfl, Nat.le_of_ble_eq_true rfl⟩ (Nat.le_of_ble_eq_true rfl) rfl (fun r_45 σ_44 h => ?_)
              refine tz_i2l C dX9_digest_192 ?_
              refine tz_ladd C dX9_digest_193 ?_
              refine tz_lstore_n 1 [(0, .ref 0), (3, .int x3_29)] C dX9_digest_194 rfl (Nat.le_of_ble_eq_true rfl) rfl h (fun x1_46 h => ?_)
              refine tz_iinc 2 [(1, .long x1_46), (0, .ref 0)] 1 C dX9_digest_195 (by decide) rfl (Nat.le_of_ble_eq_true rfl) rfl h (fun x3_47 h => ?_)
              refine tz_goto 150 C dX9_digest_198 (by decide) ?_
              exact tz_sub (ihag_26 _ _ _ h) [2, 1, 0] rfl
          · refine tz_iconst 0 (by decide) C dX9_digest_112 ?_
            refine tz_istore_k [(0, .ref 0), (1, .long x1_23), (3, .int x3_24)] C dX9_digest_113 (Nat.le_of_ble_eq_true rfl) rfl ?_
            refine tz_sub (L := [(0, .ref 0), (1, .long x1_23), (3, .int x3_24), (4, .int 0)]) ?_ [1, 2, 3, 0] rfl
            refine tz_loop2_w (V := fun (x1_50 : Int64) (x4_51 : Int32) (σ_49 : tzS) => tz_V G E 115 [(0, .ref 0), (1, .long x1_50), (3, .int x3_24), (4, .int x4_51)] [] σ_49) h (fun ag_48 ihag_48 x1_50 x4_51 σ_49 h => ?_)
            refine tz_iload 3 C dX9_digest_115 rfl ?_
            refine tz_iconst 4 (by decide) C dX9_digest_117 ?_
            refine tz_icmp_gt 142 C dX9_digest_118 (by decide) h (fun c_52 h => ?_) (fun c_52 h => ?_)
            · refine tz_iinc 2 [(0, .ref 0), (1, .long x1_50), (4, .int x4_51)] 1 C dX9_digest_142 (by decide) rfl (Nat.le_of_ble_eq_true rfl) rfl h (fun x3_53 h => ?_)
              refine tz_goto 106 C dX9_digest_145 (by decide) ?_
              exact tz_sub (ihag_21 _ _ _ h) [1, 2, 0] rfl
            · refine tz_ldc2 31 C dX9_digest_121 cw_RX9_306 ?_
              refine tz_lload_n 1 1 C dX9_digest_124 rfl rfl ?_
              refine tz_lmul C dX9_digest_125 ?_
              refine tz_aload_n 0 0 C dX9_digest_126 rfl rfl ?_
              refine tz_iload_n 3 2 C dX9_digest_127 rfl rfl ?_
              refine tz_iload 3 C dX9_digest_128 rfl ?_
              refine tz_calliv C dX9_digest_130 lk_RX9_321 (m_X9_chain G hG  h) (by decide) rfl rfl rfl rfl ⟨Nat.le_of_ble_eq_true rfl, Nat.le_of_ble_eq_true rfl⟩ (Nat.le_of_ble_eq_true rfl) rfl (fun r_55 σ_54 h => ?_)
              refine tz_i2l C dX9_digest_133 ?_
              refine tz_ladd C dX9_digest_134 ?_
              refine tz_lstore_n 1 [(0, .ref 0), (3, .int x3_24), (4, .int x4_51)] C dX9_digest_135 rfl (Nat.le_of_ble_eq_true rfl) rfl h (fun x1_56 h => ?_)
              refine tz_iinc 3 [(1, .long x1_56), (0, .ref 0), (3, .int x3_24)] 1 C dX9_digest_136 (by decide) rfl (Nat.le_of_ble_eq_true rfl) rfl h (fun x4_57 h => ?_)
              refine tz_goto 115 C dX9_digest_139 (by decide) ?_
              exact tz_sub (ihag_48 _ _ _ h) [2, 1, 3, 0] rfl
        · refine tz_aload_n 0 0 C dX9_digest_91 rfl rfl ?_
          refine tz_lload_n 1 1 C dX9_digest_92 rfl rfl ?_
          refine tz_iload_n 3 2 C dX9_digest_93 rfl rfl ?_
          refine tz_calllv C dX9_digest_94 lk_RX9_318 (m_X9_mixStem G hG  h) (by decide) rfl rfl rfl rfl ⟨Nat.le_of_ble_eq_true rfl, Nat.le_of_ble_eq_true rfl⟩ (Nat.le_of_ble_eq_true rfl) rfl (fun r_59 σ_58 h => ?_)
          refine tz_lstore_n_k 1 [(0, .ref 0), (3, .int x3_19)] C dX9_digest_97 rfl (Nat.le_of_ble_eq_true rfl) rfl ?_
          refine tz_iinc 2 [(1, .long r_59), (0, .ref 0)] 1 C dX9_digest_98 (by decide) rfl (Nat.le_of_ble_eq_true rfl) rfl h (fun x3_60 h => ?_)
          refine tz_goto 80 C dX9_digest_101 (by decide) ?_
          exact tz_sub (ihag_16 _ _ _ h) [2, 1, 0] rfl
      · refine tz_aload_n 0 0 C dX9_digest_65 rfl rfl ?_
        refine tz_lload_n 1 1 C dX9_digest_66 rfl rfl ?_
        refine tz_iload_n 3 2 C dX9_digest_67 rfl rfl ?_
        refine tz_calllv C dX9_digest_68 lk_RX9_314 (m_X9_mixSentence G hG  h) (by decide) rfl rfl rfl rfl ⟨Nat.le_of_ble_eq_true rfl, Nat.le_of_ble_eq_true rfl⟩ (Nat.le_of_ble_eq_true rfl) rfl (fun r_62 σ_61 h => ?_)
        refine tz_lstore_n_k 1 [(0, .ref 0), (3, .int x3_14)] C dX9_digest_71 rfl (Nat.le_of_ble_eq_true rfl) rfl ?_
        refine tz_iinc 2 [(1, .long r_62), (0, .ref 0)] 1 C dX9_digest_72 (by decide) rfl (Nat.le_of_ble_eq_true rfl) rfl h (fun x3_63 h => ?_)
        refine tz_goto 59 C dX9_digest_75 (by decide) ?_
        exact tz_sub (ihag_11 _ _ _ h) [2, 1, 0] rfl
    · refine tz_ldc2 31 C dX9_digest_38 cw_RX9_306 ?_
      refine tz_lload_n 1 1 C dX9_digest_41 rfl rfl ?_
      refine tz_lmul C dX9_digest_42 ?_
      refine tz_aload_n 0 0 C dX9_digest_43 rfl rfl ?_
      refine tz_iload_n 3 2 C dX9_digest_44 rfl rfl ?_
      refine tz_calliv C dX9_digest_45 lk_RX9_311 (m_X9_fault G hG  h) (by decide) rfl rfl rfl rfl ⟨Nat.le_of_ble_eq_true rfl, Nat.le_of_ble_eq_true rfl⟩ (Nat.le_of_ble_eq_true rfl) rfl (fun r_65 σ_64 h => ?_)
      refine tz_i2l C dX9_digest_48 ?_
      refine tz_ladd C dX9_digest_49 ?_
      refine tz_lstore_n 1 [(0, .ref 0), (3, .int x3_9)] C dX9_digest_50 rfl (Nat.le_of_ble_eq_true rfl) rfl h (fun x1_66 h => ?_)
      refine tz_iinc 2 [(1, .long x1_66), (0, .ref 0)] 1 C dX9_digest_51 (by decide) rfl (Nat.le_of_ble_eq_true rfl) rfl h (fun x3_67 h => ?_)
      refine tz_goto 33 C dX9_digest_54 (by decide) ?_
      exact tz_sub (ihag_6 _ _ _ h) [2, 1, 0] rfl
  · refine tz_ldc2 31 C dX9_digest_12 cw_RX9_306 ?_
    refine tz_lload_n 1 1 C dX9_digest_15 rfl rfl ?_
    refine tz_lmul C dX9_digest_16 ?_
    refine tz_aload_n 0 0 C dX9_digest_17 rfl rfl ?_
    refine tz_iload_n 3 2 C dX9_digest_18 rfl rfl ?_
    refine tz_calliv C dX9_digest_19 lk_RX9_308 (m_X9_count G hG  h) (by decide) rfl rfl rfl rfl ⟨Nat.le_of_ble_eq_true rfl, Nat.le_of_ble_eq_true rfl⟩ (Nat.le_of_ble_eq_true rfl) rfl (fun r_69 σ_68 h => ?_)
    refine tz_i2l C dX9_digest_22 ?_
    refine tz_ladd C dX9_digest_23 ?_
    refine tz_lstore_n 1 [(0, .ref 0), (3, .int x3_4)] C dX9_digest_24 rfl (Nat.le_of_ble_eq_true rfl) rfl h (fun x1_70 h => ?_)
    refine tz_iinc 2 [(1, .long x1_70), (0, .ref 0)] 1 C dX9_digest_25 (by decide) rfl (Nat.le_of_ble_eq_true rfl) rfl h (fun x3_71 h => ?_)
    refine tz_goto 6 C dX9_digest_28 (by decide) ?_
    exact tz_sub (ihag_1 _ _ _ h) [2, 1, 0] rfl

def vc_X10_in (x0 : Int32) (x1 : Int32) (x2 : Int32) (σ : tzS) (Q : Int32 → tzS → Prop) : Prop :=
  (x0 < x1 →
    Q 0 σ) ∧
  (¬ x0 < x1 →
    (x2 < x0 →
      Q 0 σ) ∧
    (¬ x2 < x0 →
      Q 1 σ))
set_option maxRecDepth 20000 in
set_option maxHeartbeats 4000000 in
theorem m_X10_in (G : tzG) (hG : tz_ok G) {x0 : Int32} {x1 : Int32} {x2 : Int32}  {σ : tzS} {Q : Int32 → tzS → Prop} (h : vc_X10_in x0 x1 x2 σ Q) : tz_M G yX10_in cX10_in 3 (some .boolean) 0 0 [.int x0, .int x1, .int x2] σ (tz_Qi G Q) := by
  unfold vc_X10_in at h
  refine tz_startz hG RX10 [(0, .int x0), (1, .int x1), (2, .int x2)] (by decide) rfl (Nat.le_of_ble_eq_true rfl) rfl (fun E C hret => ?_)
  refine tz_iload_n 0 0 C dX10_in_0 rfl rfl ?_
  refine tz_iload_n 1 1 C dX10_in_1 rfl rfl ?_
  refine tz_icmp_lt 14 C dX10_in_2 (by decide) h (fun c_1 h => ?_) (fun c_1 h => ?_)
  · refine tz_iconst 0 (by decide) C dX10_in_14 ?_
    exact hret _ _ _ _ dX10_in_15 rfl h
  · refine tz_iload_n 0 0 C dX10_in_5 rfl rfl ?_
    refine tz_iload_n 2 2 C dX10_in_6 rfl rfl ?_
    refine tz_icmp_gt 14 C dX10_in_7 (by decide) h (fun c_2 h => ?_) (fun c_2 h => ?_)
    · refine tz_iconst 0 (by decide) C dX10_in_14 ?_
      exact hret _ _ _ _ dX10_in_15 rfl h
    · refine tz_iconst 1 (by decide) C dX10_in_10 ?_
      refine tz_goto 15 C dX10_in_11 (by decide) ?_
      exact hret _ _ _ _ dX10_in_15 rfl h

def vc_X10_isIn (x0 : Int32) (x1 : Int32) (σ : tzS) (Q : Int32 → tzS → Prop) : Prop :=
  (¬ ((x0 >>> (x1 &&& 31)) &&& 1) = 1 →
    Q 0 σ) ∧
  (((x0 >>> (x1 &&& 31)) &&& 1) = 1 →
    Q 1 σ)
set_option maxRecDepth 20000 in
set_option maxHeartbeats 4000000 in
theorem m_X10_isIn (G : tzG) (hG : tz_ok G) {x0 : Int32} {x1 : Int32}  {σ : tzS} {Q : Int32 → tzS → Prop} (h : vc_X10_isIn x0 x1 σ Q) : tz_M G yX10_isIn cX10_isIn 2 (some .boolean) 0 0 [.int x0, .int x1] σ (tz_Qi G Q) := by
  unfold vc_X10_isIn at h
  refine tz_startz hG RX10 [(0, .int x0), (1, .int x1)] (by decide) rfl (Nat.le_of_ble_eq_true rfl) rfl (fun E C hret => ?_)
  refine tz_iload_n 0 0 C dX10_isIn_0 rfl rfl ?_
  refine tz_iload_n 1 1 C dX10_isIn_1 rfl rfl ?_
  refine tz_ishr C dX10_isIn_2 ?_
  refine tz_iconst 1 (by decide) C dX10_isIn_3 ?_
  refine tz_iand C dX10_isIn_4 ?_
  refine tz_iconst 1 (by decide) C dX10_isIn_5 ?_
  refine tz_icmp_ne 13 C dX10_isIn_6 (by decide) h (fun c_1 h => ?_) (fun c_1 h => ?_)
  · refine tz_iconst 0 (by decide) C dX10_isIn_13 ?_
    exact hret _ _ _ _ dX10_isIn_14 rfl h
  · refine tz_iconst 1 (by decide) C dX10_isIn_9 ?_
    refine tz_goto 14 C dX10_isIn_10 (by decide) ?_
    exact hret _ _ _ _ dX10_isIn_14 rfl h

def vc_X10_isTwo (x0 : Int32) (σ : tzS) (Q : Int32 → tzS → Prop) : Prop :=
  vc_X10_in x0 0 1 σ (fun (r_2 : Int32) (σ_1 : tzS) =>
    tz_bool r_2 ∧ Q r_2 σ_1)
set_option maxRecDepth 20000 in
set_option maxHeartbeats 4000000 in
theorem m_X10_isTwo (G : tzG) (hG : tz_ok G) {x0 : Int32}  {σ : tzS} {Q : Int32 → tzS → Prop} (h : vc_X10_isTwo x0 σ Q) : tz_M G yX10_isTwo cX10_isTwo 1 (some .boolean) 1 22 [.int x0] σ (tz_Qi G Q) := by
  unfold vc_X10_isTwo at h
  refine tz_startz hG RX10 [(0, .int x0)] (by decide) rfl (Nat.le_of_ble_eq_true rfl) rfl (fun E C hret => ?_)
  refine tz_iload_n 0 0 C dX10_isTwo_0 rfl rfl ?_
  refine tz_iconst 0 (by decide) C dX10_isTwo_1 ?_
  refine tz_iconst 1 (by decide) C dX10_isTwo_2 ?_
  refine tz_callis C dX10_isTwo_3 lk_RX10_77 (m_X10_in G hG  h) rfl ⟨Nat.le_of_ble_eq_true rfl, Nat.le_of_ble_eq_true rfl⟩ (Nat.le_of_ble_eq_true rfl) rfl (fun r_2 σ_1 h => ?_)
  exact hret _ _ _ _ dX10_isTwo_6 (tz_narz h.1) h.2

def vc_X10_type (x1 : Int32) (σ : tzS) (Q : Int32 → tzS → Prop) : Prop :=
  vc_X10_in x1 0 255 σ (fun (r_2 : Int32) (σ_1 : tzS) =>
    (¬ r_2 = 0 →
      (¬ (σ_1.1 133 0) = 200 →
        vp_in (σ_1.1 133 0) 200 ∧ (
          ∀ σ_5 : tzS, σ_5 = tz_st σ_1 134 (σ_1.1 133 0).toNatClampNeg x1 →
          ∀ σ_7 : tzS, σ_7 = tz_st σ_5 133 0 ((σ_5.1 133 0) + 1) →
          Q (σ_7.1 133 0) σ_7)) ∧
      ((σ_1.1 133 0) = 200 →
        Q (-4) σ_1)) ∧
    (r_2 = 0 →
      Q (-2) σ_1))
set_option maxRecDepth 20000 in
set_option maxHeartbeats 4000000 in
theorem m_X10_type (G : tzG) (hG : tz_ok G) {x1 : Int32}  {σ : tzS} {Q : Int32 → tzS → Prop} (h : vc_X10_type x1 σ Q) : tz_M G yX10_type cX10_type 2 (some .int) 1 22 [.ref 133, .int x1] σ (tz_Qi G Q) := by
  unfold vc_X10_type at h
  refine tz_starti hG RX10 [(0, .ref 133), (1, .int x1)] (by decide) rfl (Nat.le_of_ble_eq_true rfl) rfl (fun E C hret => ?_)
  refine tz_iload_n 1 1 C dX10_type_0 rfl rfl ?_
  refine tz_iconst 0 (by decide) C dX10_type_1 ?_
  refine tz_sipush 255 (by decide) C dX10_type_2 ?_
  refine tz_callis C dX10_type_5 lk_RX10_77 (m_X10_in G hG  h) rfl ⟨Nat.le_of_ble_eq_true rfl, Nat.le_of_ble_eq_true rfl⟩ (Nat.le_of_ble_eq_true rfl) rfl (fun r_2 σ_1 h => ?_)
  refine tz_if_ne 14 C dX10_type_8 (by decide) h (fun c_3 h => ?_) (fun c_3 h => ?_)
  · refine tz_aload_n 0 0 C dX10_type_14 rfl rfl ?_
    refine tz_getI C dX10_type_15 fl_RX10_81 (by decide) rfl rfl ?_
    refine tz_sipush 200 (by decide) C dX10_type_18 ?_
    refine tz_icmp_ne 27 C dX10_type_21 (by decide) h (fun c_4 h => ?_) (fun c_4 h => ?_)
    · refine tz_aload_n 0 0 C dX10_type_27 rfl rfl ?_
      refine tz_getR C dX10_type_28 fl_RX10_7 (by decide) rfl rfl ?_
      refine tz_aload_n 0 0 C dX10_type_31 rfl rfl ?_
      refine tz_getI C dX10_type_32 fl_RX10_81 (by decide) rfl rfl ?_
      refine tz_iload_n 1 1 C dX10_type_35 rfl rfl ?_
      have hin_6 := h.1
      refine tz_iast C dX10_type_36 (by decide) rfl h (fun σ_5 h => ?_)
      refine tz_aload_n 0 0 C dX10_type_37 rfl rfl ?_
      refine tz_dup C dX10_type_38 rfl ?_
      refine tz_getI C dX10_type_39 fl_RX10_81 (by decide) rfl rfl ?_
      refine tz_iconst 1 (by decide) C dX10_type_42 ?_
      refine tz_iadd C dX10_type_43 ?_
      refine tz_put C dX10_type_44 fp_RX10_81 (by decide) rfl rfl rfl rfl h (fun σ_7 h => ?_)
      refine tz_aload_n 0 0 C dX10_type_47 rfl rfl ?_
      refine tz_getI C dX10_type_48 fl_RX10_81 (by decide) rfl rfl ?_
      exact hret _ _ _ _ dX10_type_51 h
    · refine tz_bipush (-4) (by decide) C dX10_type_24 ?_
      exact hret _ _ _ _ dX10_type_26 h
  · refine tz_bipush (-2) (by decide) C dX10_type_11 ?_
    exact hret _ _ _ _ dX10_type_13 h
