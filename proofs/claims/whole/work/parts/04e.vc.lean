def vc_X10_word (x1 : Int32) (x2 : Int32) (σ : tzS) (Q : Int32 → tzS → Prop) : Prop :=
  vc_X10_isSentence x1 σ (fun (r_2 : Int32) (σ_1 : tzS) =>
    (r_2 = 0 →
      Q (-2) σ_1) ∧
    (¬ r_2 = 0 →
      vc_X10_wordOf x1 x2 σ_1 (fun (r_4 : Int32) (σ_3 : tzS) =>
        Q r_4 σ_3)))
set_option maxRecDepth 20000 in
set_option maxHeartbeats 4000000 in
theorem m_X10_word (G : tzG) (hG : tz_ok G) {x1 : Int32} {x2 : Int32}  {σ : tzS} {Q : Int32 → tzS → Prop} (h : vc_X10_word x1 x2 σ Q) : tz_M G yX10_word cX10_word 3 (some .int) 5 116 [.ref 133, .int x1, .int x2] σ (tz_Qi G Q) := by
  unfold vc_X10_word at h
  refine tz_starti hG RX10 [(0, .ref _), (1, .int x1), (2, .int x2)] (by decide) rfl (Nat.le_of_ble_eq_true rfl) rfl (fun E C hret => ?_)
  refine tz_aload_n 0 0 C dX10_word_0 rfl rfl ?_
  refine tz_iload_n 1 1 C dX10_word_1 rfl rfl ?_
  refine tz_calliv C dX10_word_2 lk_RX10_165 (m_X10_isSentence G hG  h) (by decide) rfl rfl rfl rfl ⟨Nat.le_of_ble_eq_true rfl, Nat.le_of_ble_eq_true rfl⟩ (Nat.le_of_ble_eq_true rfl) rfl (fun r_2 σ_1 h => ?_)
  refine tz_if_eq 17 C dX10_word_5 (by decide) h (fun h => ?_) (fun h => ?_)
  · refine tz_bipush (-2) (by decide) C dX10_word_17 ?_
    exact hret _ _ _ _ dX10_word_19 h
  · refine tz_aload_n 0 0 C dX10_word_8 rfl rfl ?_
    refine tz_iload_n 1 1 C dX10_word_9 rfl rfl ?_
    refine tz_iload_n 2 2 C dX10_word_10 rfl rfl ?_
    refine tz_calliv C dX10_word_11 lk_RX10_172 (m_X10_wordOf G hG  h) (by decide) rfl rfl rfl rfl ⟨Nat.le_of_ble_eq_true rfl, Nat.le_of_ble_eq_true rfl⟩ (Nat.le_of_ble_eq_true rfl) rfl (fun r_4 σ_3 h => ?_)
    refine tz_goto 19 C dX10_word_14 (by decide) ?_
    exact hret _ _ _ _ dX10_word_19 h

def vc_X10_isStem (x1 : Int32) (σ : tzS) (Q : Int32 → tzS → Prop) : Prop :=
  vc_X10_reads  σ (fun (σ_1 : tzS) =>
    vc_X10_in x1 0 ((σ_1.1 133 9) - 1) σ_1 (fun (r_3 : Int32) (σ_2 : tzS) =>
      tz_bool r_3 ∧ Q r_3 σ_2))
set_option maxRecDepth 20000 in
set_option maxHeartbeats 4000000 in
theorem m_X10_isStem (G : tzG) (hG : tz_ok G) {x1 : Int32}  {σ : tzS} {Q : Int32 → tzS → Prop} (h : vc_X10_isStem x1 σ Q) : tz_M G yX10_isStem cX10_isStem 2 (some .boolean) 4 95 [.ref 133, .int x1] σ (tz_Qi G Q) := by
  unfold vc_X10_isStem at h
  refine tz_startz hG RX10 [(0, .ref _), (1, .int x1)] (by decide) rfl (Nat.le_of_ble_eq_true rfl) rfl (fun E C hret => ?_)
  refine tz_aload_n 0 0 C dX10_isStem_0 rfl rfl ?_
  refine tz_callvv C dX10_isStem_1 lk_RX10_147 (m_X10_reads G hG  h) (by decide) rfl rfl rfl rfl ⟨Nat.le_of_ble_eq_true rfl, Nat.le_of_ble_eq_true rfl⟩ (Nat.le_of_ble_eq_true rfl) rfl (fun σ_1 h => ?_)
  refine tz_iload_n 1 1 C dX10_isStem_4 rfl rfl ?_
  refine tz_iconst 0 (by decide) C dX10_isStem_5 ?_
  refine tz_aload_n 0 0 C dX10_isStem_6 rfl rfl ?_
  refine tz_getI C dX10_isStem_7 fl_RX10_135 (by decide) rfl rfl ?_
  refine tz_iconst 1 (by decide) C dX10_isStem_10 ?_
  refine tz_isub C dX10_isStem_11 ?_
  refine tz_callis C dX10_isStem_12 lk_RX10_77 (m_X10_in G hG  h) rfl ⟨Nat.le_of_ble_eq_true rfl, Nat.le_of_ble_eq_true rfl⟩ (Nat.le_of_ble_eq_true rfl) rfl (fun r_3 σ_2 h => ?_)
  exact hret _ _ _ _ dX10_isStem_15 (tz_narz h.1) h.2

def vc_X10_stemOf (x1 : Int32) (x2 : Int32) (σ : tzS) (Q : Int32 → tzS → Prop) : Prop :=
  tz_loop4 (fun (x3_3 : Int32) (x4_4 : Int32) (x5_5 : Int32) (x6_6 : Int32) (σ_2 : tzS) (ag_1 : Int32 → Int32 → Int32 → Int32 → tzS → Prop) =>
    ((σ_2.1 133 7) ≤ x6_6 →
      (¬ x2 = 0 →
        (¬ x2 = 1 →
          (¬ x2 = 2 →
            Q x5_5 σ_2) ∧
          (x2 = 2 →
            Q x4_4 σ_2)) ∧
        (x2 = 1 →
          Q x3_3 σ_2)) ∧
      (x2 = 0 →
        vp_in x1 110 ∧ (
          Q (σ_2.1 141 x1.toNatClampNeg) σ_2))) ∧
    (¬ (σ_2.1 133 7) ≤ x6_6 →
      vp_in ((110 * x6_6) + x1) 1320 ∧ (
        ∀ x7_7 : Int32, x7_7 = (σ_2.1 143 ((110 * x6_6) + x1).toNatClampNeg) →
        ∀ x3_8 : Int32, x3_8 = (x3_3 + x7_7) →
        (x7_7 ≤ 0 →
          (x7_7 ≤ 0 →
            ∀ x6_9 : Int32, x6_9 = x6_6 + 1 →
            ag_1 x3_8 x4_4 x5_5 x6_9 σ_2) ∧
          (¬ x7_7 ≤ 0 →
            ∀ x6_10 : Int32, x6_10 = x6_6 + 1 →
            ag_1 x3_8 x4_4 x6_6 x6_10 σ_2)) ∧
        (¬ x7_7 ≤ 0 →
          (¬ x4_4 = (-1) →
            (x7_7 ≤ 0 →
              ∀ x6_11 : Int32, x6_11 = x6_6 + 1 →
              ag_1 x3_8 x4_4 x5_5 x6_11 σ_2) ∧
            (¬ x7_7 ≤ 0 →
              ∀ x6_12 : Int32, x6_12 = x6_6 + 1 →
              ag_1 x3_8 x4_4 x6_6 x6_12 σ_2)) ∧
          (x4_4 = (-1) →
            (x7_7 ≤ 0 →
              ∀ x6_13 : Int32, x6_13 = x6_6 + 1 →
              ag_1 x3_8 x6_6 x5_5 x6_13 σ_2) ∧
            (¬ x7_7 ≤ 0 →
              ∀ x6_14 : Int32, x6_14 = x6_6 + 1 →
              ag_1 x3_8 x6_6 x6_6 x6_14 σ_2)))))) (0 : Int32) ((-1) : Int32) ((-1) : Int32) (0 : Int32) σ
set_option maxRecDepth 20000 in
set_option maxHeartbeats 4000000 in
theorem m_X10_stemOf (G : tzG) (hG : tz_ok G) {x1 : Int32} {x2 : Int32}  {σ : tzS} {Q : Int32 → tzS → Prop} (h : vc_X10_stemOf x1 x2 σ Q) : tz_M G yX10_stemOf cX10_stemOf 8 (some .int) 0 0 [.ref 133, .int x1, .int x2] σ (tz_Qi G Q) := by
  unfold vc_X10_stemOf at h
  refine tz_starti hG RX10 [(0, .ref _), (1, .int x1), (2, .int x2)] (by decide) rfl (Nat.le_of_ble_eq_true rfl) rfl (fun E C hret => ?_)
  refine tz_iconst 0 (by decide) C dX10_stemOf_0 ?_
  refine tz_istore_n_k 3 [(0, .ref _), (1, .int x1), (2, .int x2)] C dX10_stemOf_1 rfl (Nat.le_of_ble_eq_true rfl) rfl ?_
  refine tz_iconst (-1) (by decide) C dX10_stemOf_2 ?_
  refine tz_istore_k [(3, .int 0), (0, .ref _), (1, .int x1), (2, .int x2)] C dX10_stemOf_3 (Nat.le_of_ble_eq_true rfl) rfl ?_
  refine tz_iconst (-1) (by decide) C dX10_stemOf_5 ?_
  refine tz_istore_k [(4, .int (-1)), (3, .int 0), (0, .ref _), (1, .int x1), (2, .int x2)] C dX10_stemOf_6 (Nat.le_of_ble_eq_true rfl) rfl ?_
  refine tz_iconst 0 (by decide) C dX10_stemOf_8 ?_
  refine tz_istore_k [(5, .int (-1)), (4, .int (-1)), (3, .int 0), (0, .ref _), (1, .int x1), (2, .int x2)] C dX10_stemOf_9 (Nat.le_of_ble_eq_true rfl) rfl ?_
  refine tz_sub (L := [(0, .ref _), (1, .int x1), (2, .int x2), (3, .int 0), (4, .int (-1)), (5, .int (-1)), (6, .int 0)]) ?_ [4, 5, 6, 3, 2, 1, 0] rfl
  refine tz_loop4_w (V := fun (x3_3 : Int32) (x4_4 : Int32) (x5_5 : Int32) (x6_6 : Int32) (σ_2 : tzS) => tz_V G E 11 [(0, .ref _), (1, .int x1), (2, .int x2), (3, .int x3_3), (4, .int x4_4), (5, .int x5_5), (6, .int x6_6)] [] σ_2) h (fun ag_1 ihag_1 x3_3 x4_4 x5_5 x6_6 σ_2 h => ?_)
  refine tz_iload 6 C dX10_stemOf_11 rfl ?_
  refine tz_aload_n 0 0 C dX10_stemOf_13 rfl rfl ?_
  refine tz_getI C dX10_stemOf_14 fl_RX10_109 (by decide) rfl rfl ?_
  refine tz_icmp_ge 79 C dX10_stemOf_17 (by decide) h (fun h => ?_) (fun h => ?_)
  · refine tz_iload_n 2 2 C dX10_stemOf_79 rfl rfl ?_
    refine tz_if_ne 92 C dX10_stemOf_80 (by decide) h (fun h => ?_) (fun h => ?_)
    · refine tz_iload_n 2 2 C dX10_stemOf_92 rfl rfl ?_
      refine tz_iconst 1 (by decide) C dX10_stemOf_93 ?_
      refine tz_icmp_ne 101 C dX10_stemOf_94 (by decide) h (fun h => ?_) (fun h => ?_)
      · refine tz_iload_n 2 2 C dX10_stemOf_101 rfl rfl ?_
        refine tz_iconst 2 (by decide) C dX10_stemOf_102 ?_
        refine tz_icmp_ne 111 C dX10_stemOf_103 (by decide) h (fun h => ?_) (fun h => ?_)
        · refine tz_iload 5 C dX10_stemOf_111 rfl ?_
          exact hret _ _ _ _ dX10_stemOf_113 h
        · refine tz_iload 4 C dX10_stemOf_106 rfl ?_
          refine tz_goto 113 C dX10_stemOf_108 (by decide) ?_
          exact hret _ _ _ _ dX10_stemOf_113 h
      · refine tz_iload_n 3 3 C dX10_stemOf_97 rfl rfl ?_
        refine tz_goto 113 C dX10_stemOf_98 (by decide) ?_
        exact hret _ _ _ _ dX10_stemOf_113 h
    · refine tz_aload_n 0 0 C dX10_stemOf_83 rfl rfl ?_
      refine tz_getR C dX10_stemOf_84 fl_RX10_31 (by decide) rfl rfl ?_
      refine tz_iload_n 1 1 C dX10_stemOf_87 rfl rfl ?_
      obtain ⟨hin, h⟩ := h
      refine tz_iald C dX10_stemOf_88 (by decide) rfl hin ?_
      refine tz_goto 113 C dX10_stemOf_89 (by decide) ?_
      exact hret _ _ _ _ dX10_stemOf_113 h
  · refine tz_aload_n 0 0 C dX10_stemOf_20 rfl rfl ?_
    refine tz_getR C dX10_stemOf_21 fl_RX10_37 (by decide) rfl rfl ?_
    refine tz_bipush 110 (by decide) C dX10_stemOf_24 ?_
    refine tz_iload 6 C dX10_stemOf_26 rfl ?_
    refine tz_imul C dX10_stemOf_28 ?_
    refine tz_iload_n 1 1 C dX10_stemOf_29 rfl rfl ?_
    refine tz_iadd C dX10_stemOf_30 ?_
    obtain ⟨hin, h⟩ := h
    refine tz_iald C dX10_stemOf_31 (by decide) rfl hin ?_
    refine tz_istore [(0, .ref _), (1, .int x1), (2, .int x2), (3, .int x3_3), (4, .int x4_4), (5, .int x5_5), (6, .int x6_6)] C dX10_stemOf_32 (Nat.le_of_ble_eq_true rfl) rfl h (fun x7_7 h => ?_)
    refine tz_iload_n 3 4 C dX10_stemOf_34 rfl rfl ?_
    refine tz_iload 0 C dX10_stemOf_35 rfl ?_
    refine tz_iadd C dX10_stemOf_37 ?_
    refine tz_istore_n 3 [(7, .int x7_7), (0, .ref _), (1, .int x1), (2, .int x2), (4, .int x4_4), (5, .int x5_5), (6, .int x6_6)] C dX10_stemOf_38 rfl (Nat.le_of_ble_eq_true rfl) rfl h (fun x3_8 h => ?_)
    refine tz_iload 1 C dX10_stemOf_39 rfl ?_
    refine tz_if_le 55 C dX10_stemOf_41 (by decide) h (fun h => ?_) (fun h => ?_)
    · refine tz_iload 5 C dX10_stemOf_55 rfl ?_
      refine tz_istore_k [(3, .int x3_8), (7, .int x7_7), (0, .ref _), (1, .int x1), (2, .int x2), (5, .int x5_5), (6, .int x6_6)] C dX10_stemOf_57 (Nat.le_of_ble_eq_true rfl) rfl ?_
      refine tz_iload 2 C dX10_stemOf_59 rfl ?_
      refine tz_if_le 69 C dX10_stemOf_61 (by decide) h (fun h => ?_) (fun h => ?_)
      · refine tz_iload 6 C dX10_stemOf_69 rfl ?_
        refine tz_istore_k [(4, .int x4_4), (3, .int x3_8), (7, .int x7_7), (0, .ref _), (1, .int x1), (2, .int x2), (6, .int x6_6)] C dX10_stemOf_71 (Nat.le_of_ble_eq_true rfl) rfl ?_
        refine tz_iinc 7 [(5, .int x5_5), (4, .int x4_4), (3, .int x3_8), (7, .int x7_7), (0, .ref _), (1, .int x1), (2, .int x2)] 1 C dX10_stemOf_73 (by decide) rfl (Nat.le_of_ble_eq_true rfl) rfl h (fun x6_9 h => ?_)
        refine tz_goto 11 C dX10_stemOf_76 (by decide) ?_
        exact tz_sub (ihag_1 _ _ _ _ _ h) [5, 6, 7, 3, 2, 1, 0] rfl
      · refine tz_iload 7 C dX10_stemOf_64 rfl ?_
        refine tz_goto 71 C dX10_stemOf_66 (by decide) ?_
        refine tz_istore_k [(4, .int x4_4), (3, .int x3_8), (7, .int x7_7), (0, .ref _), (1, .int x1), (2, .int x2), (6, .int x6_6)] C dX10_stemOf_71 (Nat.le_of_ble_eq_true rfl) rfl ?_
        refine tz_iinc 7 [(5, .int x6_6), (4, .int x4_4), (3, .int x3_8), (7, .int x7_7), (0, .ref _), (1, .int x1), (2, .int x2)] 1 C dX10_stemOf_73 (by decide) rfl (Nat.le_of_ble_eq_true rfl) rfl h (fun x6_10 h => ?_)
        refine tz_goto 11 C dX10_stemOf_76 (by decide) ?_
        exact tz_sub (ihag_1 _ _ _ _ _ h) [5, 6, 7, 3, 2, 1, 0] rfl
    · refine tz_iload 5 C dX10_stemOf_44 rfl ?_
      refine tz_iconst (-1) (by decide) C dX10_stemOf_46 ?_
      refine tz_icmp_ne 55 C dX10_stemOf_47 (by decide) h (fun h => ?_) (fun h => ?_)
      · refine tz_iload 5 C dX10_stemOf_55 rfl ?_
        refine tz_istore_k [(3, .int x3_8), (7, .int x7_7), (0, .ref _), (1, .int x1), (2, .int x2), (5, .int x5_5), (6, .int x6_6)] C dX10_stemOf_57 (Nat.le_of_ble_eq_true rfl) rfl ?_
        refine tz_iload 2 C dX10_stemOf_59 rfl ?_
        refine tz_if_le 69 C dX10_stemOf_61 (by decide) h (fun h => ?_) (fun h => ?_)
        · refine tz_iload 6 C dX10_stemOf_69 rfl ?_
          refine tz_istore_k [(4, .int x4_4), (3, .int x3_8), (7, .int x7_7), (0, .ref _), (1, .int x1), (2, .int x2), (6, .int x6_6)] C dX10_stemOf_71 (Nat.le_of_ble_eq_true rfl) rfl ?_
          refine tz_iinc 7 [(5, .int x5_5), (4, .int x4_4), (3, .int x3_8), (7, .int x7_7), (0, .ref _), (1, .int x1), (2, .int x2)] 1 C dX10_stemOf_73 (by decide) rfl (Nat.le_of_ble_eq_true rfl) rfl h (fun x6_11 h => ?_)
          refine tz_goto 11 C dX10_stemOf_76 (by decide) ?_
          exact tz_sub (ihag_1 _ _ _ _ _ h) [5, 6, 7, 3, 2, 1, 0] rfl
        · refine tz_iload 7 C dX10_stemOf_64 rfl ?_
          refine tz_goto 71 C dX10_stemOf_66 (by decide) ?_
          refine tz_istore_k [(4, .int x4_4), (3, .int x3_8), (7, .int x7_7), (0, .ref _), (1, .int x1), (2, .int x2), (6, .int x6_6)] C dX10_stemOf_71 (Nat.le_of_ble_eq_true rfl) rfl ?_
          refine tz_iinc 7 [(5, .int x6_6), (4, .int x4_4), (3, .int x3_8), (7, .int x7_7), (0, .ref _), (1, .int x1), (2, .int x2)] 1 C dX10_stemOf_73 (by decide) rfl (Nat.le_of_ble_eq_true rfl) rfl h (fun x6_12 h => ?_)
          refine tz_goto 11 C dX10_stemOf_76 (by decide) ?_
          exact tz_sub (ihag_1 _ _ _ _ _ h) [5, 6, 7, 3, 2, 1, 0] rfl
      · refine tz_iload 7 C dX10_stemOf_50 rfl ?_
        refine tz_goto 57 C dX10_stemOf_52 (by decide) ?_
        refine tz_istore_k [(3, .int x3_8), (7, .int x7_7), (0, .ref _), (1, .int x1), (2, .int x2), (5, .int x5_5), (6, .int x6_6)] C dX10_stemOf_57 (Nat.le_of_ble_eq_true rfl) rfl ?_
        refine tz_iload 2 C dX10_stemOf_59 rfl ?_
        refine tz_if_le 69 C dX10_stemOf_61 (by decide) h (fun h => ?_) (fun h => ?_)
        · refine tz_iload 6 C dX10_stemOf_69 rfl ?_
          refine tz_istore_k [(4, .int x6_6), (3, .int x3_8), (7, .int x7_7), (0, .ref _), (1, .int x1), (2, .int x2), (6, .int x6_6)] C dX10_stemOf_71 (Nat.le_of_ble_eq_true rfl) rfl ?_
          refine tz_iinc 7 [(5, .int x5_5), (4, .int x6_6), (3, .int x3_8), (7, .int x7_7), (0, .ref _), (1, .int x1), (2, .int x2)] 1 C dX10_stemOf_73 (by decide) rfl (Nat.le_of_ble_eq_true rfl) rfl h (fun x6_13 h => ?_)
          refine tz_goto 11 C dX10_stemOf_76 (by decide) ?_
          exact tz_sub (ihag_1 _ _ _ _ _ h) [5, 6, 7, 3, 2, 1, 0] rfl
        · refine tz_iload 7 C dX10_stemOf_64 rfl ?_
          refine tz_goto 71 C dX10_stemOf_66 (by decide) ?_
          refine tz_istore_k [(4, .int x6_6), (3, .int x3_8), (7, .int x7_7), (0, .ref _), (1, .int x1), (2, .int x2), (6, .int x6_6)] C dX10_stemOf_71 (Nat.le_of_ble_eq_true rfl) rfl ?_
          refine tz_iinc 7 [(5, .int x6_6), (4, .int x6_6), (3, .int x3_8), (7, .int x7_7), (0, .ref _), (1, .int x1), (2, .int x2)] 1 C dX10_stemOf_73 (by decide) rfl (Nat.le_of_ble_eq_true rfl) rfl h (fun x6_14 h => ?_)
          refine tz_goto 11 C dX10_stemOf_76 (by decide) ?_
          exact tz_sub (ihag_1 _ _ _ _ _ h) [5, 6, 7, 3, 2, 1, 0] rfl

def vc_X10_stem (x1 : Int32) (x2 : Int32) (σ : tzS) (Q : Int32 → tzS → Prop) : Prop :=
  vc_X10_isStem x1 σ (fun (r_2 : Int32) (σ_1 : tzS) =>
    (r_2 = 0 →
      Q (-2) σ_1) ∧
    (¬ r_2 = 0 →
      vc_X10_in x2 0 3 σ_1 (fun (r_4 : Int32) (σ_3 : tzS) =>
        (r_4 = 0 →
          Q (-2) σ_3) ∧
        (¬ r_4 = 0 →
          vc_X10_stemOf x1 x2 σ_3 (fun (r_6 : Int32) (σ_5 : tzS) =>
            Q r_6 σ_5)))))
set_option maxRecDepth 20000 in
set_option maxHeartbeats 4000000 in
theorem m_X10_stem (G : tzG) (hG : tz_ok G) {x1 : Int32} {x2 : Int32}  {σ : tzS} {Q : Int32 → tzS → Prop} (h : vc_X10_stem x1 x2 σ Q) : tz_M G yX10_stem cX10_stem 3 (some .int) 5 116 [.ref 133, .int x1, .int x2] σ (tz_Qi G Q) := by
  unfold vc_X10_stem at h
  refine tz_starti hG RX10 [(0, .ref _), (1, .int x1), (2, .int x2)] (by decide) rfl (Nat.le_of_ble_eq_true rfl) rfl (fun E C hret => ?_)
  refine tz_aload_n 0 0 C dX10_stem_0 rfl rfl ?_
  refine tz_iload_n 1 1 C dX10_stem_1 rfl rfl ?_
  refine tz_calliv C dX10_stem_2 lk_RX10_175 (m_X10_isStem G hG  h) (by decide) rfl rfl rfl rfl ⟨Nat.le_of_ble_eq_true rfl, Nat.le_of_ble_eq_true rfl⟩ (Nat.le_of_ble_eq_true rfl) rfl (fun r_2 σ_1 h => ?_)
  refine tz_if_eq 26 C dX10_stem_5 (by decide) h (fun h => ?_) (fun h => ?_)
  · refine tz_bipush (-2) (by decide) C dX10_stem_26 ?_
    exact hret _ _ _ _ dX10_stem_28 h
  · refine tz_iload_n 2 2 C dX10_stem_8 rfl rfl ?_
    refine tz_iconst 0 (by decide) C dX10_stem_9 ?_
    refine tz_iconst 3 (by decide) C dX10_stem_10 ?_
    refine tz_callis C dX10_stem_11 lk_RX10_77 (m_X10_in G hG  h) rfl ⟨Nat.le_of_ble_eq_true rfl, Nat.le_of_ble_eq_true rfl⟩ (Nat.le_of_ble_eq_true rfl) rfl (fun r_4 σ_3 h => ?_)
    refine tz_if_eq 26 C dX10_stem_14 (by decide) h (fun h => ?_) (fun h => ?_)
    · refine tz_bipush (-2) (by decide) C dX10_stem_26 ?_
      exact hret _ _ _ _ dX10_stem_28 h
    · refine tz_aload_n 0 0 C dX10_stem_17 rfl rfl ?_
      refine tz_iload_n 1 1 C dX10_stem_18 rfl rfl ?_
      refine tz_iload_n 2 2 C dX10_stem_19 rfl rfl ?_
      refine tz_calliv C dX10_stem_20 lk_RX10_178 (m_X10_stemOf G hG  h) (by decide) rfl rfl rfl rfl ⟨Nat.le_of_ble_eq_true rfl, Nat.le_of_ble_eq_true rfl⟩ (Nat.le_of_ble_eq_true rfl) rfl (fun r_6 σ_5 h => ?_)
      refine tz_goto 28 C dX10_stem_23 (by decide) ?_
      exact hret _ _ _ _ dX10_stem_28 h

def vc_X10_letterOf (x1 : Int32) (x2 : Int32) (σ : tzS) (Q : Int32 → tzS → Prop) : Prop :=
  vp_in x1 110 ∧ (
    vc_X10_in x2 0 ((σ.1 141 x1.toNatClampNeg) - 1) σ (fun (r_2 : Int32) (σ_1 : tzS) =>
      (r_2 = 0 →
        Q (-2) σ_1) ∧
      (¬ r_2 = 0 →
        vp_in x1 110 ∧ (
          vp_in ((σ_1.1 140 x1.toNatClampNeg) + x2) 200 ∧ (
            Q (σ_1.1 134 ((σ_1.1 140 x1.toNatClampNeg) + x2).toNatClampNeg) σ_1)))))
set_option maxRecDepth 20000 in
set_option maxHeartbeats 4000000 in
theorem m_X10_letterOf (G : tzG) (hG : tz_ok G) {x1 : Int32} {x2 : Int32}  {σ : tzS} {Q : Int32 → tzS → Prop} (h : vc_X10_letterOf x1 x2 σ Q) : tz_M G yX10_letterOf cX10_letterOf 3 (some .int) 1 22 [.ref 133, .int x1, .int x2] σ (tz_Qi G Q) := by
  unfold vc_X10_letterOf at h
  refine tz_starti hG RX10 [(0, .ref _), (1, .int x1), (2, .int x2)] (by decide) rfl (Nat.le_of_ble_eq_true rfl) rfl (fun E C hret => ?_)
  refine tz_iload_n 2 2 C dX10_letterOf_0 rfl rfl ?_
  refine tz_iconst 0 (by decide) C dX10_letterOf_1 ?_
  refine tz_aload_n 0 0 C dX10_letterOf_2 rfl rfl ?_
  refine tz_getR C dX10_letterOf_3 fl_RX10_31 (by decide) rfl rfl ?_
  refine tz_iload_n 1 1 C dX10_letterOf_6 rfl rfl ?_
  obtain ⟨hin, h⟩ := h
  refine tz_iald C dX10_letterOf_7 (by decide) rfl hin ?_
  refine tz_iconst 1 (by decide) C dX10_letterOf_8 ?_
  refine tz_isub C dX10_letterOf_9 ?_
  refine tz_callis C dX10_letterOf_10 lk_RX10_77 (m_X10_in G hG  h) rfl ⟨Nat.le_of_ble_eq_true rfl, Nat.le_of_ble_eq_true rfl⟩ (Nat.le_of_ble_eq_true rfl) rfl (fun r_2 σ_1 h => ?_)
  refine tz_if_eq 32 C dX10_letterOf_13 (by decide) h (fun h => ?_) (fun h => ?_)
  · refine tz_bipush (-2) (by decide) C dX10_letterOf_32 ?_
    exact hret _ _ _ _ dX10_letterOf_34 h
  · refine tz_aload_n 0 0 C dX10_letterOf_16 rfl rfl ?_
    refine tz_getR C dX10_letterOf_17 fl_RX10_7 (by decide) rfl rfl ?_
    refine tz_aload_n 0 0 C dX10_letterOf_20 rfl rfl ?_
    refine tz_getR C dX10_letterOf_21 fl_RX10_28 (by decide) rfl rfl ?_
    refine tz_iload_n 1 1 C dX10_letterOf_24 rfl rfl ?_
    obtain ⟨hin, h⟩ := h
    refine tz_iald C dX10_letterOf_25 (by decide) rfl hin ?_
    refine tz_iload_n 2 2 C dX10_letterOf_26 rfl rfl ?_
    refine tz_iadd C dX10_letterOf_27 ?_
    obtain ⟨hin, h⟩ := h
    refine tz_iald C dX10_letterOf_28 (by decide) rfl hin ?_
    refine tz_goto 34 C dX10_letterOf_29 (by decide) ?_
    exact hret _ _ _ _ dX10_letterOf_34 h

def vc_X10_letter (x1 : Int32) (x2 : Int32) (σ : tzS) (Q : Int32 → tzS → Prop) : Prop :=
  vc_X10_isStem x1 σ (fun (r_2 : Int32) (σ_1 : tzS) =>
    (r_2 = 0 →
      Q (-2) σ_1) ∧
    (¬ r_2 = 0 →
      vc_X10_letterOf x1 x2 σ_1 (fun (r_4 : Int32) (σ_3 : tzS) =>
        Q r_4 σ_3)))
set_option maxRecDepth 20000 in
set_option maxHeartbeats 4000000 in
theorem m_X10_letter (G : tzG) (hG : tz_ok G) {x1 : Int32} {x2 : Int32}  {σ : tzS} {Q : Int32 → tzS → Prop} (h : vc_X10_letter x1 x2 σ Q) : tz_M G yX10_letter cX10_letter 3 (some .int) 5 116 [.ref 133, .int x1, .int x2] σ (tz_Qi G Q) := by
  unfold vc_X10_letter at h
  refine tz_starti hG RX10 [(0, .ref _), (1, .int x1), (2, .int x2)] (by decide) rfl (Nat.le_of_ble_eq_true rfl) rfl (fun E C hret => ?_)
  refine tz_aload_n 0 0 C dX10_letter_0 rfl rfl ?_
  refine tz_iload_n 1 1 C dX10_letter_1 rfl rfl ?_
  refine tz_calliv C dX10_letter_2 lk_RX10_175 (m_X10_isStem G hG  h) (by decide) rfl rfl rfl rfl ⟨Nat.le_of_ble_eq_true rfl, Nat.le_of_ble_eq_true rfl⟩ (Nat.le_of_ble_eq_true rfl) rfl (fun r_2 σ_1 h => ?_)
  refine tz_if_eq 17 C dX10_letter_5 (by decide) h (fun h => ?_) (fun h => ?_)
  · refine tz_bipush (-2) (by decide) C dX10_letter_17 ?_
    exact hret _ _ _ _ dX10_letter_19 h
  · refine tz_aload_n 0 0 C dX10_letter_8 rfl rfl ?_
    refine tz_iload_n 1 1 C dX10_letter_9 rfl rfl ?_
    refine tz_iload_n 2 2 C dX10_letter_10 rfl rfl ?_
    refine tz_calliv C dX10_letter_11 lk_RX10_181 (m_X10_letterOf G hG  h) (by decide) rfl rfl rfl rfl ⟨Nat.le_of_ble_eq_true rfl, Nat.le_of_ble_eq_true rfl⟩ (Nat.le_of_ble_eq_true rfl) rfl (fun r_4 σ_3 h => ?_)
    refine tz_goto 19 C dX10_letter_14 (by decide) ?_
    exact hret _ _ _ _ dX10_letter_19 h

def vc_X10_ends (x1 : Int32) (x2 : Int32) (x3 : Int32) (x4 : Int32) (σ : tzS) (Q : tzS → Prop) : Prop :=
  (x4 ≤ 1 →
    Q σ) ∧
  (¬ x4 ≤ 1 →
    vp_in (σ.1 133 22) 110 ∧ (
      ∀ σ_1 : tzS, σ_1 = tz_st σ 144 (σ.1 133 22).toNatClampNeg x1 →
      vp_in (σ_1.1 133 22) 110 ∧ (
        ∀ σ_2 : tzS, σ_2 = tz_st σ_1 145 (σ_1.1 133 22).toNatClampNeg x2 →
        vp_in (σ_2.1 133 22) 110 ∧ (
          ∀ σ_3 : tzS, σ_3 = tz_st σ_2 146 (σ_2.1 133 22).toNatClampNeg x3 →
          vp_in (σ_3.1 133 22) 110 ∧ (
            ∀ σ_4 : tzS, σ_4 = tz_st σ_3 147 (σ_3.1 133 22).toNatClampNeg x4 →
            ∀ σ_5 : tzS, σ_5 = tz_st σ_4 133 22 ((σ_4.1 133 22) + 1) →
            Q σ_5)))))
set_option maxRecDepth 20000 in
set_option maxHeartbeats 4000000 in
theorem m_X10_ends (G : tzG) (hG : tz_ok G) {x1 : Int32} {x2 : Int32} {x3 : Int32} {x4 : Int32}  {σ : tzS} {Q : tzS → Prop} (h : vc_X10_ends x1 x2 x3 x4 σ Q) : tz_M G yX10_ends cX10_ends 5 (none) 0 0 [.ref 133, .int x1, .int x2, .int x3, .int x4] σ (tz_Qv G Q) := by
  unfold vc_X10_ends at h
  refine tz_startv hG RX10 [(0, .ref _), (1, .int x1), (2, .int x2), (3, .int x3), (4, .int x4)] (by decide) rfl (Nat.le_of_ble_eq_true rfl) rfl (fun E C hret => ?_)
  refine tz_iload 4 C dX10_ends_0 rfl ?_
  refine tz_iconst 1 (by decide) C dX10_ends_2 ?_
  refine tz_icmp_le 57 C dX10_ends_3 (by decide) h (fun h => ?_) (fun h => ?_)
  · exact hret _ _ _ dX10_ends_57 h
  · refine tz_aload_n 0 0 C dX10_ends_6 rfl rfl ?_
    refine tz_getR C dX10_ends_7 fl_RX10_40 (by decide) rfl rfl ?_
    refine tz_aload_n 0 0 C dX10_ends_10 rfl rfl ?_
    refine tz_getI C dX10_ends_11 fl_RX10_184 (by decide) rfl rfl ?_
    refine tz_iload_n 1 1 C dX10_ends_14 rfl rfl ?_
    refine tz_iast C dX10_ends_15 (by decide) rfl h (fun σ_1 h => ?_)
    refine tz_aload_n 0 0 C dX10_ends_16 rfl rfl ?_
    refine tz_getR C dX10_ends_17 fl_RX10_43 (by decide) rfl rfl ?_
    refine tz_aload_n 0 0 C dX10_ends_20 rfl rfl ?_
    refine tz_getI C dX10_ends_21 fl_RX10_184 (by decide) rfl rfl ?_
    refine tz_iload_n 2 2 C dX10_ends_24 rfl rfl ?_
    refine tz_iast C dX10_ends_25 (by decide) rfl h (fun σ_2 h => ?_)
    refine tz_aload_n 0 0 C dX10_ends_26 rfl rfl ?_
    refine tz_getR C dX10_ends_27 fl_RX10_46 (by decide) rfl rfl ?_
    refine tz_aload_n 0 0 C dX10_ends_30 rfl rfl ?_
    refine tz_getI C dX10_ends_31 fl_RX10_184 (by decide) rfl rfl ?_
    refine tz_iload_n 3 3 C dX10_ends_34 rfl rfl ?_
    refine tz_iast C dX10_ends_35 (by decide) rfl h (fun σ_3 h => ?_)
    refine tz_aload_n 0 0 C dX10_ends_36 rfl rfl ?_
    refine tz_getR C dX10_ends_37 fl_RX10_49 (by decide) rfl rfl ?_
    refine tz_aload_n 0 0 C dX10_ends_40 rfl rfl ?_
    refine tz_getI C dX10_ends_41 fl_RX10_184 (by decide) rfl rfl ?_
    refine tz_iload 4 C dX10_ends_44 rfl ?_
    refine tz_iast C dX10_ends_46 (by decide) rfl h (fun σ_4 h => ?_)
    refine tz_aload_n 0 0 C dX10_ends_47 rfl rfl ?_
    refine tz_dup C dX10_ends_48 rfl ?_
    refine tz_getI C dX10_ends_49 fl_RX10_184 (by decide) rfl rfl ?_
    refine tz_iconst 1 (by decide) C dX10_ends_52 ?_
    refine tz_iadd C dX10_ends_53 ?_
    refine tz_put C dX10_ends_54 fp_RX10_184 (by decide) rfl rfl rfl rfl h (fun σ_5 h => ?_)
    exact hret _ _ _ dX10_ends_57 h

def vc_X10_findsChains  (σ : tzS) (Q : tzS → Prop) : Prop :=
  vc_X10_reads  σ (fun (σ_1 : tzS) =>
    ∀ σ_2 : tzS, σ_2 = tz_st σ_1 133 22 0 →
    tz_loop1 (fun (x1_5 : Int32) (σ_4 : tzS) (ag_3 : Int32 → tzS → Prop) =>
      ((σ_4.1 133 9) ≤ x1_5 →
        Q σ_4) ∧
      (¬ (σ_4.1 133 9) ≤ x1_5 →
        tz_loop4 (fun (x2_8 : Int32) (x3_9 : Int32) (x4_10 : Int32) (x5_11 : Int32) (σ_7 : tzS) (ag_6 : Int32 → Int32 → Int32 → Int32 → tzS → Prop) =>
          ((σ_7.1 133 7) ≤ x5_11 →
            vc_X10_ends x1_5 x2_8 x3_9 x4_10 σ_7 (fun (σ_12 : tzS) =>
              ∀ x1_13 : Int32, x1_13 = x1_5 + 1 →
              ag_3 x1_13 σ_12)) ∧
          (¬ (σ_7.1 133 7) ≤ x5_11 →
            vp_in ((110 * x5_11) + x1_5) 1320 ∧ (
              ∀ x6_14 : Int32, x6_14 = (σ_7.1 143 ((110 * x5_11) + x1_5).toNatClampNeg) →
              (x6_14 ≤ 0 →
                ∀ x5_15 : Int32, x5_15 = x5_11 + 1 →
                ag_6 x2_8 x3_9 x4_10 x5_15 σ_7) ∧
              (¬ x6_14 ≤ 0 →
                (x2_8 = (-1) →
                  (¬ x2_8 = (-1) →
                    ∀ x4_16 : Int32, x4_16 = (x4_10 + x6_14) →
                    ∀ x5_17 : Int32, x5_17 = x5_11 + 1 →
                    ag_6 x2_8 x5_11 x4_16 x5_17 σ_7) ∧
                  (x2_8 = (-1) →
                    ∀ x4_18 : Int32, x4_18 = (x4_10 + x6_14) →
                    ∀ x5_19 : Int32, x5_19 = x5_11 + 1 →
                    ag_6 x5_11 x5_11 x4_18 x5_19 σ_7)) ∧
                (¬ x2_8 = (-1) →
                  ((x5_11 - x3_9) ≤ (σ_7.1 135 2) →
                    (¬ x2_8 = (-1) →
                      ∀ x4_20 : Int32, x4_20 = (x4_10 + x6_14) →
                      ∀ x5_21 : Int32, x5_21 = x5_11 + 1 →
                      ag_6 x2_8 x5_11 x4_20 x5_21 σ_7) ∧
                    (x2_8 = (-1) →
                      ∀ x4_22 : Int32, x4_22 = (x4_10 + x6_14) →
                      ∀ x5_23 : Int32, x5_23 = x5_11 + 1 →
                      ag_6 x5_11 x5_11 x4_22 x5_23 σ_7)) ∧
                  (¬ (x5_11 - x3_9) ≤ (σ_7.1 135 2) →
                    vc_X10_ends x1_5 x2_8 x3_9 x4_10 σ_7 (fun (σ_24 : tzS) =>
                      ∀ x4_25 : Int32, x4_25 = (0 + x6_14) →
                      ∀ x5_26 : Int32, x5_26 = x5_11 + 1 →
                      ag_6 x5_11 x5_11 x4_25 x5_26 σ_24))))))) ((-1) : Int32) ((-1) : Int32) (0 : Int32) (0 : Int32) σ_4)) (0 : Int32) σ_2)
set_option maxRecDepth 20000 in
set_option maxHeartbeats 4000000 in
theorem m_X10_findsChains (G : tzG) (hG : tz_ok G)   {σ : tzS} {Q : tzS → Prop} (h : vc_X10_findsChains  σ Q) : tz_M G yX10_findsChains cX10_findsChains 7 (none) 4 95 [.ref 133] σ (tz_Qv G Q) := by
  unfold vc_X10_findsChains at h
  refine tz_startv hG RX10 [(0, .ref _)] (by decide) rfl (Nat.le_of_ble_eq_true rfl) rfl (fun E C hret => ?_)
  refine tz_aload_n 0 0 C dX10_findsChains_0 rfl rfl ?_
  refine tz_callvv C dX10_findsChains_1 lk_RX10_147 (m_X10_reads G hG  h) (by decide) rfl rfl rfl rfl ⟨Nat.le_of_ble_eq_true rfl, Nat.le_of_ble_eq_true rfl⟩ (Nat.le_of_ble_eq_true rfl) rfl (fun σ_1 h => ?_)
  refine tz_aload_n 0 0 C dX10_findsChains_4 rfl rfl ?_
  refine tz_iconst 0 (by decide) C dX10_findsChains_5 ?_
  refine tz_put C dX10_findsChains_6 fp_RX10_184 (by decide) rfl rfl rfl rfl h (fun σ_2 h => ?_)
  refine tz_iconst 0 (by decide) C dX10_findsChains_9 ?_
  refine tz_istore_n_k 1 [(0, .ref _)] C dX10_findsChains_10 rfl (Nat.le_of_ble_eq_true rfl) rfl ?_
  refine tz_sub (L := [(0, .ref _), (1, .int 0)]) ?_ [1, 0] rfl
  refine tz_loop1_w (V := fun (x1_5 : Int32) (σ_4 : tzS) => tz_V G E 11 [(0, .ref _), (1, .int x1_5)] [] σ_4) h (fun ag_3 ihag_3 x1_5 σ_4 h => ?_)
  refine tz_iload_n 1 1 C dX10_findsChains_11 rfl rfl ?_
  refine tz_aload_n 0 0 C dX10_findsChains_12 rfl rfl ?_
  refine tz_getI C dX10_findsChains_13 fl_RX10_135 (by decide) rfl rfl ?_
  refine tz_icmp_ge 132 C dX10_findsChains_16 (by decide) h (fun h => ?_) (fun h => ?_)
  · exact hret _ _ _ dX10_findsChains_132 h
  · refine tz_iconst (-1) (by decide) C dX10_findsChains_19 ?_
    refine tz_istore_n_k 2 [(0, .ref _), (1, .int x1_5)] C dX10_findsChains_20 rfl (Nat.le_of_ble_eq_true rfl) rfl ?_
    refine tz_iconst (-1) (by decide) C dX10_findsChains_21 ?_
    refine tz_istore_n_k 3 [(2, .int (-1)), (0, .ref _), (1, .int x1_5)] C dX10_findsChains_22 rfl (Nat.le_of_ble_eq_true rfl) rfl ?_
    refine tz_iconst 0 (by decide) C dX10_findsChains_23 ?_
    refine tz_istore_k [(3, .int (-1)), (2, .int (-1)), (0, .ref _), (1, .int x1_5)] C dX10_findsChains_24 (Nat.le_of_ble_eq_true rfl) rfl ?_
    refine tz_iconst 0 (by decide) C dX10_findsChains_26 ?_
    refine tz_istore_k [(4, .int 0), (3, .int (-1)), (2, .int (-1)), (0, .ref _), (1, .int x1_5)] C dX10_findsChains_27 (Nat.le_of_ble_eq_true rfl) rfl ?_
    refine tz_sub (L := [(0, .ref _), (1, .int x1_5), (2, .int (-1)), (3, .int (-1)), (4, .int 0), (5, .int 0)]) ?_ [4, 5, 3, 2, 1, 0] rfl
    refine tz_loop4_w (V := fun (x2_8 : Int32) (x3_9 : Int32) (x4_10 : Int32) (x5_11 : Int32) (σ_7 : tzS) => tz_V G E 29 [(0, .ref _), (1, .int x1_5), (2, .int x2_8), (3, .int x3_9), (4, .int x4_10), (5, .int x5_11)] [] σ_7) h (fun ag_6 ihag_6 x2_8 x3_9 x4_10 x5_11 σ_7 h => ?_)
    refine tz_iload 5 C dX10_findsChains_29 rfl ?_
    refine tz_aload_n 0 0 C dX10_findsChains_31 rfl rfl ?_
    refine tz_getI C dX10_findsChains_32 fl_RX10_109 (by decide) rfl rfl ?_
    refine tz_icmp_ge 117 C dX10_findsChains_35 (by decide) h (fun h => ?_) (fun h => ?_)
    · refine tz_aload_n 0 0 C dX10_findsChains_117 rfl rfl ?_
      refine tz_iload_n 1 1 C dX10_findsChains_118 rfl rfl ?_
      refine tz_iload_n 2 2 C dX10_findsChains_119 rfl rfl ?_
      refine tz_iload_n 3 3 C dX10_findsChains_120 rfl rfl ?_
      refine tz_iload 4 C dX10_findsChains_121 rfl ?_
      refine tz_callvv C dX10_findsChains_123 lk_RX10_187 (m_X10_ends G hG  h) (by decide) rfl rfl rfl rfl ⟨Nat.le_of_ble_eq_true rfl, Nat.le_of_ble_eq_true rfl⟩ (Nat.le_of_ble_eq_true rfl) rfl (fun σ_12 h => ?_)
      refine tz_iinc 1 [(0, .ref _), (2, .int x2_8), (3, .int x3_9), (4, .int x4_10), (5, .int x5_11)] 1 C dX10_findsChains_126 (by decide) rfl (Nat.le_of_ble_eq_true rfl) rfl h (fun x1_13 h => ?_)
      refine tz_goto 11 C dX10_findsChains_129 (by decide) ?_
      exact tz_sub (ihag_3 _ _ h) [1, 0] rfl
    · refine tz_aload_n 0 0 C dX10_findsChains_38 rfl rfl ?_
      refine tz_getR C dX10_findsChains_39 fl_RX10_37 (by decide) rfl rfl ?_
      refine tz_bipush 110 (by decide) C dX10_findsChains_42 ?_
      refine tz_iload 5 C dX10_findsChains_44 rfl ?_
      refine tz_imul C dX10_findsChains_46 ?_
      refine tz_iload_n 1 1 C dX10_findsChains_47 rfl rfl ?_
      refine tz_iadd C dX10_findsChains_48 ?_
      obtain ⟨hin, h⟩ := h
      refine tz_iald C dX10_findsChains_49 (by decide) rfl hin ?_
      refine tz_istore [(0, .ref _), (1, .int x1_5), (2, .int x2_8), (3, .int x3_9), (4, .int x4_10), (5, .int x5_11)] C dX10_findsChains_50 (Nat.le_of_ble_eq_true rfl) rfl h (fun x6_14 h => ?_)
      refine tz_iload 0 C dX10_findsChains_52 rfl ?_
      refine tz_if_le 111 C dX10_findsChains_54 (by decide) h (fun h => ?_) (fun h => ?_)
      · refine tz_iinc 6 [(6, .int x6_14), (0, .ref _), (1, .int x1_5), (2, .int x2_8), (3, .int x3_9), (4, .int x4_10)] 1 C dX10_findsChains_111 (by decide) rfl (Nat.le_of_ble_eq_true rfl) rfl h (fun x5_15 h => ?_)
        refine tz_goto 29 C dX10_findsChains_114 (by decide) ?_
        exact tz_sub (ihag_6 _ _ _ _ _ h) [2, 3, 4, 5, 6, 0] rfl
      · refine tz_iload_n 2 3 C dX10_findsChains_57 rfl rfl ?_
        refine tz_iconst (-1) (by decide) C dX10_findsChains_58 ?_
        refine tz_icmp_eq 89 C dX10_findsChains_59 (by decide) h (fun h => ?_) (fun h => ?_)
        · refine tz_iload_n 2 3 C dX10_findsChains_89 rfl rfl ?_
          refine tz_iconst (-1) (by decide) C dX10_findsChains_90 ?_
          refine tz_icmp_ne 99 C dX10_findsChains_91 (by decide) h (fun h => ?_) (fun h => ?_)
          · refine tz_iload_n 2 3 C dX10_findsChains_99 rfl rfl ?_
            refine tz_istore_n_k 2 [(6, .int x6_14), (0, .ref _), (1, .int x1_5), (3, .int x3_9), (4, .int x4_10), (5, .int x5_11)] C dX10_findsChains_100 rfl (Nat.le_of_ble_eq_true rfl) rfl ?_
            refine tz_iload 6 C dX10_findsChains_101 rfl ?_
            refine tz_istore_n_k 3 [(2, .int x2_8), (6, .int x6_14), (0, .ref _), (1, .int x1_5), (4, .int x4_10), (5, .int x5_11)] C dX10_findsChains_103 rfl (Nat.le_of_ble_eq_true rfl) rfl ?_
            refine tz_iload 5 C dX10_findsChains_104 rfl ?_
            refine tz_iload 2 C dX10_findsChains_106 rfl ?_
            refine tz_iadd C dX10_findsChains_108 ?_
            refine tz_istore [(3, .int x5_11), (2, .int x2_8), (6, .int x6_14), (0, .ref _), (1, .int x1_5), (5, .int x5_11)] C dX10_findsChains_109 (Nat.le_of_ble_eq_true rfl) rfl h (fun x4_16 h => ?_)
            refine tz_iinc 6 [(4, .int x4_16), (3, .int x5_11), (2, .int x2_8), (6, .int x6_14), (0, .ref _), (1, .int x1_5)] 1 C dX10_findsChains_111 (by decide) rfl (Nat.le_of_ble_eq_true rfl) rfl h (fun x5_17 h => ?_)
            refine tz_goto 29 C dX10_findsChains_114 (by decide) ?_
            exact tz_sub (ihag_6 _ _ _ _ _ h) [5, 6, 3, 2, 1, 0] rfl
          · refine tz_iload 6 C dX10_findsChains_94 rfl ?_
            refine tz_goto 100 C dX10_findsChains_96 (by decide) ?_
            refine tz_istore_n_k 2 [(6, .int x6_14), (0, .ref _), (1, .int x1_5), (3, .int x3_9), (4, .int x4_10), (5, .int x5_11)] C dX10_findsChains_100 rfl (Nat.le_of_ble_eq_true rfl) rfl ?_
            refine tz_iload 6 C dX10_findsChains_101 rfl ?_
            refine tz_istore_n_k 3 [(2, .int x5_11), (6, .int x6_14), (0, .ref _), (1, .int x1_5), (4, .int x4_10), (5, .int x5_11)] C dX10_findsChains_103 rfl (Nat.le_of_ble_eq_true rfl) rfl ?_
            refine tz_iload 5 C dX10_findsChains_104 rfl ?_
            refine tz_iload 2 C dX10_findsChains_106 rfl ?_
            refine tz_iadd C dX10_findsChains_108 ?_
            refine tz_istore [(3, .int x5_11), (2, .int x5_11), (6, .int x6_14), (0, .ref _), (1, .int x1_5), (5, .int x5_11)] C dX10_findsChains_109 (Nat.le_of_ble_eq_true rfl) rfl h (fun x4_18 h => ?_)
            refine tz_iinc 6 [(4, .int x4_18), (3, .int x5_11), (2, .int x5_11), (6, .int x6_14), (0, .ref _), (1, .int x1_5)] 1 C dX10_findsChains_111 (by decide) rfl (Nat.le_of_ble_eq_true rfl) rfl h (fun x5_19 h => ?_)
            refine tz_goto 29 C dX10_findsChains_114 (by decide) ?_
            exact tz_sub (ihag_6 _ _ _ _ _ h) [5, 6, 3, 2, 1, 0] rfl
        · refine tz_iload 6 C dX10_findsChains_62 rfl ?_
          refine tz_iload_n 3 4 C dX10_findsChains_64 rfl rfl ?_
          refine tz_isub C dX10_findsChains_65 ?_
          refine tz_aload_n 0 1 C dX10_findsChains_66 rfl rfl ?_
          refine tz_getR C dX10_findsChains_67 fl_RX10_13 (by decide) rfl rfl ?_
          refine tz_iconst 2 (by decide) C dX10_findsChains_70 ?_
          refine tz_iald_c 2 C dX10_findsChains_71 (by decide) rfl (tz_inl rfl) rfl ?_
          refine tz_icmp_le 89 C dX10_findsChains_72 (by decide) h (fun h => ?_) (fun h => ?_)
          · refine tz_iload_n 2 3 C dX10_findsChains_89 rfl rfl ?_
            refine tz_iconst (-1) (by decide) C dX10_findsChains_90 ?_
            refine tz_icmp_ne 99 C dX10_findsChains_91 (by decide) h (fun h => ?_) (fun h => ?_)
            · refine tz_iload_n 2 3 C dX10_findsChains_99 rfl rfl ?_
              refine tz_istore_n_k 2 [(6, .int x6_14), (0, .ref _), (1, .int x1_5), (3, .int x3_9), (4, .int x4_10), (5, .int x5_11)] C dX10_findsChains_100 rfl (Nat.le_of_ble_eq_true rfl) rfl ?_
              refine tz_iload 6 C dX10_findsChains_101 rfl ?_
              refine tz_istore_n_k 3 [(2, .int x2_8), (6, .int x6_14), (0, .ref _), (1, .int x1_5), (4, .int x4_10), (5, .int x5_11)] C dX10_findsChains_103 rfl (Nat.le_of_ble_eq_true rfl) rfl ?_
              refine tz_iload 5 C dX10_findsChains_104 rfl ?_
              refine tz_iload 2 C dX10_findsChains_106 rfl ?_
              refine tz_iadd C dX10_findsChains_108 ?_
              refine tz_istore [(3, .int x5_11), (2, .int x2_8), (6, .int x6_14), (0, .ref _), (1, .int x1_5), (5, .int x5_11)] C dX10_findsChains_109 (Nat.le_of_ble_eq_true rfl) rfl h (fun x4_20 h => ?_)
              refine tz_iinc 6 [(4, .int x4_20), (3, .int x5_11), (2, .int x2_8), (6, .int x6_14), (0, .ref _), (1, .int x1_5)] 1 C dX10_findsChains_111 (by decide) rfl (Nat.le_of_ble_eq_true rfl) rfl h (fun x5_21 h => ?_)
              refine tz_goto 29 C dX10_findsChains_114 (by decide) ?_
              exact tz_sub (ihag_6 _ _ _ _ _ h) [5, 6, 3, 2, 1, 0] rfl
            · refine tz_iload 6 C dX10_findsChains_94 rfl ?_
              refine tz_goto 100 C dX10_findsChains_96 (by decide) ?_
              refine tz_istore_n_k 2 [(6, .int x6_14), (0, .ref _), (1, .int x1_5), (3, .int x3_9), (4, .int x4_10), (5, .int x5_11)] C dX10_findsChains_100 rfl (Nat.le_of_ble_eq_true rfl) rfl ?_
              refine tz_iload 6 C dX10_findsChains_101 rfl ?_
              refine tz_istore_n_k 3 [(2, .int x5_11), (6, .int x6_14), (0, .ref _), (1, .int x1_5), (4, .int x4_10), (5, .int x5_11)] C dX10_findsChains_103 rfl (Nat.le_of_ble_eq_true rfl) rfl ?_
              refine tz_iload 5 C dX10_findsChains_104 rfl ?_
              refine tz_iload 2 C dX10_findsChains_106 rfl ?_
              refine tz_iadd C dX10_findsChains_108 ?_
              refine tz_istore [(3, .int x5_11), (2, .int x5_11), (6, .int x6_14), (0, .ref _), (1, .int x1_5), (5, .int x5_11)] C dX10_findsChains_109 (Nat.le_of_ble_eq_true rfl) rfl h (fun x4_22 h => ?_)
              refine tz_iinc 6 [(4, .int x4_22), (3, .int x5_11), (2, .int x5_11), (6, .int x6_14), (0, .ref _), (1, .int x1_5)] 1 C dX10_findsChains_111 (by decide) rfl (Nat.le_of_ble_eq_true rfl) rfl h (fun x5_23 h => ?_)
              refine tz_goto 29 C dX10_findsChains_114 (by decide) ?_
              exact tz_sub (ihag_6 _ _ _ _ _ h) [5, 6, 3, 2, 1, 0] rfl
          · refine tz_aload_n 0 1 C dX10_findsChains_75 rfl rfl ?_
            refine tz_iload_n 1 2 C dX10_findsChains_76 rfl rfl ?_
            refine tz_iload_n 2 3 C dX10_findsChains_77 rfl rfl ?_
            refine tz_iload_n 3 4 C dX10_findsChains_78 rfl rfl ?_
            refine tz_iload 5 C dX10_findsChains_79 rfl ?_
            refine tz_callvv C dX10_findsChains_81 lk_RX10_187 (m_X10_ends G hG  h) (by decide) rfl rfl rfl rfl ⟨Nat.le_of_ble_eq_true rfl, Nat.le_of_ble_eq_true rfl⟩ (Nat.le_of_ble_eq_true rfl) rfl (fun σ_24 h => ?_)
            refine tz_iconst (-1) (by decide) C dX10_findsChains_84 ?_
            refine tz_istore_n_k 2 [(6, .int x6_14), (0, .ref _), (1, .int x1_5), (3, .int x3_9), (4, .int x4_10), (5, .int x5_11)] C dX10_findsChains_85 rfl (Nat.le_of_ble_eq_true rfl) rfl ?_
            refine tz_iconst 0 (by decide) C dX10_findsChains_86 ?_
            refine tz_istore_k [(2, .int (-1)), (6, .int x6_14), (0, .ref _), (1, .int x1_5), (3, .int x3_9), (5, .int x5_11)] C dX10_findsChains_87 (Nat.le_of_ble_eq_true rfl) rfl ?_
            refine tz_iload_n 2 1 C dX10_findsChains_89 rfl rfl ?_
            refine tz_iconst (-1) (by decide) C dX10_findsChains_90 ?_
            refine tz_icmp_ne_f 99 C dX10_findsChains_91 (by decide) (by decide) ?_
            refine tz_iload 6 C dX10_findsChains_94 rfl ?_
            refine tz_goto 100 C dX10_findsChains_96 (by decide) ?_
            refine tz_istore_n_k 2 [(4, .int 0), (6, .int x6_14), (0, .ref _), (1, .int x1_5), (3, .int x3_9), (5, .int x5_11)] C dX10_findsChains_100 rfl (Nat.le_of_ble_eq_true rfl) rfl ?_
            refine tz_iload 6 C dX10_findsChains_101 rfl ?_
            refine tz_istore_n_k 3 [(2, .int x5_11), (4, .int 0), (6, .int x6_14), (0, .ref _), (1, .int x1_5), (5, .int x5_11)] C dX10_findsChains_103 rfl (Nat.le_of_ble_eq_true rfl) rfl ?_
            refine tz_iload 2 C dX10_findsChains_104 rfl ?_
            refine tz_iload 3 C dX10_findsChains_106 rfl ?_
            refine tz_iadd C dX10_findsChains_108 ?_
            refine tz_istore [(3, .int x5_11), (2, .int x5_11), (6, .int x6_14), (0, .ref _), (1, .int x1_5), (5, .int x5_11)] C dX10_findsChains_109 (Nat.le_of_ble_eq_true rfl) rfl h (fun x4_25 h => ?_)
            refine tz_iinc 6 [(4, .int x4_25), (3, .int x5_11), (2, .int x5_11), (6, .int x6_14), (0, .ref _), (1, .int x1_5)] 1 C dX10_findsChains_111 (by decide) rfl (Nat.le_of_ble_eq_true rfl) rfl h (fun x5_26 h => ?_)
            refine tz_goto 29 C dX10_findsChains_114 (by decide) ?_
            exact tz_sub (ihag_6 _ _ _ _ _ h) [5, 6, 3, 2, 1, 0] rfl

def vc_X10_chainsOf  (σ : tzS) (Q : Int32 → tzS → Prop) : Prop :=
  vc_X10_findsChains  σ (fun (σ_1 : tzS) =>
    Q (σ_1.1 133 22) σ_1)
set_option maxRecDepth 20000 in
set_option maxHeartbeats 4000000 in
theorem m_X10_chainsOf (G : tzG) (hG : tz_ok G)   {σ : tzS} {Q : Int32 → tzS → Prop} (h : vc_X10_chainsOf  σ Q) : tz_M G yX10_chainsOf cX10_chainsOf 1 (some .int) 5 121 [.ref 133] σ (tz_Qi G Q) := by
  unfold vc_X10_chainsOf at h
  refine tz_starti hG RX10 [(0, .ref _)] (by decide) rfl (Nat.le_of_ble_eq_true rfl) rfl (fun E C hret => ?_)
  refine tz_aload_n 0 0 C dX10_chainsOf_0 rfl rfl ?_
  refine tz_callvv C dX10_chainsOf_1 lk_RX10_191 (m_X10_findsChains G hG  h) (by decide) rfl rfl rfl rfl ⟨Nat.le_of_ble_eq_true rfl, Nat.le_of_ble_eq_true rfl⟩ (Nat.le_of_ble_eq_true rfl) rfl (fun σ_1 h => ?_)
  refine tz_aload_n 0 0 C dX10_chainsOf_4 rfl rfl ?_
  refine tz_getI C dX10_chainsOf_5 fl_RX10_184 (by decide) rfl rfl ?_
  exact hret _ _ _ _ dX10_chainsOf_8 h

def vc_X10_chains  (σ : tzS) (Q : Int32 → tzS → Prop) : Prop :=
  vc_X10_chainsOf  σ (fun (r_2 : Int32) (σ_1 : tzS) =>
    Q r_2 σ_1)
set_option maxRecDepth 20000 in
set_option maxHeartbeats 4000000 in
theorem m_X10_chains (G : tzG) (hG : tz_ok G)   {σ : tzS} {Q : Int32 → tzS → Prop} (h : vc_X10_chains  σ Q) : tz_M G yX10_chains cX10_chains 1 (some .int) 6 141 [.ref 133] σ (tz_Qi G Q) := by
  unfold vc_X10_chains at h
  refine tz_starti hG RX10 [(0, .ref _)] (by decide) rfl (Nat.le_of_ble_eq_true rfl) rfl (fun E C hret => ?_)
  refine tz_aload_n 0 0 C dX10_chains_0 rfl rfl ?_
  refine tz_calliv C dX10_chains_1 lk_RX10_194 (m_X10_chainsOf G hG  h) (by decide) rfl rfl rfl rfl ⟨Nat.le_of_ble_eq_true rfl, Nat.le_of_ble_eq_true rfl⟩ (Nat.le_of_ble_eq_true rfl) rfl (fun r_2 σ_1 h => ?_)
  exact hret _ _ _ _ dX10_chains_4 h

def vc_X10_weight (x1 : Int32) (σ : tzS) (Q : Int32 → tzS → Prop) : Prop :=
  vp_in x1 110 ∧ (
    vp_in x1 110 ∧ (
      vp_in x1 110 ∧ (
        Q ((σ.1 147 x1.toNatClampNeg) * (((σ.1 146 x1.toNatClampNeg) - (σ.1 145 x1.toNatClampNeg)) + 1)) σ)))
set_option maxRecDepth 20000 in
set_option maxHeartbeats 4000000 in
theorem m_X10_weight (G : tzG) (hG : tz_ok G) {x1 : Int32}  {σ : tzS} {Q : Int32 → tzS → Prop} (h : vc_X10_weight x1 σ Q) : tz_M G yX10_weight cX10_weight 2 (some .int) 0 0 [.ref 133, .int x1] σ (tz_Qi G Q) := by
  unfold vc_X10_weight at h
  refine tz_starti hG RX10 [(0, .ref _), (1, .int x1)] (by decide) rfl (Nat.le_of_ble_eq_true rfl) rfl (fun E C hret => ?_)
  refine tz_aload_n 0 0 C dX10_weight_0 rfl rfl ?_
  refine tz_getR C dX10_weight_1 fl_RX10_49 (by decide) rfl rfl ?_
  refine tz_iload_n 1 1 C dX10_weight_4 rfl rfl ?_
  obtain ⟨hin, h⟩ := h
  refine tz_iald C dX10_weight_5 (by decide) rfl hin ?_
  refine tz_aload_n 0 0 C dX10_weight_6 rfl rfl ?_
  refine tz_getR C dX10_weight_7 fl_RX10_46 (by decide) rfl rfl ?_
  refine tz_iload_n 1 1 C dX10_weight_10 rfl rfl ?_
  obtain ⟨hin, h⟩ := h
  refine tz_iald C dX10_weight_11 (by decide) rfl hin ?_
  refine tz_aload_n 0 0 C dX10_weight_12 rfl rfl ?_
  refine tz_getR C dX10_weight_13 fl_RX10_43 (by decide) rfl rfl ?_
  refine tz_iload_n 1 1 C dX10_weight_16 rfl rfl ?_
  obtain ⟨hin, h⟩ := h
  refine tz_iald C dX10_weight_17 (by decide) rfl hin ?_
  refine tz_isub C dX10_weight_18 ?_
  refine tz_iconst 1 (by decide) C dX10_weight_19 ?_
  refine tz_iadd C dX10_weight_20 ?_
  refine tz_imul C dX10_weight_21 ?_
  exact hret _ _ _ _ dX10_weight_22 h

def vc_X10_chainOf (x1 : Int32) (x2 : Int32) (σ : tzS) (Q : Int32 → tzS → Prop) : Prop :=
  vc_X10_findsChains  σ (fun (σ_1 : tzS) =>
    (x1 < (σ_1.1 133 22) →
      (x2 = 0 →
        vp_in x1 110 ∧ (
          Q (σ_1.1 144 x1.toNatClampNeg) σ_1)) ∧
      (x2 = 1 →
        vp_in x1 110 ∧ (
          Q (σ_1.1 145 x1.toNatClampNeg) σ_1)) ∧
      (x2 = 2 →
        vp_in x1 110 ∧ (
          Q (σ_1.1 146 x1.toNatClampNeg) σ_1)) ∧
      (x2 = 3 →
        vp_in x1 110 ∧ (
          Q (σ_1.1 147 x1.toNatClampNeg) σ_1)) ∧
      (¬ x2 = 0 → ¬ x2 = 1 → ¬ x2 = 2 → ¬ x2 = 3 →
        vc_X10_weight x1 σ_1 (fun (r_3 : Int32) (σ_2 : tzS) =>
          Q r_3 σ_2))) ∧
    (¬ x1 < (σ_1.1 133 22) →
      Q (-1) σ_1))
set_option maxRecDepth 20000 in
set_option maxHeartbeats 4000000 in
theorem m_X10_chainOf (G : tzG) (hG : tz_ok G) {x1 : Int32} {x2 : Int32}  {σ : tzS} {Q : Int32 → tzS → Prop} (h : vc_X10_chainOf x1 x2 σ Q) : tz_M G yX10_chainOf cX10_chainOf 3 (some .int) 5 121 [.ref 133, .int x1, .int x2] σ (tz_Qi G Q) := by
  unfold vc_X10_chainOf at h
  refine tz_starti hG RX10 [(0, .ref _), (1, .int x1), (2, .int x2)] (by decide) rfl (Nat.le_of_ble_eq_true rfl) rfl (fun E C hret => ?_)
  refine tz_aload_n 0 0 C dX10_chainOf_0 rfl rfl ?_
  refine tz_callvv C dX10_chainOf_1 lk_RX10_191 (m_X10_findsChains G hG  h) (by decide) rfl rfl rfl rfl ⟨Nat.le_of_ble_eq_true rfl, Nat.le_of_ble_eq_true rfl⟩ (Nat.le_of_ble_eq_true rfl) rfl (fun σ_1 h => ?_)
  refine tz_iload_n 1 1 C dX10_chainOf_4 rfl rfl ?_
  refine tz_aload_n 0 0 C dX10_chainOf_5 rfl rfl ?_
  refine tz_getI C dX10_chainOf_6 fl_RX10_184 (by decide) rfl rfl ?_
  refine tz_icmp_lt 14 C dX10_chainOf_9 (by decide) h (fun h => ?_) (fun h => ?_)
  · refine tz_iload_n 2 2 C dX10_chainOf_14 rfl rfl ?_
    refine tz_swc 0 (29) 44 C dX10_chainOf_15 (by decide) (by decide) rfl (by decide) h (fun h => ?_) (fun e0 h => ?_)
    · refine tz_aload_n 0 0 C dX10_chainOf_44 rfl rfl ?_
      refine tz_getR C dX10_chainOf_45 fl_RX10_40 (by decide) rfl rfl ?_
      refine tz_iload_n 1 1 C dX10_chainOf_48 rfl rfl ?_
      obtain ⟨hin, h⟩ := h
      refine tz_iald C dX10_chainOf_49 (by decide) rfl hin ?_
      exact hret _ _ _ _ dX10_chainOf_50 h
    refine tz_swc 1 (36) 51 C dX10_chainOf_15 (by decide) (by decide) rfl (by decide) h (fun h => ?_) (fun e1 h => ?_)
    · refine tz_aload_n 0 0 C dX10_chainOf_51 rfl rfl ?_
      refine tz_getR C dX10_chainOf_52 fl_RX10_43 (by decide) rfl rfl ?_
      refine tz_iload_n 1 1 C dX10_chainOf_55 rfl rfl ?_
      obtain ⟨hin, h⟩ := h
      refine tz_iald C dX10_chainOf_56 (by decide) rfl hin ?_
      exact hret _ _ _ _ dX10_chainOf_57 h
    refine tz_swc 2 (43) 58 C dX10_chainOf_15 (by decide) (by decide) rfl (by decide) h (fun h => ?_) (fun e2 h => ?_)
    · refine tz_aload_n 0 0 C dX10_chainOf_58 rfl rfl ?_
      refine tz_getR C dX10_chainOf_59 fl_RX10_46 (by decide) rfl rfl ?_
      refine tz_iload_n 1 1 C dX10_chainOf_62 rfl rfl ?_
      obtain ⟨hin, h⟩ := h
      refine tz_iald C dX10_chainOf_63 (by decide) rfl hin ?_
      exact hret _ _ _ _ dX10_chainOf_64 h
    refine tz_swc 3 (50) 65 C dX10_chainOf_15 (by decide) (by decide) rfl (by decide) h (fun h => ?_) (fun e3 h => ?_)
    · refine tz_aload_n 0 0 C dX10_chainOf_65 rfl rfl ?_
      refine tz_getR C dX10_chainOf_66 fl_RX10_49 (by decide) rfl rfl ?_
      refine tz_iload_n 1 1 C dX10_chainOf_69 rfl rfl ?_
      obtain ⟨hin, h⟩ := h
      refine tz_iald C dX10_chainOf_70 (by decide) rfl hin ?_
      exact hret _ _ _ _ dX10_chainOf_71 h
    replace h := h e0 e1 e2 e3
    refine tz_tabOut 72 C dX10_chainOf_15 (tz_out3 e0 e1 e2 e3) (by decide) ?_
    refine tz_aload_n 0 0 C dX10_chainOf_72 rfl rfl ?_
    refine tz_iload_n 1 1 C dX10_chainOf_73 rfl rfl ?_
    refine tz_calliv C dX10_chainOf_74 lk_RX10_198 (m_X10_weight G hG  h) (by decide) rfl rfl rfl rfl ⟨Nat.le_of_ble_eq_true rfl, Nat.le_of_ble_eq_true rfl⟩ (Nat.le_of_ble_eq_true rfl) rfl (fun r_3 σ_2 h => ?_)
    exact hret _ _ _ _ dX10_chainOf_77 h
  · refine tz_iconst (-1) (by decide) C dX10_chainOf_12 ?_
    exact hret _ _ _ _ dX10_chainOf_13 h

def vc_X10_chain (x1 : Int32) (x2 : Int32) (σ : tzS) (Q : Int32 → tzS → Prop) : Prop :=
  vc_X10_in x1 0 99 σ (fun (r_2 : Int32) (σ_1 : tzS) =>
    (r_2 = 0 →
      Q (-2) σ_1) ∧
    (¬ r_2 = 0 →
      vc_X10_in x2 0 4 σ_1 (fun (r_4 : Int32) (σ_3 : tzS) =>
        (r_4 = 0 →
          Q (-2) σ_3) ∧
        (¬ r_4 = 0 →
          vc_X10_chainOf x1 x2 σ_3 (fun (r_6 : Int32) (σ_5 : tzS) =>
            Q r_6 σ_5)))))
set_option maxRecDepth 20000 in
set_option maxHeartbeats 4000000 in
theorem m_X10_chain (G : tzG) (hG : tz_ok G) {x1 : Int32} {x2 : Int32}  {σ : tzS} {Q : Int32 → tzS → Prop} (h : vc_X10_chain x1 x2 σ Q) : tz_M G yX10_chain cX10_chain 3 (some .int) 6 143 [.ref 133, .int x1, .int x2] σ (tz_Qi G Q) := by
  unfold vc_X10_chain at h
  refine tz_starti hG RX10 [(0, .ref _), (1, .int x1), (2, .int x2)] (by decide) rfl (Nat.le_of_ble_eq_true rfl) rfl (fun E C hret => ?_)
  refine tz_iload_n 1 1 C dX10_chain_0 rfl rfl ?_
  refine tz_iconst 0 (by decide) C dX10_chain_1 ?_
  refine tz_bipush 99 (by decide) C dX10_chain_2 ?_
  refine tz_callis C dX10_chain_4 lk_RX10_77 (m_X10_in G hG  h) rfl ⟨Nat.le_of_ble_eq_true rfl, Nat.le_of_ble_eq_true rfl⟩ (Nat.le_of_ble_eq_true rfl) rfl (fun r_2 σ_1 h => ?_)
  refine tz_if_eq 28 C dX10_chain_7 (by decide) h (fun h => ?_) (fun h => ?_)
  · refine tz_bipush (-2) (by decide) C dX10_chain_28 ?_
    exact hret _ _ _ _ dX10_chain_30 h
  · refine tz_iload_n 2 2 C dX10_chain_10 rfl rfl ?_
    refine tz_iconst 0 (by decide) C dX10_chain_11 ?_
    refine tz_iconst 4 (by decide) C dX10_chain_12 ?_
    refine tz_callis C dX10_chain_13 lk_RX10_77 (m_X10_in G hG  h) rfl ⟨Nat.le_of_ble_eq_true rfl, Nat.le_of_ble_eq_true rfl⟩ (Nat.le_of_ble_eq_true rfl) rfl (fun r_4 σ_3 h => ?_)
    refine tz_if_eq 28 C dX10_chain_16 (by decide) h (fun h => ?_) (fun h => ?_)
    · refine tz_bipush (-2) (by decide) C dX10_chain_28 ?_
      exact hret _ _ _ _ dX10_chain_30 h
    · refine tz_aload_n 0 0 C dX10_chain_19 rfl rfl ?_
      refine tz_iload_n 1 1 C dX10_chain_20 rfl rfl ?_
      refine tz_iload_n 2 2 C dX10_chain_21 rfl rfl ?_
      refine tz_calliv C dX10_chain_22 lk_RX10_201 (m_X10_chainOf G hG  h) (by decide) rfl rfl rfl rfl ⟨Nat.le_of_ble_eq_true rfl, Nat.le_of_ble_eq_true rfl⟩ (Nat.le_of_ble_eq_true rfl) rfl (fun r_6 σ_5 h => ?_)
      refine tz_goto 30 C dX10_chain_25 (by decide) ?_
      exact hret _ _ _ _ dX10_chain_30 h

def vc_X10_isGap (x1 : Int32) (σ : tzS) (Q : Int32 → tzS → Prop) : Prop :=
  vc_X10_reads  σ (fun (σ_1 : tzS) =>
    vc_X10_in x1 1 ((σ_1.1 133 7) - 1) σ_1 (fun (r_3 : Int32) (σ_2 : tzS) =>
      tz_bool r_3 ∧ Q r_3 σ_2))
set_option maxRecDepth 20000 in
set_option maxHeartbeats 4000000 in
theorem m_X10_isGap (G : tzG) (hG : tz_ok G) {x1 : Int32}  {σ : tzS} {Q : Int32 → tzS → Prop} (h : vc_X10_isGap x1 σ Q) : tz_M G yX10_isGap cX10_isGap 2 (some .boolean) 4 95 [.ref 133, .int x1] σ (tz_Qi G Q) := by
  unfold vc_X10_isGap at h
  refine tz_startz hG RX10 [(0, .ref _), (1, .int x1)] (by decide) rfl (Nat.le_of_ble_eq_true rfl) rfl (fun E C hret => ?_)
  refine tz_aload_n 0 0 C dX10_isGap_0 rfl rfl ?_
  refine tz_callvv C dX10_isGap_1 lk_RX10_147 (m_X10_reads G hG  h) (by decide) rfl rfl rfl rfl ⟨Nat.le_of_ble_eq_true rfl, Nat.le_of_ble_eq_true rfl⟩ (Nat.le_of_ble_eq_true rfl) rfl (fun σ_1 h => ?_)
  refine tz_iload_n 1 1 C dX10_isGap_4 rfl rfl ?_
  refine tz_iconst 1 (by decide) C dX10_isGap_5 ?_
  refine tz_aload_n 0 0 C dX10_isGap_6 rfl rfl ?_
  refine tz_getI C dX10_isGap_7 fl_RX10_109 (by decide) rfl rfl ?_
  refine tz_iconst 1 (by decide) C dX10_isGap_10 ?_
  refine tz_isub C dX10_isGap_11 ?_
  refine tz_callis C dX10_isGap_12 lk_RX10_77 (m_X10_in G hG  h) rfl ⟨Nat.le_of_ble_eq_true rfl, Nat.le_of_ble_eq_true rfl⟩ (Nat.le_of_ble_eq_true rfl) rfl (fun r_3 σ_2 h => ?_)
  exact hret _ _ _ _ dX10_isGap_15 (tz_narz h.1) h.2

def vc_X10_overOf (x1 : Int32) (x2 : Int32) (σ : tzS) (Q : Int32 → tzS → Prop) : Prop :=
  vc_X10_findsChains  σ (fun (σ_1 : tzS) =>
    tz_loop3 (fun (x3_4 : Int32) (x4_5 : Int32) (x5_6 : Int32) (σ_3 : tzS) (ag_2 : Int32 → Int32 → Int32 → tzS → Prop) =>
      ((σ_3.1 133 22) ≤ x5_6 →
        (¬ x2 = 0 →
          Q x4_5 σ_3) ∧
        (x2 = 0 →
          Q x3_4 σ_3)) ∧
      (¬ (σ_3.1 133 22) ≤ x5_6 →
        vp_in x5_6 110 ∧ (
          (x1 ≤ (σ_3.1 145 x5_6.toNatClampNeg) →
            ∀ x3_7 : Int32, x3_7 = (x3_4 + 0) →
            ∀ x4_8 : Int32, x4_8 = (x4_5 + 0) →
            ∀ x5_9 : Int32, x5_9 = x5_6 + 1 →
            ag_2 x3_7 x4_8 x5_9 σ_3) ∧
          (¬ x1 ≤ (σ_3.1 145 x5_6.toNatClampNeg) →
            vp_in x5_6 110 ∧ (
              ((σ_3.1 146 x5_6.toNatClampNeg) < x1 →
                ∀ x3_10 : Int32, x3_10 = (x3_4 + 0) →
                ∀ x4_11 : Int32, x4_11 = (x4_5 + 0) →
                ∀ x5_12 : Int32, x5_12 = x5_6 + 1 →
                ag_2 x3_10 x4_11 x5_12 σ_3) ∧
              (¬ (σ_3.1 146 x5_6.toNatClampNeg) < x1 →
                ∀ x3_13 : Int32, x3_13 = (x3_4 + 1) →
                vc_X10_weight x5_6 σ_3 (fun (r_15 : Int32) (σ_14 : tzS) =>
                  ∀ x4_16 : Int32, x4_16 = (x4_5 + r_15) →
                  ∀ x5_17 : Int32, x5_17 = x5_6 + 1 →
                  ag_2 x3_13 x4_16 x5_17 σ_14))))))) (0 : Int32) (0 : Int32) (0 : Int32) σ_1)
set_option maxRecDepth 20000 in
set_option maxHeartbeats 4000000 in
theorem m_X10_overOf (G : tzG) (hG : tz_ok G) {x1 : Int32} {x2 : Int32}  {σ : tzS} {Q : Int32 → tzS → Prop} (h : vc_X10_overOf x1 x2 σ Q) : tz_M G yX10_overOf cX10_overOf 7 (some .int) 5 121 [.ref 133, .int x1, .int x2] σ (tz_Qi G Q) := by
  unfold vc_X10_overOf at h
  refine tz_starti hG RX10 [(0, .ref _), (1, .int x1), (2, .int x2)] (by decide) rfl (Nat.le_of_ble_eq_true rfl) rfl (fun E C hret => ?_)
  refine tz_aload_n 0 0 C dX10_overOf_0 rfl rfl ?_
  refine tz_callvv C dX10_overOf_1 lk_RX10_191 (m_X10_findsChains G hG  h) (by decide) rfl rfl rfl rfl ⟨Nat.le_of_ble_eq_true rfl, Nat.le_of_ble_eq_true rfl⟩ (Nat.le_of_ble_eq_true rfl) rfl (fun σ_1 h => ?_)
  refine tz_iconst 0 (by decide) C dX10_overOf_4 ?_
  refine tz_istore_n_k 3 [(0, .ref _), (1, .int x1), (2, .int x2)] C dX10_overOf_5 rfl (Nat.le_of_ble_eq_true rfl) rfl ?_
  refine tz_iconst 0 (by decide) C dX10_overOf_6 ?_
  refine tz_istore_k [(3, .int 0), (0, .ref _), (1, .int x1), (2, .int x2)] C dX10_overOf_7 (Nat.le_of_ble_eq_true rfl) rfl ?_
  refine tz_iconst 0 (by decide) C dX10_overOf_9 ?_
  refine tz_istore_k [(4, .int 0), (3, .int 0), (0, .ref _), (1, .int x1), (2, .int x2)] C dX10_overOf_10 (Nat.le_of_ble_eq_true rfl) rfl ?_
  refine tz_sub (L := [(0, .ref _), (1, .int x1), (2, .int x2), (3, .int 0), (4, .int 0), (5, .int 0)]) ?_ [3, 4, 5, 2, 1, 0] rfl
  refine tz_loop3_w (V := fun (x3_4 : Int32) (x4_5 : Int32) (x5_6 : Int32) (σ_3 : tzS) => tz_V G E 12 [(0, .ref _), (1, .int x1), (2, .int x2), (3, .int x3_4), (4, .int x4_5), (5, .int x5_6)] [] σ_3) h (fun ag_2 ihag_2 x3_4 x4_5 x5_6 σ_3 h => ?_)
  refine tz_iload 5 C dX10_overOf_12 rfl ?_
  refine tz_aload_n 0 0 C dX10_overOf_14 rfl rfl ?_
  refine tz_getI C dX10_overOf_15 fl_RX10_184 (by decide) rfl rfl ?_
  refine tz_icmp_ge 89 C dX10_overOf_18 (by decide) h (fun h => ?_) (fun h => ?_)
  · refine tz_iload_n 2 2 C dX10_overOf_89 rfl rfl ?_
    refine tz_if_ne 97 C dX10_overOf_90 (by decide) h (fun h => ?_) (fun h => ?_)
    · refine tz_iload 4 C dX10_overOf_97 rfl ?_
      exact hret _ _ _ _ dX10_overOf_99 h
    · refine tz_iload_n 3 3 C dX10_overOf_93 rfl rfl ?_
      refine tz_goto 99 C dX10_overOf_94 (by decide) ?_
      exact hret _ _ _ _ dX10_overOf_99 h
  · refine tz_aload_n 0 0 C dX10_overOf_21 rfl rfl ?_
    refine tz_getR C dX10_overOf_22 fl_RX10_43 (by decide) rfl rfl ?_
    refine tz_iload 5 C dX10_overOf_25 rfl ?_
    obtain ⟨hin, h⟩ := h
    refine tz_iald C dX10_overOf_27 (by decide) rfl hin ?_
    refine tz_iload_n 1 1 C dX10_overOf_28 rfl rfl ?_
    refine tz_icmp_ge 47 C dX10_overOf_29 (by decide) h (fun h => ?_) (fun h => ?_)
    · refine tz_iconst 0 (by decide) C dX10_overOf_47 ?_
      refine tz_istore_k [(0, .ref _), (1, .int x1), (2, .int x2), (3, .int x3_4), (4, .int x4_5), (5, .int x5_6)] C dX10_overOf_48 (Nat.le_of_ble_eq_true rfl) rfl ?_
      refine tz_iload_n 3 4 C dX10_overOf_50 rfl rfl ?_
      refine tz_iload 0 C dX10_overOf_51 rfl ?_
      refine tz_if_eq_t 60 C dX10_overOf_53 (by decide) (by decide) ?_
      refine tz_iconst 0 (by decide) C dX10_overOf_60 ?_
      refine tz_iadd C dX10_overOf_61 ?_
      refine tz_istore_n 3 [(6, .int 0), (0, .ref _), (1, .int x1), (2, .int x2), (4, .int x4_5), (5, .int x5_6)] C dX10_overOf_62 rfl (Nat.le_of_ble_eq_true rfl) rfl h (fun x3_7 h => ?_)
      refine tz_iload 5 C dX10_overOf_63 rfl ?_
      refine tz_iload 1 C dX10_overOf_65 rfl ?_
      refine tz_if_eq_t 79 C dX10_overOf_67 (by decide) (by decide) ?_
      refine tz_iconst 0 (by decide) C dX10_overOf_79 ?_
      refine tz_iadd C dX10_overOf_80 ?_
      refine tz_istore [(3, .int x3_7), (6, .int 0), (0, .ref _), (1, .int x1), (2, .int x2), (5, .int x5_6)] C dX10_overOf_81 (Nat.le_of_ble_eq_true rfl) rfl h (fun x4_8 h => ?_)
      refine tz_iinc 6 [(4, .int x4_8), (3, .int x3_7), (6, .int 0), (0, .ref _), (1, .int x1), (2, .int x2)] 1 C dX10_overOf_83 (by decide) rfl (Nat.le_of_ble_eq_true rfl) rfl h (fun x5_9 h => ?_)
      refine tz_goto 12 C dX10_overOf_86 (by decide) ?_
      exact tz_sub (ihag_2 _ _ _ _ h) [4, 5, 6, 2, 1, 0] rfl
    · refine tz_aload_n 0 0 C dX10_overOf_32 rfl rfl ?_
      refine tz_getR C dX10_overOf_33 fl_RX10_46 (by decide) rfl rfl ?_
      refine tz_iload 5 C dX10_overOf_36 rfl ?_
      obtain ⟨hin, h⟩ := h
      refine tz_iald C dX10_overOf_38 (by decide) rfl hin ?_
      refine tz_iload_n 1 1 C dX10_overOf_39 rfl rfl ?_
      refine tz_icmp_lt 47 C dX10_overOf_40 (by decide) h (fun h => ?_) (fun h => ?_)
      · refine tz_iconst 0 (by decide) C dX10_overOf_47 ?_
        refine tz_istore_k [(0, .ref _), (1, .int x1), (2, .int x2), (3, .int x3_4), (4, .int x4_5), (5, .int x5_6)] C dX10_overOf_48 (Nat.le_of_ble_eq_true rfl) rfl ?_
        refine tz_iload_n 3 4 C dX10_overOf_50 rfl rfl ?_
        refine tz_iload 0 C dX10_overOf_51 rfl ?_
        refine tz_if_eq_t 60 C dX10_overOf_53 (by decide) (by decide) ?_
        refine tz_iconst 0 (by decide) C dX10_overOf_60 ?_
        refine tz_iadd C dX10_overOf_61 ?_
        refine tz_istore_n 3 [(6, .int 0), (0, .ref _), (1, .int x1), (2, .int x2), (4, .int x4_5), (5, .int x5_6)] C dX10_overOf_62 rfl (Nat.le_of_ble_eq_true rfl) rfl h (fun x3_10 h => ?_)
        refine tz_iload 5 C dX10_overOf_63 rfl ?_
        refine tz_iload 1 C dX10_overOf_65 rfl ?_
        refine tz_if_eq_t 79 C dX10_overOf_67 (by decide) (by decide) ?_
        refine tz_iconst 0 (by decide) C dX10_overOf_79 ?_
        refine tz_iadd C dX10_overOf_80 ?_
        refine tz_istore [(3, .int x3_10), (6, .int 0), (0, .ref _), (1, .int x1), (2, .int x2), (5, .int x5_6)] C dX10_overOf_81 (Nat.le_of_ble_eq_true rfl) rfl h (fun x4_11 h => ?_)
        refine tz_iinc 6 [(4, .int x4_11), (3, .int x3_10), (6, .int 0), (0, .ref _), (1, .int x1), (2, .int x2)] 1 C dX10_overOf_83 (by decide) rfl (Nat.le_of_ble_eq_true rfl) rfl h (fun x5_12 h => ?_)
        refine tz_goto 12 C dX10_overOf_86 (by decide) ?_
        exact tz_sub (ihag_2 _ _ _ _ h) [4, 5, 6, 2, 1, 0] rfl
      · refine tz_iconst 1 (by decide) C dX10_overOf_43 ?_
        refine tz_goto 48 C dX10_overOf_44 (by decide) ?_
        refine tz_istore_k [(0, .ref _), (1, .int x1), (2, .int x2), (3, .int x3_4), (4, .int x4_5), (5, .int x5_6)] C dX10_overOf_48 (Nat.le_of_ble_eq_true rfl) rfl ?_
        refine tz_iload_n 3 4 C dX10_overOf_50 rfl rfl ?_
        refine tz_iload 0 C dX10_overOf_51 rfl ?_
        refine tz_if_eq_f 60 C dX10_overOf_53 (by decide) (by decide) ?_
        refine tz_iconst 1 (by decide) C dX10_overOf_56 ?_
        refine tz_goto 61 C dX10_overOf_57 (by decide) ?_
        refine tz_iadd C dX10_overOf_61 ?_
        refine tz_istore_n 3 [(6, .int 1), (0, .ref _), (1, .int x1), (2, .int x2), (4, .int x4_5), (5, .int x5_6)] C dX10_overOf_62 rfl (Nat.le_of_ble_eq_true rfl) rfl h (fun x3_13 h => ?_)
        refine tz_iload 5 C dX10_overOf_63 rfl ?_
        refine tz_iload 1 C dX10_overOf_65 rfl ?_
        refine tz_if_eq_f 79 C dX10_overOf_67 (by decide) (by decide) ?_
        refine tz_aload_n 0 2 C dX10_overOf_70 rfl rfl ?_
        refine tz_iload 6 C dX10_overOf_71 rfl ?_
        refine tz_calliv C dX10_overOf_73 lk_RX10_198 (m_X10_weight G hG  h) (by decide) rfl rfl rfl rfl ⟨Nat.le_of_ble_eq_true rfl, Nat.le_of_ble_eq_true rfl⟩ (Nat.le_of_ble_eq_true rfl) rfl (fun r_15 σ_14 h => ?_)
        refine tz_goto 80 C dX10_overOf_76 (by decide) ?_
        refine tz_iadd C dX10_overOf_80 ?_
        refine tz_istore [(3, .int x3_13), (6, .int 1), (0, .ref _), (1, .int x1), (2, .int x2), (5, .int x5_6)] C dX10_overOf_81 (Nat.le_of_ble_eq_true rfl) rfl h (fun x4_16 h => ?_)
        refine tz_iinc 6 [(4, .int x4_16), (3, .int x3_13), (6, .int 1), (0, .ref _), (1, .int x1), (2, .int x2)] 1 C dX10_overOf_83 (by decide) rfl (Nat.le_of_ble_eq_true rfl) rfl h (fun x5_17 h => ?_)
        refine tz_goto 12 C dX10_overOf_86 (by decide) ?_
        exact tz_sub (ihag_2 _ _ _ _ h) [4, 5, 6, 2, 1, 0] rfl

def vc_X10_over (x1 : Int32) (x2 : Int32) (σ : tzS) (Q : Int32 → tzS → Prop) : Prop :=
  vc_X10_isGap x1 σ (fun (r_2 : Int32) (σ_1 : tzS) =>
    (r_2 = 0 →
      Q (-2) σ_1) ∧
    (¬ r_2 = 0 →
      vc_X10_isTwo x2 σ_1 (fun (r_4 : Int32) (σ_3 : tzS) =>
        (r_4 = 0 →
          Q (-2) σ_3) ∧
        (¬ r_4 = 0 →
          vc_X10_overOf x1 x2 σ_3 (fun (r_6 : Int32) (σ_5 : tzS) =>
            Q r_6 σ_5)))))
set_option maxRecDepth 20000 in
set_option maxHeartbeats 4000000 in
theorem m_X10_over (G : tzG) (hG : tz_ok G) {x1 : Int32} {x2 : Int32}  {σ : tzS} {Q : Int32 → tzS → Prop} (h : vc_X10_over x1 x2 σ Q) : tz_M G yX10_over cX10_over 3 (some .int) 6 147 [.ref 133, .int x1, .int x2] σ (tz_Qi G Q) := by
  unfold vc_X10_over at h
  refine tz_starti hG RX10 [(0, .ref _), (1, .int x1), (2, .int x2)] (by decide) rfl (Nat.le_of_ble_eq_true rfl) rfl (fun E C hret => ?_)
  refine tz_aload_n 0 0 C dX10_over_0 rfl rfl ?_
  refine tz_iload_n 1 1 C dX10_over_1 rfl rfl ?_
  refine tz_calliv C dX10_over_2 lk_RX10_204 (m_X10_isGap G hG  h) (by decide) rfl rfl rfl rfl ⟨Nat.le_of_ble_eq_true rfl, Nat.le_of_ble_eq_true rfl⟩ (Nat.le_of_ble_eq_true rfl) rfl (fun r_2 σ_1 h => ?_)
  refine tz_if_eq 24 C dX10_over_5 (by decide) h (fun h => ?_) (fun h => ?_)
  · refine tz_bipush (-2) (by decide) C dX10_over_24 ?_
    exact hret _ _ _ _ dX10_over_26 h
  · refine tz_iload_n 2 2 C dX10_over_8 rfl rfl ?_
    refine tz_callis C dX10_over_9 lk_RX10_207 (m_X10_isTwo G hG  h) rfl ⟨Nat.le_of_ble_eq_true rfl, Nat.le_of_ble_eq_true rfl⟩ (Nat.le_of_ble_eq_true rfl) rfl (fun r_4 σ_3 h => ?_)
    refine tz_if_eq 24 C dX10_over_12 (by decide) h (fun h => ?_) (fun h => ?_)
    · refine tz_bipush (-2) (by decide) C dX10_over_24 ?_
      exact hret _ _ _ _ dX10_over_26 h
    · refine tz_aload_n 0 0 C dX10_over_15 rfl rfl ?_
      refine tz_iload_n 1 1 C dX10_over_16 rfl rfl ?_
      refine tz_iload_n 2 2 C dX10_over_17 rfl rfl ?_
      refine tz_calliv C dX10_over_18 lk_RX10_210 (m_X10_overOf G hG  h) (by decide) rfl rfl rfl rfl ⟨Nat.le_of_ble_eq_true rfl, Nat.le_of_ble_eq_true rfl⟩ (Nat.le_of_ble_eq_true rfl) rfl (fun r_6 σ_5 h => ?_)
      refine tz_goto 26 C dX10_over_21 (by decide) ?_
      exact hret _ _ _ _ dX10_over_26 h

def vc_X10_costNow (x1 : Int32) (x2 : Int32) (σ : tzS) (Q : Int32 → tzS → Prop) : Prop :=
  vc_X10_looksOver x1 x2 σ (fun (σ_1 : tzS) =>
    ∀ x3_2 : Int32, x3_2 = ((σ_1.1 133 19) - (σ_1.1 133 20)) →
    ∀ x4_3 : Int32, x4_3 = ((4 * (σ_1.1 133 20)) - x3_2) →
    ((σ_1.1 135 0) = 0 →
      ∀ x4_4 : Int32, x4_4 = (2 * (σ_1.1 133 20)) →
      Q (x4_4 + (σ_1.1 135 1)) σ_1) ∧
    ((σ_1.1 135 0) = 1 →
      ∀ x4_5 : Int32, x4_5 = ((σ_1.1 133 20) * (σ_1.1 133 20)) →
      Q (x4_5 + (σ_1.1 135 1)) σ_1) ∧
    ((σ_1.1 135 0) = 2 →
      ∀ x4_6 : Int32, x4_6 = ((3 * (σ_1.1 133 21)) + (σ_1.1 133 19)) →
      Q (x4_6 + (σ_1.1 135 1)) σ_1) ∧
    (¬ (σ_1.1 135 0) = 0 → ¬ (σ_1.1 135 0) = 1 → ¬ (σ_1.1 135 0) = 2 →
      ((0 : Int32) ≤ x4_3 →
        Q (x4_3 + (σ_1.1 135 1)) σ_1) ∧
      (¬ (0 : Int32) ≤ x4_3 →
        Q (0 + (σ_1.1 135 1)) σ_1)))
set_option maxRecDepth 20000 in
set_option maxHeartbeats 4000000 in
theorem m_X10_costNow (G : tzG) (hG : tz_ok G) {x1 : Int32} {x2 : Int32}  {σ : tzS} {Q : Int32 → tzS → Prop} (h : vc_X10_costNow x1 x2 σ Q) : tz_M G yX10_costNow cX10_costNow 5 (some .int) 1 25 [.ref 133, .int x1, .int x2] σ (tz_Qi G Q) := by
  unfold vc_X10_costNow at h
  refine tz_starti hG RX10 [(0, .ref _), (1, .int x1), (2, .int x2)] (by decide) rfl (Nat.le_of_ble_eq_true rfl) rfl (fun E C hret => ?_)
  refine tz_aload_n 0 0 C dX10_costNow_0 rfl rfl ?_
  refine tz_iload_n 1 1 C dX10_costNow_1 rfl rfl ?_
  refine tz_iload_n 2 2 C dX10_costNow_2 rfl rfl ?_
  refine tz_callvv C dX10_costNow_3 lk_RX10_162 (m_X10_looksOver G hG  h) (by decide) rfl rfl rfl rfl ⟨Nat.le_of_ble_eq_true rfl, Nat.le_of_ble_eq_true rfl⟩ (Nat.le_of_ble_eq_true rfl) rfl (fun σ_1 h => ?_)
  refine tz_aload_n 0 0 C dX10_costNow_6 rfl rfl ?_
  refine tz_getI C dX10_costNow_7 fl_RX10_153 (by decide) rfl rfl ?_
  refine tz_aload_n 0 0 C dX10_costNow_10 rfl rfl ?_
  refine tz_getI C dX10_costNow_11 fl_RX10_156 (by decide) rfl rfl ?_
  refine tz_isub C dX10_costNow_14 ?_
  refine tz_istore_n 3 [(0, .ref _), (1, .int x1), (2, .int x2)] C dX10_costNow_15 rfl (Nat.le_of_ble_eq_true rfl) rfl h (fun x3_2 h => ?_)
  refine tz_iconst 4 (by decide) C dX10_costNow_16 ?_
  refine tz_aload_n 0 1 C dX10_costNow_17 rfl rfl ?_
  refine tz_getI C dX10_costNow_18 fl_RX10_156 (by decide) rfl rfl ?_
  refine tz_imul C dX10_costNow_21 ?_
  refine tz_iload_n 3 0 C dX10_costNow_22 rfl rfl ?_
  refine tz_isub C dX10_costNow_23 ?_
  refine tz_istore [(3, .int x3_2), (0, .ref _), (1, .int x1), (2, .int x2)] C dX10_costNow_24 (Nat.le_of_ble_eq_true rfl) rfl h (fun x4_3 h => ?_)
  refine tz_aload_n 0 2 C dX10_costNow_26 rfl rfl ?_
  refine tz_getR C dX10_costNow_27 fl_RX10_13 (by decide) rfl rfl ?_
  refine tz_iconst 0 (by decide) C dX10_costNow_30 ?_
  refine tz_iald_c 0 C dX10_costNow_31 (by decide) rfl (tz_inl rfl) rfl ?_
  refine tz_swc 0 (28) 60 C dX10_costNow_32 (by decide) (by decide) rfl (by decide) h (fun h => ?_) (fun e0 h => ?_)
  · refine tz_iconst 2 (by decide) C dX10_costNow_60 ?_
    refine tz_aload_n 0 2 C dX10_costNow_61 rfl rfl ?_
    refine tz_getI C dX10_costNow_62 fl_RX10_156 (by decide) rfl rfl ?_
    refine tz_imul C dX10_costNow_65 ?_
    refine tz_istore [(3, .int x3_2), (0, .ref _), (1, .int x1), (2, .int x2)] C dX10_costNow_66 (Nat.le_of_ble_eq_true rfl) rfl h (fun x4_4 h => ?_)
    refine tz_goto 114 C dX10_costNow_68 (by decide) ?_
    refine tz_iload 0 C dX10_costNow_114 rfl ?_
    refine tz_aload_n 0 2 C dX10_costNow_116 rfl rfl ?_
    refine tz_getR C dX10_costNow_117 fl_RX10_13 (by decide) rfl rfl ?_
    refine tz_iconst 1 (by decide) C dX10_costNow_120 ?_
    refine tz_iald_c 1 C dX10_costNow_121 (by decide) rfl (tz_inl rfl) rfl ?_
    refine tz_iadd C dX10_costNow_122 ?_
    exact hret _ _ _ _ dX10_costNow_123 h
  refine tz_swc 1 (39) 71 C dX10_costNow_32 (by decide) (by decide) rfl (by decide) h (fun h => ?_) (fun e1 h => ?_)
  · refine tz_aload_n 0 2 C dX10_costNow_71 rfl rfl ?_
    refine tz_getI C dX10_costNow_72 fl_RX10_156 (by decide) rfl rfl ?_
    refine tz_aload_n 0 2 C dX10_costNow_75 rfl rfl ?_
    refine tz_getI C dX10_costNow_76 fl_RX10_156 (by decide) rfl rfl ?_
    refine tz_imul C dX10_costNow_79 ?_
    refine tz_istore [(3, .int x3_2), (0, .ref _), (1, .int x1), (2, .int x2)] C dX10_costNow_80 (Nat.le_of_ble_eq_true rfl) rfl h (fun x4_5 h => ?_)
    refine tz_goto 114 C dX10_costNow_82 (by decide) ?_
    refine tz_iload 0 C dX10_costNow_114 rfl ?_
    refine tz_aload_n 0 2 C dX10_costNow_116 rfl rfl ?_
    refine tz_getR C dX10_costNow_117 fl_RX10_13 (by decide) rfl rfl ?_
    refine tz_iconst 1 (by decide) C dX10_costNow_120 ?_
    refine tz_iald_c 1 C dX10_costNow_121 (by decide) rfl (tz_inl rfl) rfl ?_
    refine tz_iadd C dX10_costNow_122 ?_
    exact hret _ _ _ _ dX10_costNow_123 h
  refine tz_swc 2 (53) 85 C dX10_costNow_32 (by decide) (by decide) rfl (by decide) h (fun h => ?_) (fun e2 h => ?_)
  · refine tz_iconst 3 (by decide) C dX10_costNow_85 ?_
    refine tz_aload_n 0 2 C dX10_costNow_86 rfl rfl ?_
    refine tz_getI C dX10_costNow_87 fl_RX10_159 (by decide) rfl rfl ?_
    refine tz_imul C dX10_costNow_90 ?_
    refine tz_aload_n 0 2 C dX10_costNow_91 rfl rfl ?_
    refine tz_getI C dX10_costNow_92 fl_RX10_153 (by decide) rfl rfl ?_
    refine tz_iadd C dX10_costNow_95 ?_
    refine tz_istore [(3, .int x3_2), (0, .ref _), (1, .int x1), (2, .int x2)] C dX10_costNow_96 (Nat.le_of_ble_eq_true rfl) rfl h (fun x4_6 h => ?_)
    refine tz_goto 114 C dX10_costNow_98 (by decide) ?_
    refine tz_iload 0 C dX10_costNow_114 rfl ?_
    refine tz_aload_n 0 2 C dX10_costNow_116 rfl rfl ?_
    refine tz_getR C dX10_costNow_117 fl_RX10_13 (by decide) rfl rfl ?_
    refine tz_iconst 1 (by decide) C dX10_costNow_120 ?_
    refine tz_iald_c 1 C dX10_costNow_121 (by decide) rfl (tz_inl rfl) rfl ?_
    refine tz_iadd C dX10_costNow_122 ?_
    exact hret _ _ _ _ dX10_costNow_123 h
  replace h := h e0 e1 e2
  refine tz_tabOut 101 C dX10_costNow_32 (tz_out2 e0 e1 e2) (by decide) ?_
  refine tz_iload 0 C dX10_costNow_101 rfl ?_
  refine tz_if_ge 110 C dX10_costNow_103 (by decide) h (fun h => ?_) (fun h => ?_)
  · refine tz_iload 0 C dX10_costNow_110 rfl ?_
    refine tz_istore_k [(3, .int x3_2), (0, .ref _), (1, .int x1), (2, .int x2)] C dX10_costNow_112 (Nat.le_of_ble_eq_true rfl) rfl ?_
    refine tz_iload 0 C dX10_costNow_114 rfl ?_
    refine tz_aload_n 0 2 C dX10_costNow_116 rfl rfl ?_
    refine tz_getR C dX10_costNow_117 fl_RX10_13 (by decide) rfl rfl ?_
    refine tz_iconst 1 (by decide) C dX10_costNow_120 ?_
    refine tz_iald_c 1 C dX10_costNow_121 (by decide) rfl (tz_inl rfl) rfl ?_
    refine tz_iadd C dX10_costNow_122 ?_
    exact hret _ _ _ _ dX10_costNow_123 h
  · refine tz_iconst 0 (by decide) C dX10_costNow_106 ?_
    refine tz_goto 112 C dX10_costNow_107 (by decide) ?_
    refine tz_istore_k [(3, .int x3_2), (0, .ref _), (1, .int x1), (2, .int x2)] C dX10_costNow_112 (Nat.le_of_ble_eq_true rfl) rfl ?_
    refine tz_iload 0 C dX10_costNow_114 rfl ?_
    refine tz_aload_n 0 2 C dX10_costNow_116 rfl rfl ?_
    refine tz_getR C dX10_costNow_117 fl_RX10_13 (by decide) rfl rfl ?_
    refine tz_iconst 1 (by decide) C dX10_costNow_120 ?_
    refine tz_iald_c 1 C dX10_costNow_121 (by decide) rfl (tz_inl rfl) rfl ?_
    refine tz_iadd C dX10_costNow_122 ?_
    exact hret _ _ _ _ dX10_costNow_123 h

def vc_X10_costOf (x1 : Int32) (x2 : Int32) (σ : tzS) (Q : Int32 → tzS → Prop) : Prop :=
  vc_X10_reads  σ (fun (σ_1 : tzS) =>
    vc_X10_in x1 0 (σ_1.1 133 7) σ_1 (fun (r_3 : Int32) (σ_2 : tzS) =>
      (r_3 = 0 →
        Q (-2) σ_2) ∧
      (¬ r_3 = 0 →
        vc_X10_in x2 0 (σ_2.1 133 7) σ_2 (fun (r_5 : Int32) (σ_4 : tzS) =>
          (¬ r_5 = 0 →
            (x2 ≤ x1 →
              Q (-3) σ_4) ∧
            (¬ x2 ≤ x1 →
              vc_X10_costNow x1 x2 σ_4 (fun (r_7 : Int32) (σ_6 : tzS) =>
                Q r_7 σ_6))) ∧
          (r_5 = 0 →
            Q (-2) σ_4)))))
set_option maxRecDepth 20000 in
set_option maxHeartbeats 4000000 in
theorem m_X10_costOf (G : tzG) (hG : tz_ok G) {x1 : Int32} {x2 : Int32}  {σ : tzS} {Q : Int32 → tzS → Prop} (h : vc_X10_costOf x1 x2 σ Q) : tz_M G yX10_costOf cX10_costOf 3 (some .int) 4 95 [.ref 133, .int x1, .int x2] σ (tz_Qi G Q) := by
  unfold vc_X10_costOf at h
  refine tz_starti hG RX10 [(0, .ref _), (1, .int x1), (2, .int x2)] (by decide) rfl (Nat.le_of_ble_eq_true rfl) rfl (fun E C hret => ?_)
  refine tz_aload_n 0 0 C dX10_costOf_0 rfl rfl ?_
  refine tz_callvv C dX10_costOf_1 lk_RX10_147 (m_X10_reads G hG  h) (by decide) rfl rfl rfl rfl ⟨Nat.le_of_ble_eq_true rfl, Nat.le_of_ble_eq_true rfl⟩ (Nat.le_of_ble_eq_true rfl) rfl (fun σ_1 h => ?_)
  refine tz_iload_n 1 1 C dX10_costOf_4 rfl rfl ?_
  refine tz_iconst 0 (by decide) C dX10_costOf_5 ?_
  refine tz_aload_n 0 0 C dX10_costOf_6 rfl rfl ?_
  refine tz_getI C dX10_costOf_7 fl_RX10_109 (by decide) rfl rfl ?_
  refine tz_callis C dX10_costOf_10 lk_RX10_77 (m_X10_in G hG  h) rfl ⟨Nat.le_of_ble_eq_true rfl, Nat.le_of_ble_eq_true rfl⟩ (Nat.le_of_ble_eq_true rfl) rfl (fun r_3 σ_2 h => ?_)
  refine tz_if_eq 28 C dX10_costOf_13 (by decide) h (fun h => ?_) (fun h => ?_)
  · refine tz_bipush (-2) (by decide) C dX10_costOf_28 ?_
    exact hret _ _ _ _ dX10_costOf_30 h
  · refine tz_iload_n 2 2 C dX10_costOf_16 rfl rfl ?_
    refine tz_iconst 0 (by decide) C dX10_costOf_17 ?_
    refine tz_aload_n 0 0 C dX10_costOf_18 rfl rfl ?_
    refine tz_getI C dX10_costOf_19 fl_RX10_109 (by decide) rfl rfl ?_
    refine tz_callis C dX10_costOf_22 lk_RX10_77 (m_X10_in G hG  h) rfl ⟨Nat.le_of_ble_eq_true rfl, Nat.le_of_ble_eq_true rfl⟩ (Nat.le_of_ble_eq_true rfl) rfl (fun r_5 σ_4 h => ?_)
    refine tz_if_ne 31 C dX10_costOf_25 (by decide) h (fun h => ?_) (fun h => ?_)
    · refine tz_iload_n 2 2 C dX10_costOf_31 rfl rfl ?_
      refine tz_iload_n 1 1 C dX10_costOf_32 rfl rfl ?_
      refine tz_icmp_le 45 C dX10_costOf_33 (by decide) h (fun h => ?_) (fun h => ?_)
      · refine tz_bipush (-3) (by decide) C dX10_costOf_45 ?_
        exact hret _ _ _ _ dX10_costOf_47 h
      · refine tz_aload_n 0 0 C dX10_costOf_36 rfl rfl ?_
        refine tz_iload_n 1 1 C dX10_costOf_37 rfl rfl ?_
        refine tz_iload_n 2 2 C dX10_costOf_38 rfl rfl ?_
        refine tz_calliv C dX10_costOf_39 lk_RX10_213 (m_X10_costNow G hG  h) (by decide) rfl rfl rfl rfl ⟨Nat.le_of_ble_eq_true rfl, Nat.le_of_ble_eq_true rfl⟩ (Nat.le_of_ble_eq_true rfl) rfl (fun r_7 σ_6 h => ?_)
        refine tz_goto 47 C dX10_costOf_42 (by decide) ?_
        exact hret _ _ _ _ dX10_costOf_47 h
    · refine tz_bipush (-2) (by decide) C dX10_costOf_28 ?_
      exact hret _ _ _ _ dX10_costOf_30 h

def vc_X10_cost (x1 : Int32) (x2 : Int32) (σ : tzS) (Q : Int32 → tzS → Prop) : Prop :=
  vc_X10_costOf x1 x2 σ (fun (r_2 : Int32) (σ_1 : tzS) =>
    Q r_2 σ_1)
set_option maxRecDepth 20000 in
set_option maxHeartbeats 4000000 in
theorem m_X10_cost (G : tzG) (hG : tz_ok G) {x1 : Int32} {x2 : Int32}  {σ : tzS} {Q : Int32 → tzS → Prop} (h : vc_X10_cost x1 x2 σ Q) : tz_M G yX10_cost cX10_cost 3 (some .int) 5 117 [.ref 133, .int x1, .int x2] σ (tz_Qi G Q) := by
  unfold vc_X10_cost at h
  refine tz_starti hG RX10 [(0, .ref _), (1, .int x1), (2, .int x2)] (by decide) rfl (Nat.le_of_ble_eq_true rfl) rfl (fun E C hret => ?_)
  refine tz_aload_n 0 0 C dX10_cost_0 rfl rfl ?_
  refine tz_iload_n 1 1 C dX10_cost_1 rfl rfl ?_
  refine tz_iload_n 2 2 C dX10_cost_2 rfl rfl ?_
  refine tz_calliv C dX10_cost_3 lk_RX10_216 (m_X10_costOf G hG  h) (by decide) rfl rfl rfl rfl ⟨Nat.le_of_ble_eq_true rfl, Nat.le_of_ble_eq_true rfl⟩ (Nat.le_of_ble_eq_true rfl) rfl (fun r_2 σ_1 h => ?_)
  exact hret _ _ _ _ dX10_cost_6 h

def vc_X10_placeOf (x1 : Int32) (σ : tzS) (Q : Int32 → tzS → Prop) : Prop :=
  ((σ.1 133 18) = (-1) →
    Q x1 σ) ∧
  (¬ (σ.1 133 18) = (-1) →
    (x1 ≤ (σ.1 133 18) →
      Q x1 σ) ∧
    (¬ x1 ≤ (σ.1 133 18) →
      Q (x1 + 1) σ))
set_option maxRecDepth 20000 in
set_option maxHeartbeats 4000000 in
theorem m_X10_placeOf (G : tzG) (hG : tz_ok G) {x1 : Int32}  {σ : tzS} {Q : Int32 → tzS → Prop} (h : vc_X10_placeOf x1 σ Q) : tz_M G yX10_placeOf cX10_placeOf 2 (some .int) 0 0 [.ref 133, .int x1] σ (tz_Qi G Q) := by
  unfold vc_X10_placeOf at h
  refine tz_starti hG RX10 [(0, .ref _), (1, .int x1)] (by decide) rfl (Nat.le_of_ble_eq_true rfl) rfl (fun E C hret => ?_)
  refine tz_aload_n 0 0 C dX10_placeOf_0 rfl rfl ?_
  refine tz_getI C dX10_placeOf_1 fl_RX10_144 (by decide) rfl rfl ?_
  refine tz_iconst (-1) (by decide) C dX10_placeOf_4 ?_
  refine tz_icmp_eq 22 C dX10_placeOf_5 (by decide) h (fun h => ?_) (fun h => ?_)
  · refine tz_iload_n 1 1 C dX10_placeOf_22 rfl rfl ?_
    exact hret _ _ _ _ dX10_placeOf_23 h
  · refine tz_iload_n 1 1 C dX10_placeOf_8 rfl rfl ?_
    refine tz_aload_n 0 0 C dX10_placeOf_9 rfl rfl ?_
    refine tz_getI C dX10_placeOf_10 fl_RX10_144 (by decide) rfl rfl ?_
    refine tz_icmp_le 22 C dX10_placeOf_13 (by decide) h (fun h => ?_) (fun h => ?_)
    · refine tz_iload_n 1 1 C dX10_placeOf_22 rfl rfl ?_
      exact hret _ _ _ _ dX10_placeOf_23 h
    · refine tz_iload_n 1 1 C dX10_placeOf_16 rfl rfl ?_
      refine tz_iconst 1 (by decide) C dX10_placeOf_17 ?_
      refine tz_iadd C dX10_placeOf_18 ?_
      refine tz_goto 23 C dX10_placeOf_19 (by decide) ?_
      exact hret _ _ _ _ dX10_placeOf_23 h

def vc_X10_parts  (σ : tzS) (Q : tzS → Prop) : Prop :=
  (¬ (σ.1 133 18) = (-1) →
    ∀ σ_1 : tzS, σ_1 = tz_st σ 133 30 ((σ.1 133 7) - 1) →
    tz_loop1 (fun (x1_4 : Int32) (σ_3 : tzS) (ag_2 : Int32 → tzS → Prop) =>
      ((σ_3.1 133 30) ≤ x1_4 →
        tz_loop1 (fun (x1_7 : Int32) (σ_6 : tzS) (ag_5 : Int32 → tzS → Prop) =>
          ((9 : Int32) ≤ x1_7 →
            Q σ_6) ∧
          (¬ (9 : Int32) ≤ x1_7 →
            tz_loop1 (fun (x2_10 : Int32) (σ_9 : tzS) (ag_8 : Int32 → tzS → Prop) =>
              ((σ_9.1 133 30) < x2_10 →
                ∀ x1_11 : Int32, x1_11 = x1_7 + 1 →
                ag_5 x1_11 σ_9) ∧
              (¬ (σ_9.1 133 30) < x2_10 →
                (¬ x1_7 = 0 →
                  tz_loop3 (fun (x3_14 : Int32) (x4_15 : Int32) (x5_16 : Int32) (σ_13 : tzS) (ag_12 : Int32 → Int32 → Int32 → tzS → Prop) =>
                    (x2_10 ≤ x5_16 →
                      vp_in ((13 * x1_7) + x2_10) 117 ∧ (
                        ∀ σ_17 : tzS, σ_17 = tz_st σ_13 149 ((13 * x1_7) + x2_10).toNatClampNeg x4_15 →
                        vp_in ((13 * x1_7) + x2_10) 117 ∧ (
                          ∀ σ_18 : tzS, σ_18 = tz_st σ_17 150 ((13 * x1_7) + x2_10).toNatClampNeg x3_14 →
                          ∀ x2_19 : Int32, x2_19 = x2_10 + 1 →
                          ag_8 x2_19 σ_18))) ∧
                    (¬ x2_10 ≤ x5_16 →
                      (x1_7 ≤ 0 →
                        vp_in ((13 * x1_7) + x2_10) 117 ∧ (
                          ∀ σ_20 : tzS, σ_20 = tz_st σ_13 149 ((13 * x1_7) + x2_10).toNatClampNeg x4_15 →
                          vp_in ((13 * x1_7) + x2_10) 117 ∧ (
                            ∀ σ_21 : tzS, σ_21 = tz_st σ_20 150 ((13 * x1_7) + x2_10).toNatClampNeg x3_14 →
                            ∀ x2_22 : Int32, x2_22 = x2_10 + 1 →
                            ag_8 x2_22 σ_21))) ∧
                      (¬ x1_7 ≤ 0 →
                        vp_in ((13 * (x1_7 - 1)) + x5_16) 117 ∧ (
                          ∀ x6_23 : Int32, x6_23 = (σ_13.1 149 ((13 * (x1_7 - 1)) + x5_16).toNatClampNeg) →
                          vp_in ((13 * x5_16) + x2_10) 169 ∧ (
                            ∀ x7_24 : Int32, x7_24 = (x6_23 + (σ_13.1 148 ((13 * x5_16) + x2_10).toNatClampNeg)) →
                            (x6_23 = (-1) →
                              ∀ x5_25 : Int32, x5_25 = x5_16 + 1 →
                              ag_12 x3_14 x4_15 x5_25 σ_13) ∧
                            (¬ x6_23 = (-1) →
                              (x4_15 = (-1) →
                                ∀ x5_26 : Int32, x5_26 = x5_16 + 1 →
                                ag_12 x5_16 x7_24 x5_26 σ_13) ∧
                              (¬ x4_15 = (-1) →
                                (x4_15 ≤ x7_24 →
                                  ∀ x5_27 : Int32, x5_27 = x5_16 + 1 →
                                  ag_12 x3_14 x4_15 x5_27 σ_13) ∧
                                (¬ x4_15 ≤ x7_24 →
                                  ∀ x5_28 : Int32, x5_28 = x5_16 + 1 →
                                  ag_12 x5_16 x7_24 x5_28 σ_13)))))))) ((-1) : Int32) ((-1) : Int32) (0 : Int32) σ_9) ∧
                (x1_7 = 0 →
                  (¬ x2_10 = 0 →
                    tz_loop3 (fun (x3_31 : Int32) (x4_32 : Int32) (x5_33 : Int32) (σ_30 : tzS) (ag_29 : Int32 → Int32 → Int32 → tzS → Prop) =>
                      (x2_10 ≤ x5_33 →
                        vp_in ((13 * x1_7) + x2_10) 117 ∧ (
                          ∀ σ_34 : tzS, σ_34 = tz_st σ_30 149 ((13 * x1_7) + x2_10).toNatClampNeg x4_32 →
                          vp_in ((13 * x1_7) + x2_10) 117 ∧ (
                            ∀ σ_35 : tzS, σ_35 = tz_st σ_34 150 ((13 * x1_7) + x2_10).toNatClampNeg x3_31 →
                            ∀ x2_36 : Int32, x2_36 = x2_10 + 1 →
                            ag_8 x2_36 σ_35))) ∧
                      (¬ x2_10 ≤ x5_33 →
                        (x1_7 ≤ 0 →
                          vp_in ((13 * x1_7) + x2_10) 117 ∧ (
                            ∀ σ_37 : tzS, σ_37 = tz_st σ_30 149 ((13 * x1_7) + x2_10).toNatClampNeg x4_32 →
                            vp_in ((13 * x1_7) + x2_10) 117 ∧ (
                              ∀ σ_38 : tzS, σ_38 = tz_st σ_37 150 ((13 * x1_7) + x2_10).toNatClampNeg x3_31 →
                              ∀ x2_39 : Int32, x2_39 = x2_10 + 1 →
                              ag_8 x2_39 σ_38))) ∧
                        (¬ x1_7 ≤ 0 →
                          vp_in ((13 * (x1_7 - 1)) + x5_33) 117 ∧ (
                            ∀ x6_40 : Int32, x6_40 = (σ_30.1 149 ((13 * (x1_7 - 1)) + x5_33).toNatClampNeg) →
                            vp_in ((13 * x5_33) + x2_10) 169 ∧ (
                              ∀ x7_41 : Int32, x7_41 = (x6_40 + (σ_30.1 148 ((13 * x5_33) + x2_10).toNatClampNeg)) →
                              (x6_40 = (-1) →
                                ∀ x5_42 : Int32, x5_42 = x5_33 + 1 →
                                ag_29 x3_31 x4_32 x5_42 σ_30) ∧
                              (¬ x6_40 = (-1) →
                                (x4_32 = (-1) →
                                  ∀ x5_43 : Int32, x5_43 = x5_33 + 1 →
                                  ag_29 x5_33 x7_41 x5_43 σ_30) ∧
                                (¬ x4_32 = (-1) →
                                  (x4_32 ≤ x7_41 →
                                    ∀ x5_44 : Int32, x5_44 = x5_33 + 1 →
                                    ag_29 x3_31 x4_32 x5_44 σ_30) ∧
                                  (¬ x4_32 ≤ x7_41 →
                                    ∀ x5_45 : Int32, x5_45 = x5_33 + 1 →
                                    ag_29 x5_33 x7_41 x5_45 σ_30)))))))) ((-1) : Int32) ((-1) : Int32) (0 : Int32) σ_9) ∧
                  (x2_10 = 0 →
                    tz_loop3 (fun (x3_48 : Int32) (x4_49 : Int32) (x5_50 : Int32) (σ_47 : tzS) (ag_46 : Int32 → Int32 → Int32 → tzS → Prop) =>
                      (x2_10 ≤ x5_50 →
                        vp_in ((13 * x1_7) + x2_10) 117 ∧ (
                          ∀ σ_51 : tzS, σ_51 = tz_st σ_47 149 ((13 * x1_7) + x2_10).toNatClampNeg x4_49 →
                          vp_in ((13 * x1_7) + x2_10) 117 ∧ (
                            ∀ σ_52 : tzS, σ_52 = tz_st σ_51 150 ((13 * x1_7) + x2_10).toNatClampNeg x3_48 →
                            ∀ x2_53 : Int32, x2_53 = x2_10 + 1 →
                            ag_8 x2_53 σ_52))) ∧
                      (¬ x2_10 ≤ x5_50 →
                        (x1_7 ≤ 0 →
                          vp_in ((13 * x1_7) + x2_10) 117 ∧ (
                            ∀ σ_54 : tzS, σ_54 = tz_st σ_47 149 ((13 * x1_7) + x2_10).toNatClampNeg x4_49 →
                            vp_in ((13 * x1_7) + x2_10) 117 ∧ (
                              ∀ σ_55 : tzS, σ_55 = tz_st σ_54 150 ((13 * x1_7) + x2_10).toNatClampNeg x3_48 →
                              ∀ x2_56 : Int32, x2_56 = x2_10 + 1 →
                              ag_8 x2_56 σ_55))) ∧
                        (¬ x1_7 ≤ 0 →
                          vp_in ((13 * (x1_7 - 1)) + x5_50) 117 ∧ (
                            ∀ x6_57 : Int32, x6_57 = (σ_47.1 149 ((13 * (x1_7 - 1)) + x5_50).toNatClampNeg) →
                            vp_in ((13 * x5_50) + x2_10) 169 ∧ (
                              ∀ x7_58 : Int32, x7_58 = (x6_57 + (σ_47.1 148 ((13 * x5_50) + x2_10).toNatClampNeg)) →
                              (x6_57 = (-1) →
                                ∀ x5_59 : Int32, x5_59 = x5_50 + 1 →
                                ag_46 x3_48 x4_49 x5_59 σ_47) ∧
                              (¬ x6_57 = (-1) →
                                (x4_49 = (-1) →
                                  ∀ x5_60 : Int32, x5_60 = x5_50 + 1 →
                                  ag_46 x5_50 x7_58 x5_60 σ_47) ∧
                                (¬ x4_49 = (-1) →
                                  (x4_49 ≤ x7_58 →
                                    ∀ x5_61 : Int32, x5_61 = x5_50 + 1 →
                                    ag_46 x3_48 x4_49 x5_61 σ_47) ∧
                                  (¬ x4_49 ≤ x7_58 →
                                    ∀ x5_62 : Int32, x5_62 = x5_50 + 1 →
                                    ag_46 x5_50 x7_58 x5_62 σ_47)))))))) ((-1) : Int32) (0 : Int32) (0 : Int32) σ_9)))) (0 : Int32) σ_6)) (0 : Int32) σ_3) ∧
      (¬ (σ_3.1 133 30) ≤ x1_4 →
        ∀ x2_63 : Int32, x2_63 = (x1_4 + 1) →
        tz_loop1 (fun (x2_66 : Int32) (σ_65 : tzS) (ag_64 : Int32 → tzS → Prop) =>
          ((σ_65.1 133 30) < x2_66 →
            ∀ x1_67 : Int32, x1_67 = x1_4 + 1 →
            ag_2 x1_67 σ_65) ∧
          (¬ (σ_65.1 133 30) < x2_66 →
            vc_X10_placeOf x1_4 σ_65 (fun (r_69 : Int32) (σ_68 : tzS) =>
              vc_X10_placeOf x2_66 σ_68 (fun (r_71 : Int32) (σ_70 : tzS) =>
                vc_X10_costNow r_69 r_71 σ_70 (fun (r_73 : Int32) (σ_72 : tzS) =>
                  vp_in ((13 * x1_4) + x2_66) 169 ∧ (
                    ∀ σ_74 : tzS, σ_74 = tz_st σ_72 148 ((13 * x1_4) + x2_66).toNatClampNeg r_73 →
                    ∀ x2_75 : Int32, x2_75 = x2_66 + 1 →
                    ag_64 x2_75 σ_74)))))) x2_63 σ_3)) (0 : Int32) σ_1) ∧
  ((σ.1 133 18) = (-1) →
    ∀ σ_76 : tzS, σ_76 = tz_st σ 133 30 (σ.1 133 7) →
    tz_loop1 (fun (x1_79 : Int32) (σ_78 : tzS) (ag_77 : Int32 → tzS → Prop) =>
      ((σ_78.1 133 30) ≤ x1_79 →
        tz_loop1 (fun (x1_82 : Int32) (σ_81 : tzS) (ag_80 : Int32 → tzS → Prop) =>
          ((9 : Int32) ≤ x1_82 →
            Q σ_81) ∧
          (¬ (9 : Int32) ≤ x1_82 →
            tz_loop1 (fun (x2_85 : Int32) (σ_84 : tzS) (ag_83 : Int32 → tzS → Prop) =>
              ((σ_84.1 133 30) < x2_85 →
                ∀ x1_86 : Int32, x1_86 = x1_82 + 1 →
                ag_80 x1_86 σ_84) ∧
              (¬ (σ_84.1 133 30) < x2_85 →
                (¬ x1_82 = 0 →
                  tz_loop3 (fun (x3_89 : Int32) (x4_90 : Int32) (x5_91 : Int32) (σ_88 : tzS) (ag_87 : Int32 → Int32 → Int32 → tzS → Prop) =>
                    (x2_85 ≤ x5_91 →
                      vp_in ((13 * x1_82) + x2_85) 117 ∧ (
                        ∀ σ_92 : tzS, σ_92 = tz_st σ_88 149 ((13 * x1_82) + x2_85).toNatClampNeg x4_90 →
                        vp_in ((13 * x1_82) + x2_85) 117 ∧ (
                          ∀ σ_93 : tzS, σ_93 = tz_st σ_92 150 ((13 * x1_82) + x2_85).toNatClampNeg x3_89 →
                          ∀ x2_94 : Int32, x2_94 = x2_85 + 1 →
                          ag_83 x2_94 σ_93))) ∧
                    (¬ x2_85 ≤ x5_91 →
                      (x1_82 ≤ 0 →
                        vp_in ((13 * x1_82) + x2_85) 117 ∧ (
                          ∀ σ_95 : tzS, σ_95 = tz_st σ_88 149 ((13 * x1_82) + x2_85).toNatClampNeg x4_90 →
                          vp_in ((13 * x1_82) + x2_85) 117 ∧ (
                            ∀ σ_96 : tzS, σ_96 = tz_st σ_95 150 ((13 * x1_82) + x2_85).toNatClampNeg x3_89 →
                            ∀ x2_97 : Int32, x2_97 = x2_85 + 1 →
                            ag_83 x2_97 σ_96))) ∧
                      (¬ x1_82 ≤ 0 →
                        vp_in ((13 * (x1_82 - 1)) + x5_91) 117 ∧ (
                          ∀ x6_98 : Int32, x6_98 = (σ_88.1 149 ((13 * (x1_82 - 1)) + x5_91).toNatClampNeg) →
                          vp_in ((13 * x5_91) + x2_85) 169 ∧ (
                            ∀ x7_99 : Int32, x7_99 = (x6_98 + (σ_88.1 148 ((13 * x5_91) + x2_85).toNatClampNeg)) →
                            (x6_98 = (-1) →
                              ∀ x5_100 : Int32, x5_100 = x5_91 + 1 →
                              ag_87 x3_89 x4_90 x5_100 σ_88) ∧
                            (¬ x6_98 = (-1) →
                              (x4_90 = (-1) →
                                ∀ x5_101 : Int32, x5_101 = x5_91 + 1 →
                                ag_87 x5_91 x7_99 x5_101 σ_88) ∧
                              (¬ x4_90 = (-1) →
                                (x4_90 ≤ x7_99 →
                                  ∀ x5_102 : Int32, x5_102 = x5_91 + 1 →
                                  ag_87 x3_89 x4_90 x5_102 σ_88) ∧
                                (¬ x4_90 ≤ x7_99 →
                                  ∀ x5_103 : Int32, x5_103 = x5_91 + 1 →
                                  ag_87 x5_91 x7_99 x5_103 σ_88)))))))) ((-1) : Int32) ((-1) : Int32) (0 : Int32) σ_84) ∧
                (x1_82 = 0 →
                  (¬ x2_85 = 0 →
                    tz_loop3 (fun (x3_106 : Int32) (x4_107 : Int32) (x5_108 : Int32) (σ_105 : tzS) (ag_104 : Int32 → Int32 → Int32 → tzS → Prop) =>
                      (x2_85 ≤ x5_108 →
                        vp_in ((13 * x1_82) + x2_85) 117 ∧ (
                          ∀ σ_109 : tzS, σ_109 = tz_st σ_105 149 ((13 * x1_82) + x2_85).toNatClampNeg x4_107 →
                          vp_in ((13 * x1_82) + x2_85) 117 ∧ (
                            ∀ σ_110 : tzS, σ_110 = tz_st σ_109 150 ((13 * x1_82) + x2_85).toNatClampNeg x3_106 →
                            ∀ x2_111 : Int32, x2_111 = x2_85 + 1 →
                            ag_83 x2_111 σ_110))) ∧
                      (¬ x2_85 ≤ x5_108 →
                        (x1_82 ≤ 0 →
                          vp_in ((13 * x1_82) + x2_85) 117 ∧ (
                            ∀ σ_112 : tzS, σ_112 = tz_st σ_105 149 ((13 * x1_82) + x2_85).toNatClampNeg x4_107 →
                            vp_in ((13 * x1_82) + x2_85) 117 ∧ (
                              ∀ σ_113 : tzS, σ_113 = tz_st σ_112 150 ((13 * x1_82) + x2_85).toNatClampNeg x3_106 →
                              ∀ x2_114 : Int32, x2_114 = x2_85 + 1 →
                              ag_83 x2_114 σ_113))) ∧
                        (¬ x1_82 ≤ 0 →
                          vp_in ((13 * (x1_82 - 1)) + x5_108) 117 ∧ (
                            ∀ x6_115 : Int32, x6_115 = (σ_105.1 149 ((13 * (x1_82 - 1)) + x5_108).toNatClampNeg) →
                            vp_in ((13 * x5_108) + x2_85) 169 ∧ (
                              ∀ x7_116 : Int32, x7_116 = (x6_115 + (σ_105.1 148 ((13 * x5_108) + x2_85).toNatClampNeg)) →
                              (x6_115 = (-1) →
                                ∀ x5_117 : Int32, x5_117 = x5_108 + 1 →
                                ag_104 x3_106 x4_107 x5_117 σ_105) ∧
                              (¬ x6_115 = (-1) →
                                (x4_107 = (-1) →
                                  ∀ x5_118 : Int32, x5_118 = x5_108 + 1 →
                                  ag_104 x5_108 x7_116 x5_118 σ_105) ∧
                                (¬ x4_107 = (-1) →
                                  (x4_107 ≤ x7_116 →
                                    ∀ x5_119 : Int32, x5_119 = x5_108 + 1 →
                                    ag_104 x3_106 x4_107 x5_119 σ_105) ∧
                                  (¬ x4_107 ≤ x7_116 →
                                    ∀ x5_120 : Int32, x5_120 = x5_108 + 1 →
                                    ag_104 x5_108 x7_116 x5_120 σ_105)))))))) ((-1) : Int32) ((-1) : Int32) (0 : Int32) σ_84) ∧
                  (x2_85 = 0 →
                    tz_loop3 (fun (x3_123 : Int32) (x4_124 : Int32) (x5_125 : Int32) (σ_122 : tzS) (ag_121 : Int32 → Int32 → Int32 → tzS → Prop) =>
                      (x2_85 ≤ x5_125 →
                        vp_in ((13 * x1_82) + x2_85) 117 ∧ (
                          ∀ σ_126 : tzS, σ_126 = tz_st σ_122 149 ((13 * x1_82) + x2_85).toNatClampNeg x4_124 →
                          vp_in ((13 * x1_82) + x2_85) 117 ∧ (
                            ∀ σ_127 : tzS, σ_127 = tz_st σ_126 150 ((13 * x1_82) + x2_85).toNatClampNeg x3_123 →
                            ∀ x2_128 : Int32, x2_128 = x2_85 + 1 →
                            ag_83 x2_128 σ_127))) ∧
                      (¬ x2_85 ≤ x5_125 →
                        (x1_82 ≤ 0 →
                          vp_in ((13 * x1_82) + x2_85) 117 ∧ (
                            ∀ σ_129 : tzS, σ_129 = tz_st σ_122 149 ((13 * x1_82) + x2_85).toNatClampNeg x4_124 →
                            vp_in ((13 * x1_82) + x2_85) 117 ∧ (
                              ∀ σ_130 : tzS, σ_130 = tz_st σ_129 150 ((13 * x1_82) + x2_85).toNatClampNeg x3_123 →
                              ∀ x2_131 : Int32, x2_131 = x2_85 + 1 →
                              ag_83 x2_131 σ_130))) ∧
                        (¬ x1_82 ≤ 0 →
                          vp_in ((13 * (x1_82 - 1)) + x5_125) 117 ∧ (
                            ∀ x6_132 : Int32, x6_132 = (σ_122.1 149 ((13 * (x1_82 - 1)) + x5_125).toNatClampNeg) →
                            vp_in ((13 * x5_125) + x2_85) 169 ∧ (
                              ∀ x7_133 : Int32, x7_133 = (x6_132 + (σ_122.1 148 ((13 * x5_125) + x2_85).toNatClampNeg)) →
                              (x6_132 = (-1) →
                                ∀ x5_134 : Int32, x5_134 = x5_125 + 1 →
                                ag_121 x3_123 x4_124 x5_134 σ_122) ∧
                              (¬ x6_132 = (-1) →
                                (x4_124 = (-1) →
                                  ∀ x5_135 : Int32, x5_135 = x5_125 + 1 →
                                  ag_121 x5_125 x7_133 x5_135 σ_122) ∧
                                (¬ x4_124 = (-1) →
                                  (x4_124 ≤ x7_133 →
                                    ∀ x5_136 : Int32, x5_136 = x5_125 + 1 →
                                    ag_121 x3_123 x4_124 x5_136 σ_122) ∧
                                  (¬ x4_124 ≤ x7_133 →
                                    ∀ x5_137 : Int32, x5_137 = x5_125 + 1 →
                                    ag_121 x5_125 x7_133 x5_137 σ_122)))))))) ((-1) : Int32) (0 : Int32) (0 : Int32) σ_84)))) (0 : Int32) σ_81)) (0 : Int32) σ_78) ∧
      (¬ (σ_78.1 133 30) ≤ x1_79 →
        ∀ x2_138 : Int32, x2_138 = (x1_79 + 1) →
        tz_loop1 (fun (x2_141 : Int32) (σ_140 : tzS) (ag_139 : Int32 → tzS → Prop) =>
          ((σ_140.1 133 30) < x2_141 →
            ∀ x1_142 : Int32, x1_142 = x1_79 + 1 →
            ag_77 x1_142 σ_140) ∧
          (¬ (σ_140.1 133 30) < x2_141 →
            vc_X10_placeOf x1_79 σ_140 (fun (r_144 : Int32) (σ_143 : tzS) =>
              vc_X10_placeOf x2_141 σ_143 (fun (r_146 : Int32) (σ_145 : tzS) =>
                vc_X10_costNow r_144 r_146 σ_145 (fun (r_148 : Int32) (σ_147 : tzS) =>
                  vp_in ((13 * x1_79) + x2_141) 169 ∧ (
                    ∀ σ_149 : tzS, σ_149 = tz_st σ_147 148 ((13 * x1_79) + x2_141).toNatClampNeg r_148 →
                    ∀ x2_150 : Int32, x2_150 = x2_141 + 1 →
                    ag_139 x2_150 σ_149)))))) x2_138 σ_78)) (0 : Int32) σ_76)
set_option maxRecDepth 20000 in
set_option maxHeartbeats 4000000 in
theorem m_X10_parts (G : tzG) (hG : tz_ok G)   {σ : tzS} {Q : tzS → Prop} (h : vc_X10_parts  σ Q) : tz_M G yX10_parts cX10_parts 9 (none) 2 49 [.ref 133] σ (tz_Qv G Q) := by
  unfold vc_X10_parts at h
  refine tz_startv hG RX10 [(0, .ref _)] (by decide) rfl (Nat.le_of_ble_eq_true rfl) rfl (fun E C hret => ?_)
  refine tz_aload_n 0 0 C dX10_parts_0 rfl rfl ?_
  refine tz_aload_n 0 0 C dX10_parts_1 rfl rfl ?_
  refine tz_getI C dX10_parts_2 fl_RX10_144 (by decide) rfl rfl ?_
  refine tz_iconst (-1) (by decide) C dX10_parts_5 ?_
  refine tz_icmp_ne 16 C dX10_parts_6 (by decide) h (fun h => ?_) (fun h => ?_)
  · refine tz_aload_n 0 0 C dX10_parts_16 rfl rfl ?_
    refine tz_getI C dX10_parts_17 fl_RX10_109 (by decide) rfl rfl ?_
    refine tz_iconst 1 (by decide) C dX10_parts_20 ?_
    refine tz_isub C dX10_parts_21 ?_
    refine tz_put C dX10_parts_22 fp_RX10_219 (by decide) rfl rfl rfl rfl h (fun σ_1 h => ?_)
    refine tz_iconst 0 (by decide) C dX10_parts_25 ?_
    refine tz_istore_n_k 1 [(0, .ref _)] C dX10_parts_26 rfl (Nat.le_of_ble_eq_true rfl) rfl ?_
    refine tz_sub (L := [(0, .ref _), (1, .int 0)]) ?_ [1, 0] rfl
    refine tz_loop1_w (V := fun (x1_4 : Int32) (σ_3 : tzS) => tz_V G E 27 [(0, .ref _), (1, .int x1_4)] [] σ_3) h (fun ag_2 ihag_2 x1_4 σ_3 h => ?_)
    refine tz_iload_n 1 1 C dX10_parts_27 rfl rfl ?_
    refine tz_aload_n 0 0 C dX10_parts_28 rfl rfl ?_
    refine tz_getI C dX10_parts_29 fl_RX10_219 (by decide) rfl rfl ?_
    refine tz_icmp_ge 84 C dX10_parts_32 (by decide) h (fun h => ?_) (fun h => ?_)
    · refine tz_iconst 0 (by decide) C dX10_parts_84 ?_
      refine tz_istore_n_k 1 [(0, .ref _)] C dX10_parts_85 rfl (Nat.le_of_ble_eq_true rfl) rfl ?_
      refine tz_sub (L := [(0, .ref _), (1, .int 0)]) ?_ [1, 0] rfl
      refine tz_loop1_w (V := fun (x1_7 : Int32) (σ_6 : tzS) => tz_V G E 86 [(0, .ref _), (1, .int x1_7)] [] σ_6) h (fun ag_5 ihag_5 x1_7 σ_6 h => ?_)
      refine tz_iload_n 1 1 C dX10_parts_86 rfl rfl ?_
      refine tz_bipush 9 (by decide) C dX10_parts_87 ?_
      refine tz_icmp_ge 260 C dX10_parts_89 (by decide) h (fun h => ?_) (fun h => ?_)
      · exact hret _ _ _ dX10_parts_260 h
      · refine tz_iconst 0 (by decide) C dX10_parts_92 ?_
        refine tz_istore_n_k 2 [(0, .ref _), (1, .int x1_7)] C dX10_parts_93 rfl (Nat.le_of_ble_eq_true rfl) rfl ?_
        refine tz_sub (L := [(0, .ref _), (1, .int x1_7), (2, .int 0)]) ?_ [1, 2, 0] rfl
        refine tz_loop1_w (V := fun (x2_10 : Int32) (σ_9 : tzS) => tz_V G E 94 [(0, .ref _), (1, .int x1_7), (2, .int x2_10)] [] σ_9) h (fun ag_8 ihag_8 x2_10 σ_9 h => ?_)
        refine tz_iload_n 2 2 C dX10_parts_94 rfl rfl ?_
        refine tz_aload_n 0 0 C dX10_parts_95 rfl rfl ?_
        refine tz_getI C dX10_parts_96 fl_RX10_219 (by decide) rfl rfl ?_
        refine tz_icmp_gt 254 C dX10_parts_99 (by decide) h (fun h => ?_) (fun h => ?_)
        · refine tz_iinc 1 [(0, .ref _), (2, .int x2_10)] 1 C dX10_parts_254 (by decide) rfl (Nat.le_of_ble_eq_true rfl) rfl h (fun x1_11 h => ?_)
          refine tz_goto 86 C dX10_parts_257 (by decide) ?_
          exact tz_sub (ihag_5 _ _ h) [1, 0] rfl
        · refine tz_iconst (-1) (by decide) C dX10_parts_102 ?_
          refine tz_istore_n_k 3 [(0, .ref _), (1, .int x1_7), (2, .int x2_10)] C dX10_parts_103 rfl (Nat.le_of_ble_eq_true rfl) rfl ?_
          refine tz_iload_n 1 2 C dX10_parts_104 rfl rfl ?_
          refine tz_if_ne 116 C dX10_parts_105 (by decide) h (fun h => ?_) (fun h => ?_)
          · refine tz_iconst (-1) (by decide) C dX10_parts_116 ?_
            refine tz_istore_k [(3, .int (-1)), (0, .ref _), (1, .int x1_7), (2, .int x2_10)] C dX10_parts_117 (Nat.le_of_ble_eq_true rfl) rfl ?_
            refine tz_iconst 0 (by decide) C dX10_parts_119 ?_
            refine tz_istore_k [(4, .int (-1)), (3, .int (-1)), (0, .ref _), (1, .int x1_7), (2, .int x2_10)] C dX10_parts_120 (Nat.le_of_ble_eq_true rfl) rfl ?_
            refine tz_sub (L := [(0, .ref _), (1, .int x1_7), (2, .int x2_10), (3, .int (-1)), (4, .int (-1)), (5, .int 0)]) ?_ [3, 4, 5, 2, 1, 0] rfl
            refine tz_loop3_w (V := fun (x3_14 : Int32) (x4_15 : Int32) (x5_16 : Int32) (σ_13 : tzS) => tz_V G E 122 [(0, .ref _), (1, .int x1_7), (2, .int x2_10), (3, .int x3_14), (4, .int x4_15), (5, .int x5_16)] [] σ_13) h (fun ag_12 ihag_12 x3_14 x4_15 x5_16 σ_13 h => ?_)
            refine tz_iload 5 C dX10_parts_122 rfl ?_
            refine tz_iload_n 2 2 C dX10_parts_124 rfl rfl ?_
            refine tz_icmp_ge 223 C dX10_parts_125 (by decide) h (fun h => ?_) (fun h => ?_)
            · refine tz_aload_n 0 0 C dX10_parts_223 rfl rfl ?_
              refine tz_getR C dX10_parts_224 fl_RX10_55 (by decide) rfl rfl ?_
              refine tz_bipush 13 (by decide) C dX10_parts_227 ?_
              refine tz_iload_n 1 1 C dX10_parts_229 rfl rfl ?_
              refine tz_imul C dX10_parts_230 ?_
              refine tz_iload_n 2 2 C dX10_parts_231 rfl rfl ?_
              refine tz_iadd C dX10_parts_232 ?_
              refine tz_iload 4 C dX10_parts_233 rfl ?_
              refine tz_iast C dX10_parts_235 (by decide) rfl h (fun σ_17 h => ?_)
              refine tz_aload_n 0 0 C dX10_parts_236 rfl rfl ?_
              refine tz_getR C dX10_parts_237 fl_RX10_58 (by decide) rfl rfl ?_
              refine tz_bipush 13 (by decide) C dX10_parts_240 ?_
              refine tz_iload_n 1 1 C dX10_parts_242 rfl rfl ?_
              refine tz_imul C dX10_parts_243 ?_
              refine tz_iload_n 2 2 C dX10_parts_244 rfl rfl ?_
              refine tz_iadd C dX10_parts_245 ?_
              refine tz_iload_n 3 3 C dX10_parts_246 rfl rfl ?_
              refine tz_iast C dX10_parts_247 (by decide) rfl h (fun σ_18 h => ?_)
              refine tz_iinc 2 [(0, .ref _), (1, .int x1_7), (3, .int x3_14), (4, .int x4_15), (5, .int x5_16)] 1 C dX10_parts_248 (by decide) rfl (Nat.le_of_ble_eq_true rfl) rfl h (fun x2_19 h => ?_)
              refine tz_goto 94 C dX10_parts_251 (by decide) ?_
              exact tz_sub (ihag_8 _ _ h) [1, 2, 0] rfl
            · refine tz_iload_n 1 1 C dX10_parts_128 rfl rfl ?_
              refine tz_if_le 223 C dX10_parts_129 (by decide) h (fun h => ?_) (fun h => ?_)
              · refine tz_aload_n 0 0 C dX10_parts_223 rfl rfl ?_
                refine tz_getR C dX10_parts_224 fl_RX10_55 (by decide) rfl rfl ?_
                refine tz_bipush 13 (by decide) C dX10_parts_227 ?_
                refine tz_iload_n 1 1 C dX10_parts_229 rfl rfl ?_
                refine tz_imul C dX10_parts_230 ?_
                refine tz_iload_n 2 2 C dX10_parts_231 rfl rfl ?_
                refine tz_iadd C dX10_parts_232 ?_
                refine tz_iload 4 C dX10_parts_233 rfl ?_
                refine tz_iast C dX10_parts_235 (by decide) rfl h (fun σ_20 h => ?_)
                refine tz_aload_n 0 0 C dX10_parts_236 rfl rfl ?_
                refine tz_getR C dX10_parts_237 fl_RX10_58 (by decide) rfl rfl ?_
                refine tz_bipush 13 (by decide) C dX10_parts_240 ?_
                refine tz_iload_n 1 1 C dX10_parts_242 rfl rfl ?_
                refine tz_imul C dX10_parts_243 ?_
                refine tz_iload_n 2 2 C dX10_parts_244 rfl rfl ?_
                refine tz_iadd C dX10_parts_245 ?_
                refine tz_iload_n 3 3 C dX10_parts_246 rfl rfl ?_
                refine tz_iast C dX10_parts_247 (by decide) rfl h (fun σ_21 h => ?_)
                refine tz_iinc 2 [(0, .ref _), (1, .int x1_7), (3, .int x3_14), (4, .int x4_15), (5, .int x5_16)] 1 C dX10_parts_248 (by decide) rfl (Nat.le_of_ble_eq_true rfl) rfl h (fun x2_22 h => ?_)
                refine tz_goto 94 C dX10_parts_251 (by decide) ?_
                exact tz_sub (ihag_8 _ _ h) [1, 2, 0] rfl
              · refine tz_aload_n 0 0 C dX10_parts_132 rfl rfl ?_
                refine tz_getR C dX10_parts_133 fl_RX10_55 (by decide) rfl rfl ?_
                refine tz_bipush 13 (by decide) C dX10_parts_136 ?_
                refine tz_iload_n 1 1 C dX10_parts_138 rfl rfl ?_
                refine tz_iconst 1 (by decide) C dX10_parts_139 ?_
                refine tz_isub C dX10_parts_140 ?_
                refine tz_imul C dX10_parts_141 ?_
                refine tz_iload 5 C dX10_parts_142 rfl ?_
                refine tz_iadd C dX10_parts_144 ?_
                obtain ⟨hin, h⟩ := h
                refine tz_iald C dX10_parts_145 (by decide) rfl hin ?_
                refine tz_istore [(0, .ref _), (1, .int x1_7), (2, .int x2_10), (3, .int x3_14), (4, .int x4_15), (5, .int x5_16)] C dX10_parts_146 (Nat.le_of_ble_eq_true rfl) rfl h (fun x6_23 h => ?_)
                refine tz_iload 0 C dX10_parts_148 rfl ?_
                refine tz_aload_n 0 1 C dX10_parts_150 rfl rfl ?_
                refine tz_getR C dX10_parts_151 fl_RX10_52 (by decide) rfl rfl ?_
                refine tz_bipush 13 (by decide) C dX10_parts_154 ?_
                refine tz_iload 6 C dX10_parts_156 rfl ?_
                refine tz_imul C dX10_parts_158 ?_
                refine tz_iload_n 2 3 C dX10_parts_159 rfl rfl ?_
                refine tz_iadd C dX10_parts_160 ?_
                obtain ⟨hin, h⟩ := h
                refine tz_iald C dX10_parts_161 (by decide) rfl hin ?_
                refine tz_iadd C dX10_parts_162 ?_
                refine tz_istore [(6, .int x6_23), (0, .ref _), (1, .int x1_7), (2, .int x2_10), (3, .int x3_14), (4, .int x4_15), (5, .int x5_16)] C dX10_parts_163 (Nat.le_of_ble_eq_true rfl) rfl h (fun x7_24 h => ?_)
                refine tz_iload 1 C dX10_parts_165 rfl ?_
                refine tz_iconst (-1) (by decide) C dX10_parts_167 ?_
                refine tz_icmp_eq 188 C dX10_parts_168 (by decide) h (fun h => ?_) (fun h => ?_)
                · refine tz_iconst 0 (by decide) C dX10_parts_188 ?_
                  refine tz_istore_k [(7, .int x7_24), (6, .int x6_23), (0, .ref _), (1, .int x1_7), (2, .int x2_10), (3, .int x3_14), (4, .int x4_15), (5, .int x5_16)] C dX10_parts_189 (Nat.le_of_ble_eq_true rfl) rfl ?_
                  refine tz_iload 0 C dX10_parts_191 rfl ?_
                  refine tz_if_eq_t 201 C dX10_parts_193 (by decide) (by decide) ?_
                  refine tz_iload_n 3 6 C dX10_parts_201 rfl rfl ?_
                  refine tz_istore_n_k 3 [(8, .int 0), (7, .int x7_24), (6, .int x6_23), (0, .ref _), (1, .int x1_7), (2, .int x2_10), (4, .int x4_15), (5, .int x5_16)] C dX10_parts_202 rfl (Nat.le_of_ble_eq_true rfl) rfl ?_
                  refine tz_iload 1 C dX10_parts_203 rfl ?_
                  refine tz_if_eq_t 213 C dX10_parts_205 (by decide) (by decide) ?_
                  refine tz_iload 7 C dX10_parts_213 rfl ?_
                  refine tz_istore_k [(3, .int x3_14), (8, .int 0), (7, .int x7_24), (6, .int x6_23), (0, .ref _), (1, .int x1_7), (2, .int x2_10), (5, .int x5_16)] C dX10_parts_215 (Nat.le_of_ble_eq_true rfl) rfl ?_
                  refine tz_iinc 8 [(4, .int x4_15), (3, .int x3_14), (8, .int 0), (7, .int x7_24), (6, .int x6_23), (0, .ref _), (1, .int x1_7), (2, .int x2_10)] 1 C dX10_parts_217 (by decide) rfl (Nat.le_of_ble_eq_true rfl) rfl h (fun x5_25 h => ?_)
                  refine tz_goto 122 C dX10_parts_220 (by decide) ?_
                  exact tz_sub (ihag_12 _ _ _ _ h) [6, 7, 8, 2, 1, 0] rfl
                · refine tz_iload 6 C dX10_parts_171 rfl ?_
                  refine tz_iconst (-1) (by decide) C dX10_parts_173 ?_
                  refine tz_icmp_eq 184 C dX10_parts_174 (by decide) h (fun h => ?_) (fun h => ?_)
                  · refine tz_iconst 1 (by decide) C dX10_parts_184 ?_
                    refine tz_goto 189 C dX10_parts_185 (by decide) ?_
                    refine tz_istore_k [(7, .int x7_24), (6, .int x6_23), (0, .ref _), (1, .int x1_7), (2, .int x2_10), (3, .int x3_14), (4, .int x4_15), (5, .int x5_16)] C dX10_parts_189 (Nat.le_of_ble_eq_true rfl) rfl ?_
                    refine tz_iload 0 C dX10_parts_191 rfl ?_
                    refine tz_if_eq_f 201 C dX10_parts_193 (by decide) (by decide) ?_
                    refine tz_iload 8 C dX10_parts_196 rfl ?_
                    refine tz_goto 202 C dX10_parts_198 (by decide) ?_
                    refine tz_istore_n_k 3 [(8, .int 1), (7, .int x7_24), (6, .int x6_23), (0, .ref _), (1, .int x1_7), (2, .int x2_10), (4, .int x4_15), (5, .int x5_16)] C dX10_parts_202 rfl (Nat.le_of_ble_eq_true rfl) rfl ?_
                    refine tz_iload 1 C dX10_parts_203 rfl ?_
                    refine tz_if_eq_f 213 C dX10_parts_205 (by decide) (by decide) ?_
                    refine tz_iload 2 C dX10_parts_208 rfl ?_
                    refine tz_goto 215 C dX10_parts_210 (by decide) ?_
                    refine tz_istore_k [(3, .int x5_16), (8, .int 1), (7, .int x7_24), (6, .int x6_23), (0, .ref _), (1, .int x1_7), (2, .int x2_10), (5, .int x5_16)] C dX10_parts_215 (Nat.le_of_ble_eq_true rfl) rfl ?_
                    refine tz_iinc 8 [(4, .int x7_24), (3, .int x5_16), (8, .int 1), (7, .int x7_24), (6, .int x6_23), (0, .ref _), (1, .int x1_7), (2, .int x2_10)] 1 C dX10_parts_217 (by decide) rfl (Nat.le_of_ble_eq_true rfl) rfl h (fun x5_26 h => ?_)
                    refine tz_goto 122 C dX10_parts_220 (by decide) ?_
                    exact tz_sub (ihag_12 _ _ _ _ h) [6, 7, 8, 2, 1, 0] rfl
                  · refine tz_iload 0 C dX10_parts_177 rfl ?_
                    refine tz_iload 6 C dX10_parts_179 rfl ?_
                    refine tz_icmp_ge 188 C dX10_parts_181 (by decide) h (fun h => ?_) (fun h => ?_)
                    · refine tz_iconst 0 (by decide) C dX10_parts_188 ?_
                      refine tz_istore_k [(7, .int x7_24), (6, .int x6_23), (0, .ref _), (1, .int x1_7), (2, .int x2_10), (3, .int x3_14), (4, .int x4_15), (5, .int x5_16)] C dX10_parts_189 (Nat.le_of_ble_eq_true rfl) rfl ?_
                      refine tz_iload 0 C dX10_parts_191 rfl ?_
                      refine tz_if_eq_t 201 C dX10_parts_193 (by decide) (by decide) ?_
                      refine tz_iload_n 3 6 C dX10_parts_201 rfl rfl ?_
                      refine tz_istore_n_k 3 [(8, .int 0), (7, .int x7_24), (6, .int x6_23), (0, .ref _), (1, .int x1_7), (2, .int x2_10), (4, .int x4_15), (5, .int x5_16)] C dX10_parts_202 rfl (Nat.le_of_ble_eq_true rfl) rfl ?_
                      refine tz_iload 1 C dX10_parts_203 rfl ?_
                      refine tz_if_eq_t 213 C dX10_parts_205 (by decide) (by decide) ?_
                      refine tz_iload 7 C dX10_parts_213 rfl ?_
                      refine tz_istore_k [(3, .int x3_14), (8, .int 0), (7, .int x7_24), (6, .int x6_23), (0, .ref _), (1, .int x1_7), (2, .int x2_10), (5, .int x5_16)] C dX10_parts_215 (Nat.le_of_ble_eq_true rfl) rfl ?_
                      refine tz_iinc 8 [(4, .int x4_15), (3, .int x3_14), (8, .int 0), (7, .int x7_24), (6, .int x6_23), (0, .ref _), (1, .int x1_7), (2, .int x2_10)] 1 C dX10_parts_217 (by decide) rfl (Nat.le_of_ble_eq_true rfl) rfl h (fun x5_27 h => ?_)
                      refine tz_goto 122 C dX10_parts_220 (by decide) ?_
                      exact tz_sub (ihag_12 _ _ _ _ h) [6, 7, 8, 2, 1, 0] rfl
                    · refine tz_iconst 1 (by decide) C dX10_parts_184 ?_
                      refine tz_goto 189 C dX10_parts_185 (by decide) ?_
                      refine tz_istore_k [(7, .int x7_24), (6, .int x6_23), (0, .ref _), (1, .int x1_7), (2, .int x2_10), (3, .int x3_14), (4, .int x4_15), (5, .int x5_16)] C dX10_parts_189 (Nat.le_of_ble_eq_true rfl) rfl ?_
                      refine tz_iload 0 C dX10_parts_191 rfl ?_
                      refine tz_if_eq_f 201 C dX10_parts_193 (by decide) (by decide) ?_
                      refine tz_iload 8 C dX10_parts_196 rfl ?_
                      refine tz_goto 202 C dX10_parts_198 (by decide) ?_
                      refine tz_istore_n_k 3 [(8, .int 1), (7, .int x7_24), (6, .int x6_23), (0, .ref _), (1, .int x1_7), (2, .int x2_10), (4, .int x4_15), (5, .int x5_16)] C dX10_parts_202 rfl (Nat.le_of_ble_eq_true rfl) rfl ?_
                      refine tz_iload 1 C dX10_parts_203 rfl ?_
                      refine tz_if_eq_f 213 C dX10_parts_205 (by decide) (by decide) ?_
                      refine tz_iload 2 C dX10_parts_208 rfl ?_
                      refine tz_goto 215 C dX10_parts_210 (by decide) ?_
                      refine tz_istore_k [(3, .int x5_16), (8, .int 1), (7, .int x7_24), (6, .int x6_23), (0, .ref _), (1, .int x1_7), (2, .int x2_10), (5, .int x5_16)] C dX10_parts_215 (Nat.le_of_ble_eq_true rfl) rfl ?_
                      refine tz_iinc 8 [(4, .int x7_24), (3, .int x5_16), (8, .int 1), (7, .int x7_24), (6, .int x6_23), (0, .ref _), (1, .int x1_7), (2, .int x2_10)] 1 C dX10_parts_217 (by decide) rfl (Nat.le_of_ble_eq_true rfl) rfl h (fun x5_28 h => ?_)
                      refine tz_goto 122 C dX10_parts_220 (by decide) ?_
                      exact tz_sub (ihag_12 _ _ _ _ h) [6, 7, 8, 2, 1, 0] rfl
          · refine tz_iload_n 2 3 C dX10_parts_108 rfl rfl ?_
            refine tz_if_ne 116 C dX10_parts_109 (by decide) h (fun h => ?_) (fun h => ?_)
            · refine tz_iconst (-1) (by decide) C dX10_parts_116 ?_
              refine tz_istore_k [(3, .int (-1)), (0, .ref _), (1, .int x1_7), (2, .int x2_10)] C dX10_parts_117 (Nat.le_of_ble_eq_true rfl) rfl ?_
              refine tz_iconst 0 (by decide) C dX10_parts_119 ?_
              refine tz_istore_k [(4, .int (-1)), (3, .int (-1)), (0, .ref _), (1, .int x1_7), (2, .int x2_10)] C dX10_parts_120 (Nat.le_of_ble_eq_true rfl) rfl ?_
              refine tz_sub (L := [(0, .ref _), (1, .int x1_7), (2, .int x2_10), (3, .int (-1)), (4, .int (-1)), (5, .int 0)]) ?_ [3, 4, 5, 2, 1, 0] rfl
              refine tz_loop3_w (V := fun (x3_31 : Int32) (x4_32 : Int32) (x5_33 : Int32) (σ_30 : tzS) => tz_V G E 122 [(0, .ref _), (1, .int x1_7), (2, .int x2_10), (3, .int x3_31), (4, .int x4_32), (5, .int x5_33)] [] σ_30) h (fun ag_29 ihag_29 x3_31 x4_32 x5_33 σ_30 h => ?_)
              refine tz_iload 5 C dX10_parts_122 rfl ?_
              refine tz_iload_n 2 2 C dX10_parts_124 rfl rfl ?_
              refine tz_icmp_ge 223 C dX10_parts_125 (by decide) h (fun h => ?_) (fun h => ?_)
              · refine tz_aload_n 0 0 C dX10_parts_223 rfl rfl ?_
                refine tz_getR C dX10_parts_224 fl_RX10_55 (by decide) rfl rfl ?_
                refine tz_bipush 13 (by decide) C dX10_parts_227 ?_
                refine tz_iload_n 1 1 C dX10_parts_229 rfl rfl ?_
                refine tz_imul C dX10_parts_230 ?_
                refine tz_iload_n 2 2 C dX10_parts_231 rfl rfl ?_
                refine tz_iadd C dX10_parts_232 ?_
                refine tz_iload 4 C dX10_parts_233 rfl ?_
                refine tz_iast C dX10_parts_235 (by decide) rfl h (fun σ_34 h => ?_)
                refine tz_aload_n 0 0 C dX10_parts_236 rfl rfl ?_
                refine tz_getR C dX10_parts_237 fl_RX10_58 (by decide) rfl rfl ?_
                refine tz_bipush 13 (by decide) C dX10_parts_240 ?_
                refine tz_iload_n 1 1 C dX10_parts_242 rfl rfl ?_
                refine tz_imul C dX10_parts_243 ?_
                refine tz_iload_n 2 2 C dX10_parts_244 rfl rfl ?_
                refine tz_iadd C dX10_parts_245 ?_
                refine tz_iload_n 3 3 C dX10_parts_246 rfl rfl ?_
                refine tz_iast C dX10_parts_247 (by decide) rfl h (fun σ_35 h => ?_)
                refine tz_iinc 2 [(0, .ref _), (1, .int x1_7), (3, .int x3_31), (4, .int x4_32), (5, .int x5_33)] 1 C dX10_parts_248 (by decide) rfl (Nat.le_of_ble_eq_true rfl) rfl h (fun x2_36 h => ?_)
                refine tz_goto 94 C dX10_parts_251 (by decide) ?_
                exact tz_sub (ihag_8 _ _ h) [1, 2, 0] rfl
              · refine tz_iload_n 1 1 C dX10_parts_128 rfl rfl ?_
                refine tz_if_le 223 C dX10_parts_129 (by decide) h (fun h => ?_) (fun h => ?_)
                · refine tz_aload_n 0 0 C dX10_parts_223 rfl rfl ?_
                  refine tz_getR C dX10_parts_224 fl_RX10_55 (by decide) rfl rfl ?_
                  refine tz_bipush 13 (by decide) C dX10_parts_227 ?_
                  refine tz_iload_n 1 1 C dX10_parts_229 rfl rfl ?_
                  refine tz_imul C dX10_parts_230 ?_
                  refine tz_iload_n 2 2 C dX10_parts_231 rfl rfl ?_
                  refine tz_iadd C dX10_parts_232 ?_
                  refine tz_iload 4 C dX10_parts_233 rfl ?_
                  refine tz_iast C dX10_parts_235 (by decide) rfl h (fun σ_37 h => ?_)
                  refine tz_aload_n 0 0 C dX10_parts_236 rfl rfl ?_
                  refine tz_getR C dX10_parts_237 fl_RX10_58 (by decide) rfl rfl ?_
                  refine tz_bipush 13 (by decide) C dX10_parts_240 ?_
                  refine tz_iload_n 1 1 C dX10_parts_242 rfl rfl ?_
                  refine tz_imul C dX10_parts_243 ?_
                  refine tz_iload_n 2 2 C dX10_parts_244 rfl rfl ?_
                  refine tz_iadd C dX10_parts_245 ?_
                  refine tz_iload_n 3 3 C dX10_parts_246 rfl rfl ?_
                  refine tz_iast C dX10_parts_247 (by decide) rfl h (fun σ_38 h => ?_)
                  refine tz_iinc 2 [(0, .ref _), (1, .int x1_7), (3, .int x3_31), (4, .int x4_32), (5, .int x5_33)] 1 C dX10_parts_248 (by decide) rfl (Nat.le_of_ble_eq_true rfl) rfl h (fun x2_39 h => ?_)
                  refine tz_goto 94 C dX10_parts_251 (by decide) ?_
                  exact tz_sub (ihag_8 _ _ h) [1, 2, 0] rfl
                · refine tz_aload_n 0 0 C dX10_parts_132 rfl rfl ?_
                  refine tz_getR C dX10_parts_133 fl_RX10_55 (by decide) rfl rfl ?_
                  refine tz_bipush 13 (by decide) C dX10_parts_136 ?_
                  refine tz_iload_n 1 1 C dX10_parts_138 rfl rfl ?_
                  refine tz_iconst 1 (by decide) C dX10_parts_139 ?_
                  refine tz_isub C dX10_parts_140 ?_
                  refine tz_imul C dX10_parts_141 ?_
                  refine tz_iload 5 C dX10_parts_142 rfl ?_
                  refine tz_iadd C dX10_parts_144 ?_
                  obtain ⟨hin, h⟩ := h
                  refine tz_iald C dX10_parts_145 (by decide) rfl hin ?_
                  refine tz_istore [(0, .ref _), (1, .int x1_7), (2, .int x2_10), (3, .int x3_31), (4, .int x4_32), (5, .int x5_33)] C dX10_parts_146 (Nat.le_of_ble_eq_true rfl) rfl h (fun x6_40 h => ?_)
                  refine tz_iload 0 C dX10_parts_148 rfl ?_
                  refine tz_aload_n 0 1 C dX10_parts_150 rfl rfl ?_
                  refine tz_getR C dX10_parts_151 fl_RX10_52 (by decide) rfl rfl ?_
                  refine tz_bipush 13 (by decide) C dX10_parts_154 ?_
                  refine tz_iload 6 C dX10_parts_156 rfl ?_
                  refine tz_imul C dX10_parts_158 ?_
                  refine tz_iload_n 2 3 C dX10_parts_159 rfl rfl ?_
                  refine tz_iadd C dX10_parts_160 ?_
                  obtain ⟨hin, h⟩ := h
                  refine tz_iald C dX10_parts_161 (by decide) rfl hin ?_
                  refine tz_iadd C dX10_parts_162 ?_
                  refine tz_istore [(6, .int x6_40), (0, .ref _), (1, .int x1_7), (2, .int x2_10), (3, .int x3_31), (4, .int x4_32), (5, .int x5_33)] C dX10_parts_163 (Nat.le_of_ble_eq_true rfl) rfl h (fun x7_41 h => ?_)
                  refine tz_iload 1 C dX10_parts_165 rfl ?_
                  refine tz_iconst (-1) (by decide) C dX10_parts_167 ?_
                  refine tz_icmp_eq 188 C dX10_parts_168 (by decide) h (fun h => ?_) (fun h => ?_)
                  · refine tz_iconst 0 (by decide) C dX10_parts_188 ?_
                    refine tz_istore_k [(7, .int x7_41), (6, .int x6_40), (0, .ref _), (1, .int x1_7), (2, .int x2_10), (3, .int x3_31), (4, .int x4_32), (5, .int x5_33)] C dX10_parts_189 (Nat.le_of_ble_eq_true rfl) rfl ?_
                    refine tz_iload 0 C dX10_parts_191 rfl ?_
                    refine tz_if_eq_t 201 C dX10_parts_193 (by decide) (by decide) ?_
                    refine tz_iload_n 3 6 C dX10_parts_201 rfl rfl ?_
                    refine tz_istore_n_k 3 [(8, .int 0), (7, .int x7_41), (6, .int x6_40), (0, .ref _), (1, .int x1_7), (2, .int x2_10), (4, .int x4_32), (5, .int x5_33)] C dX10_parts_202 rfl (Nat.le_of_ble_eq_true rfl) rfl ?_
                    refine tz_iload 1 C dX10_parts_203 rfl ?_
                    refine tz_if_eq_t 213 C dX10_parts_205 (by decide) (by decide) ?_
                    refine tz_iload 7 C dX10_parts_213 rfl ?_
                    refine tz_istore_k [(3, .int x3_31), (8, .int 0), (7, .int x7_41), (6, .int x6_40), (0, .ref _), (1, .int x1_7), (2, .int x2_10), (5, .int x5_33)] C dX10_parts_215 (Nat.le_of_ble_eq_true rfl) rfl ?_
                    refine tz_iinc 8 [(4, .int x4_32), (3, .int x3_31), (8, .int 0), (7, .int x7_41), (6, .int x6_40), (0, .ref _), (1, .int x1_7), (2, .int x2_10)] 1 C dX10_parts_217 (by decide) rfl (Nat.le_of_ble_eq_true rfl) rfl h (fun x5_42 h => ?_)
                    refine tz_goto 122 C dX10_parts_220 (by decide) ?_
                    exact tz_sub (ihag_29 _ _ _ _ h) [6, 7, 8, 2, 1, 0] rfl
                  · refine tz_iload 6 C dX10_parts_171 rfl ?_
                    refine tz_iconst (-1) (by decide) C dX10_parts_173 ?_
                    refine tz_icmp_eq 184 C dX10_parts_174 (by decide) h (fun h => ?_) (fun h => ?_)
                    · refine tz_iconst 1 (by decide) C dX10_parts_184 ?_
                      refine tz_goto 189 C dX10_parts_185 (by decide) ?_
                      refine tz_istore_k [(7, .int x7_41), (6, .int x6_40), (0, .ref _), (1, .int x1_7), (2, .int x2_10), (3, .int x3_31), (4, .int x4_32), (5, .int x5_33)] C dX10_parts_189 (Nat.le_of_ble_eq_true rfl) rfl ?_
                      refine tz_iload 0 C dX10_parts_191 rfl ?_
                      refine tz_if_eq_f 201 C dX10_parts_193 (by decide) (by decide) ?_
                      refine tz_iload 8 C dX10_parts_196 rfl ?_
                      refine tz_goto 202 C dX10_parts_198 (by decide) ?_
                      refine tz_istore_n_k 3 [(8, .int 1), (7, .int x7_41), (6, .int x6_40), (0, .ref _), (1, .int x1_7), (2, .int x2_10), (4, .int x4_32), (5, .int x5_33)] C dX10_parts_202 rfl (Nat.le_of_ble_eq_true rfl) rfl ?_
                      refine tz_iload 1 C dX10_parts_203 rfl ?_
                      refine tz_if_eq_f 213 C dX10_parts_205 (by decide) (by decide) ?_
                      refine tz_iload 2 C dX10_parts_208 rfl ?_
                      refine tz_goto 215 C dX10_parts_210 (by decide) ?_
                      refine tz_istore_k [(3, .int x5_33), (8, .int 1), (7, .int x7_41), (6, .int x6_40), (0, .ref _), (1, .int x1_7), (2, .int x2_10), (5, .int x5_33)] C dX10_parts_215 (Nat.le_of_ble_eq_true rfl) rfl ?_
                      refine tz_iinc 8 [(4, .int x7_41), (3, .int x5_33), (8, .int 1), (7, .int x7_41), (6, .int x6_40), (0, .ref _), (1, .int x1_7), (2, .int x2_10)] 1 C dX10_parts_217 (by decide) rfl (Nat.le_of_ble_eq_true rfl) rfl h (fun x5_43 h => ?_)
                      refine tz_goto 122 C dX10_parts_220 (by decide) ?_
                      exact tz_sub (ihag_29 _ _ _ _ h) [6, 7, 8, 2, 1, 0] rfl
                    · refine tz_iload 0 C dX10_parts_177 rfl ?_
                      refine tz_iload 6 C dX10_parts_179 rfl ?_
                      refine tz_icmp_ge 188 C dX10_parts_181 (by decide) h (fun h => ?_) (fun h => ?_)
                      · refine tz_iconst 0 (by decide) C dX10_parts_188 ?_
                        refine tz_istore_k [(7, .int x7_41), (6, .int x6_40), (0, .ref _), (1, .int x1_7), (2, .int x2_10), (3, .int x3_31), (4, .int x4_32), (5, .int x5_33)] C dX10_parts_189 (Nat.le_of_ble_eq_true rfl) rfl ?_
                        refine tz_iload 0 C dX10_parts_191 rfl ?_
                        refine tz_if_eq_t 201 C dX10_parts_193 (by decide) (by decide) ?_
                        refine tz_iload_n 3 6 C dX10_parts_201 rfl rfl ?_
                        refine tz_istore_n_k 3 [(8, .int 0), (7, .int x7_41), (6, .int x6_40), (0, .ref _), (1, .int x1_7), (2, .int x2_10), (4, .int x4_32), (5, .int x5_33)] C dX10_parts_202 rfl (Nat.le_of_ble_eq_true rfl) rfl ?_
                        refine tz_iload 1 C dX10_parts_203 rfl ?_
                        refine tz_if_eq_t 213 C dX10_parts_205 (by decide) (by decide) ?_
                        refine tz_iload 7 C dX10_parts_213 rfl ?_
                        refine tz_istore_k [(3, .int x3_31), (8, .int 0), (7, .int x7_41), (6, .int x6_40), (0, .ref _), (1, .int x1_7), (2, .int x2_10), (5, .int x5_33)] C dX10_parts_215 (Nat.le_of_ble_eq_true rfl) rfl ?_
                        refine tz_iinc 8 [(4, .int x4_32), (3, .int x3_31), (8, .int 0), (7, .int x7_41), (6, .int x6_40), (0, .ref _), (1, .int x1_7), (2, .int x2_10)] 1 C dX10_parts_217 (by decide) rfl (Nat.le_of_ble_eq_true rfl) rfl h (fun x5_44 h => ?_)
                        refine tz_goto 122 C dX10_parts_220 (by decide) ?_
                        exact tz_sub (ihag_29 _ _ _ _ h) [6, 7, 8, 2, 1, 0] rfl
                      · refine tz_iconst 1 (by decide) C dX10_parts_184 ?_
                        refine tz_goto 189 C dX10_parts_185 (by decide) ?_
                        refine tz_istore_k [(7, .int x7_41), (6, .int x6_40), (0, .ref _), (1, .int x1_7), (2, .int x2_10), (3, .int x3_31), (4, .int x4_32), (5, .int x5_33)] C dX10_parts_189 (Nat.le_of_ble_eq_true rfl) rfl ?_
                        refine tz_iload 0 C dX10_parts_191 rfl ?_
                        refine tz_if_eq_f 201 C dX10_parts_193 (by decide) (by decide) ?_
                        refine tz_iload 8 C dX10_parts_196 rfl ?_
                        refine tz_goto 202 C dX10_parts_198 (by decide) ?_
                        refine tz_istore_n_k 3 [(8, .int 1), (7, .int x7_41), (6, .int x6_40), (0, .ref _), (1, .int x1_7), (2, .int x2_10), (4, .int x4_32), (5, .int x5_33)] C dX10_parts_202 rfl (Nat.le_of_ble_eq_true rfl) rfl ?_
                        refine tz_iload 1 C dX10_parts_203 rfl ?_
                        refine tz_if_eq_f 213 C dX10_parts_205 (by decide) (by decide) ?_
                        refine tz_iload 2 C dX10_parts_208 rfl ?_
                        refine tz_goto 215 C dX10_parts_210 (by decide) ?_
                        refine tz_istore_k [(3, .int x5_33), (8, .int 1), (7, .int x7_41), (6, .int x6_40), (0, .ref _), (1, .int x1_7), (2, .int x2_10), (5, .int x5_33)] C dX10_parts_215 (Nat.le_of_ble_eq_true rfl) rfl ?_
                        refine tz_iinc 8 [(4, .int x7_41), (3, .int x5_33), (8, .int 1), (7, .int x7_41), (6, .int x6_40), (0, .ref _), (1, .int x1_7), (2, .int x2_10)] 1 C dX10_parts_217 (by decide) rfl (Nat.le_of_ble_eq_true rfl) rfl h (fun x5_45 h => ?_)
                        refine tz_goto 122 C dX10_parts_220 (by decide) ?_
                        exact tz_sub (ihag_29 _ _ _ _ h) [6, 7, 8, 2, 1, 0] rfl
            · refine tz_iconst 0 (by decide) C dX10_parts_112 ?_
              refine tz_goto 117 C dX10_parts_113 (by decide) ?_
              refine tz_istore_k [(3, .int (-1)), (0, .ref _), (1, .int x1_7), (2, .int x2_10)] C dX10_parts_117 (Nat.le_of_ble_eq_true rfl) rfl ?_
              refine tz_iconst 0 (by decide) C dX10_parts_119 ?_
              refine tz_istore_k [(4, .int 0), (3, .int (-1)), (0, .ref _), (1, .int x1_7), (2, .int x2_10)] C dX10_parts_120 (Nat.le_of_ble_eq_true rfl) rfl ?_
              refine tz_sub (L := [(0, .ref _), (1, .int x1_7), (2, .int x2_10), (3, .int (-1)), (4, .int 0), (5, .int 0)]) ?_ [3, 4, 5, 2, 1, 0] rfl
              refine tz_loop3_w (V := fun (x3_48 : Int32) (x4_49 : Int32) (x5_50 : Int32) (σ_47 : tzS) => tz_V G E 122 [(0, .ref _), (1, .int x1_7), (2, .int x2_10), (3, .int x3_48), (4, .int x4_49), (5, .int x5_50)] [] σ_47) h (fun ag_46 ihag_46 x3_48 x4_49 x5_50 σ_47 h => ?_)
              refine tz_iload 5 C dX10_parts_122 rfl ?_
              refine tz_iload_n 2 2 C dX10_parts_124 rfl rfl ?_
              refine tz_icmp_ge 223 C dX10_parts_125 (by decide) h (fun h => ?_) (fun h => ?_)
              · refine tz_aload_n 0 0 C dX10_parts_223 rfl rfl ?_
                refine tz_getR C dX10_parts_224 fl_RX10_55 (by decide) rfl rfl ?_
                refine tz_bipush 13 (by decide) C dX10_parts_227 ?_
                refine tz_iload_n 1 1 C dX10_parts_229 rfl rfl ?_
                refine tz_imul C dX10_parts_230 ?_
                refine tz_iload_n 2 2 C dX10_parts_231 rfl rfl ?_
                refine tz_iadd C dX10_parts_232 ?_
                refine tz_iload 4 C dX10_parts_233 rfl ?_
                refine tz_iast C dX10_parts_235 (by decide) rfl h (fun σ_51 h => ?_)
                refine tz_aload_n 0 0 C dX10_parts_236 rfl rfl ?_
                refine tz_getR C dX10_parts_237 fl_RX10_58 (by decide) rfl rfl ?_
                refine tz_bipush 13 (by decide) C dX10_parts_240 ?_
                refine tz_iload_n 1 1 C dX10_parts_242 rfl rfl ?_
                refine tz_imul C dX10_parts_243 ?_
                refine tz_iload_n 2 2 C dX10_parts_244 rfl rfl ?_
                refine tz_iadd C dX10_parts_245 ?_
                refine tz_iload_n 3 3 C dX10_parts_246 rfl rfl ?_
                refine tz_iast C dX10_parts_247 (by decide) rfl h (fun σ_52 h => ?_)
                refine tz_iinc 2 [(0, .ref _), (1, .int x1_7), (3, .int x3_48), (4, .int x4_49), (5, .int x5_50)] 1 C dX10_parts_248 (by decide) rfl (Nat.le_of_ble_eq_true rfl) rfl h (fun x2_53 h => ?_)
                refine tz_goto 94 C dX10_parts_251 (by decide) ?_
                exact tz_sub (ihag_8 _ _ h) [1, 2, 0] rfl
              · refine tz_iload_n 1 1 C dX10_parts_128 rfl rfl ?_
                refine tz_if_le 223 C dX10_parts_129 (by decide) h (fun h => ?_) (fun h => ?_)
                · refine tz_aload_n 0 0 C dX10_parts_223 rfl rfl ?_
                  refine tz_getR C dX10_parts_224 fl_RX10_55 (by decide) rfl rfl ?_
                  refine tz_bipush 13 (by decide) C dX10_parts_227 ?_
                  refine tz_iload_n 1 1 C dX10_parts_229 rfl rfl ?_
                  refine tz_imul C dX10_parts_230 ?_
                  refine tz_iload_n 2 2 C dX10_parts_231 rfl rfl ?_
                  refine tz_iadd C dX10_parts_232 ?_
                  refine tz_iload 4 C dX10_parts_233 rfl ?_
                  refine tz_iast C dX10_parts_235 (by decide) rfl h (fun σ_54 h => ?_)
                  refine tz_aload_n 0 0 C dX10_parts_236 rfl rfl ?_
                  refine tz_getR C dX10_parts_237 fl_RX10_58 (by decide) rfl rfl ?_
                  refine tz_bipush 13 (by decide) C dX10_parts_240 ?_
                  refine tz_iload_n 1 1 C dX10_parts_242 rfl rfl ?_
                  refine tz_imul C dX10_parts_243 ?_
                  refine tz_iload_n 2 2 C dX10_parts_244 rfl rfl ?_
                  refine tz_iadd C dX10_parts_245 ?_
                  refine tz_iload_n 3 3 C dX10_parts_246 rfl rfl ?_
                  refine tz_iast C dX10_parts_247 (by decide) rfl h (fun σ_55 h => ?_)
                  refine tz_iinc 2 [(0, .ref _), (1, .int x1_7), (3, .int x3_48), (4, .int x4_49), (5, .int x5_50)] 1 C dX10_parts_248 (by decide) rfl (Nat.le_of_ble_eq_true rfl) rfl h (fun x2_56 h => ?_)
                  refine tz_goto 94 C dX10_parts_251 (by decide) ?_
                  exact tz_sub (ihag_8 _ _ h) [1, 2, 0] rfl
                · refine tz_aload_n 0 0 C dX10_parts_132 rfl rfl ?_
                  refine tz_getR C dX10_parts_133 fl_RX10_55 (by decide) rfl rfl ?_
                  refine tz_bipush 13 (by decide) C dX10_parts_136 ?_
                  refine tz_iload_n 1 1 C dX10_parts_138 rfl rfl ?_
                  refine tz_iconst 1 (by decide) C dX10_parts_139 ?_
                  refine tz_isub C dX10_parts_140 ?_
                  refine tz_imul C dX10_parts_141 ?_
                  refine tz_iload 5 C dX10_parts_142 rfl ?_
                  refine tz_iadd C dX10_parts_144 ?_
                  obtain ⟨hin, h⟩ := h
                  refine tz_iald C dX10_parts_145 (by decide) rfl hin ?_
                  refine tz_istore [(0, .ref _), (1, .int x1_7), (2, .int x2_10), (3, .int x3_48), (4, .int x4_49), (5, .int x5_50)] C dX10_parts_146 (Nat.le_of_ble_eq_true rfl) rfl h (fun x6_57 h => ?_)
                  refine tz_iload 0 C dX10_parts_148 rfl ?_
                  refine tz_aload_n 0 1 C dX10_parts_150 rfl rfl ?_
                  refine tz_getR C dX10_parts_151 fl_RX10_52 (by decide) rfl rfl ?_
                  refine tz_bipush 13 (by decide) C dX10_parts_154 ?_
                  refine tz_iload 6 C dX10_parts_156 rfl ?_
                  refine tz_imul C dX10_parts_158 ?_
                  refine tz_iload_n 2 3 C dX10_parts_159 rfl rfl ?_
                  refine tz_iadd C dX10_parts_160 ?_
                  obtain ⟨hin, h⟩ := h
                  refine tz_iald C dX10_parts_161 (by decide) rfl hin ?_
                  refine tz_iadd C dX10_parts_162 ?_
                  refine tz_istore [(6, .int x6_57), (0, .ref _), (1, .int x1_7), (2, .int x2_10), (3, .int x3_48), (4, .int x4_49), (5, .int x5_50)] C dX10_parts_163 (Nat.le_of_ble_eq_true rfl) rfl h (fun x7_58 h => ?_)
                  refine tz_iload 1 C dX10_parts_165 rfl ?_
                  refine tz_iconst (-1) (by decide) C dX10_parts_167 ?_
                  refine tz_icmp_eq 188 C dX10_parts_168 (by decide) h (fun h => ?_) (fun h => ?_)
                  · refine tz_iconst 0 (by decide) C dX10_parts_188 ?_
                    refine tz_istore_k [(7, .int x7_58), (6, .int x6_57), (0, .ref _), (1, .int x1_7), (2, .int x2_10), (3, .int x3_48), (4, .int x4_49), (5, .int x5_50)] C dX10_parts_189 (Nat.le_of_ble_eq_true rfl) rfl ?_
                    refine tz_iload 0 C dX10_parts_191 rfl ?_
                    refine tz_if_eq_t 201 C dX10_parts_193 (by decide) (by decide) ?_
                    refine tz_iload_n 3 6 C dX10_parts_201 rfl rfl ?_
                    refine tz_istore_n_k 3 [(8, .int 0), (7, .int x7_58), (6, .int x6_57), (0, .ref _), (1, .int x1_7), (2, .int x2_10), (4, .int x4_49), (5, .int x5_50)] C dX10_parts_202 rfl (Nat.le_of_ble_eq_true rfl) rfl ?_
                    refine tz_iload 1 C dX10_parts_203 rfl ?_
                    refine tz_if_eq_t 213 C dX10_parts_205 (by decide) (by decide) ?_
                    refine tz_iload 7 C dX10_parts_213 rfl ?_
                    refine tz_istore_k [(3, .int x3_48), (8, .int 0), (7, .int x7_58), (6, .int x6_57), (0, .ref _), (1, .int x1_7), (2, .int x2_10), (5, .int x5_50)] C dX10_parts_215 (Nat.le_of_ble_eq_true rfl) rfl ?_
                    refine tz_iinc 8 [(4, .int x4_49), (3, .int x3_48), (8, .int 0), (7, .int x7_58), (6, .int x6_57), (0, .ref _), (1, .int x1_7), (2, .int x2_10)] 1 C dX10_parts_217 (by decide) rfl (Nat.le_of_ble_eq_true rfl) rfl h (fun x5_59 h => ?_)
                    refine tz_goto 122 C dX10_parts_220 (by decide) ?_
                    exact tz_sub (ihag_46 _ _ _ _ h) [6, 7, 8, 2, 1, 0] rfl
                  · refine tz_iload 6 C dX10_parts_171 rfl ?_
                    refine tz_iconst (-1) (by decide) C dX10_parts_173 ?_
                    refine tz_icmp_eq 184 C dX10_parts_174 (by decide) h (fun h => ?_) (fun h => ?_)
                    · refine tz_iconst 1 (by decide) C dX10_parts_184 ?_
                      refine tz_goto 189 C dX10_parts_185 (by decide) ?_
                      refine tz_istore_k [(7, .int x7_58), (6, .int x6_57), (0, .ref _), (1, .int x1_7), (2, .int x2_10), (3, .int x3_48), (4, .int x4_49), (5, .int x5_50)] C dX10_parts_189 (Nat.le_of_ble_eq_true rfl) rfl ?_
                      refine tz_iload 0 C dX10_parts_191 rfl ?_
                      refine tz_if_eq_f 201 C dX10_parts_193 (by decide) (by decide) ?_
                      refine tz_iload 8 C dX10_parts_196 rfl ?_
                      refine tz_goto 202 C dX10_parts_198 (by decide) ?_
                      refine tz_istore_n_k 3 [(8, .int 1), (7, .int x7_58), (6, .int x6_57), (0, .ref _), (1, .int x1_7), (2, .int x2_10), (4, .int x4_49), (5, .int x5_50)] C dX10_parts_202 rfl (Nat.le_of_ble_eq_true rfl) rfl ?_
                      refine tz_iload 1 C dX10_parts_203 rfl ?_
                      refine tz_if_eq_f 213 C dX10_parts_205 (by decide) (by decide) ?_
                      refine tz_iload 2 C dX10_parts_208 rfl ?_
                      refine tz_goto 215 C dX10_parts_210 (by decide) ?_
                      refine tz_istore_k [(3, .int x5_50), (8, .int 1), (7, .int x7_58), (6, .int x6_57), (0, .ref _), (1, .int x1_7), (2, .int x2_10), (5, .int x5_50)] C dX10_parts_215 (Nat.le_of_ble_eq_true rfl) rfl ?_
                      refine tz_iinc 8 [(4, .int x7_58), (3, .int x5_50), (8, .int 1), (7, .int x7_58), (6, .int x6_57), (0, .ref _), (1, .int x1_7), (2, .int x2_10)] 1 C dX10_parts_217 (by decide) rfl (Nat.le_of_ble_eq_true rfl) rfl h (fun x5_60 h => ?_)
                      refine tz_goto 122 C dX10_parts_220 (by decide) ?_
                      exact tz_sub (ihag_46 _ _ _ _ h) [6, 7, 8, 2, 1, 0] rfl
                    · refine tz_iload 0 C dX10_parts_177 rfl ?_
                      refine tz_iload 6 C dX10_parts_179 rfl ?_
                      refine tz_icmp_ge 188 C dX10_parts_181 (by decide) h (fun h => ?_) (fun h => ?_)
                      · refine tz_iconst 0 (by decide) C dX10_parts_188 ?_
                        refine tz_istore_k [(7, .int x7_58), (6, .int x6_57), (0, .ref _), (1, .int x1_7), (2, .int x2_10), (3, .int x3_48), (4, .int x4_49), (5, .int x5_50)] C dX10_parts_189 (Nat.le_of_ble_eq_true rfl) rfl ?_
                        refine tz_iload 0 C dX10_parts_191 rfl ?_
                        refine tz_if_eq_t 201 C dX10_parts_193 (by decide) (by decide) ?_
                        refine tz_iload_n 3 6 C dX10_parts_201 rfl rfl ?_
                        refine tz_istore_n_k 3 [(8, .int 0), (7, .int x7_58), (6, .int x6_57), (0, .ref _), (1, .int x1_7), (2, .int x2_10), (4, .int x4_49), (5, .int x5_50)] C dX10_parts_202 rfl (Nat.le_of_ble_eq_true rfl) rfl ?_
                        refine tz_iload 1 C dX10_parts_203 rfl ?_
                        refine tz_if_eq_t 213 C dX10_parts_205 (by decide) (by decide) ?_
                        refine tz_iload 7 C dX10_parts_213 rfl ?_
                        refine tz_istore_k [(3, .int x3_48), (8, .int 0), (7, .int x7_58), (6, .int x6_57), (0, .ref _), (1, .int x1_7), (2, .int x2_10), (5, .int x5_50)] C dX10_parts_215 (Nat.le_of_ble_eq_true rfl) rfl ?_
                        refine tz_iinc 8 [(4, .int x4_49), (3, .int x3_48), (8, .int 0), (7, .int x7_58), (6, .int x6_57), (0, .ref _), (1, .int x1_7), (2, .int x2_10)] 1 C dX10_parts_217 (by decide) rfl (Nat.le_of_ble_eq_true rfl) rfl h (fun x5_61 h => ?_)
                        refine tz_goto 122 C dX10_parts_220 (by decide) ?_
                        exact tz_sub (ihag_46 _ _ _ _ h) [6, 7, 8, 2, 1, 0] rfl
                      · refine tz_iconst 1 (by decide) C dX10_parts_184 ?_
                        refine tz_goto 189 C dX10_parts_185 (by decide) ?_
                        refine tz_istore_k [(7, .int x7_58), (6, .int x6_57), (0, .ref _), (1, .int x1_7), (2, .int x2_10), (3, .int x3_48), (4, .int x4_49), (5, .int x5_50)] C dX10_parts_189 (Nat.le_of_ble_eq_true rfl) rfl ?_
                        refine tz_iload 0 C dX10_parts_191 rfl ?_
                        refine tz_if_eq_f 201 C dX10_parts_193 (by decide) (by decide) ?_
                        refine tz_iload 8 C dX10_parts_196 rfl ?_
                        refine tz_goto 202 C dX10_parts_198 (by decide) ?_
                        refine tz_istore_n_k 3 [(8, .int 1), (7, .int x7_58), (6, .int x6_57), (0, .ref _), (1, .int x1_7), (2, .int x2_10), (4, .int x4_49), (5, .int x5_50)] C dX10_parts_202 rfl (Nat.le_of_ble_eq_true rfl) rfl ?_
                        refine tz_iload 1 C dX10_parts_203 rfl ?_
                        refine tz_if_eq_f 213 C dX10_parts_205 (by decide) (by decide) ?_
                        refine tz_iload 2 C dX10_parts_208 rfl ?_
                        refine tz_goto 215 C dX10_parts_210 (by decide) ?_
                        refine tz_istore_k [(3, .int x5_50), (8, .int 1), (7, .int x7_58), (6, .int x6_57), (0, .ref _), (1, .int x1_7), (2, .int x2_10), (5, .int x5_50)] C dX10_parts_215 (Nat.le_of_ble_eq_true rfl) rfl ?_
                        refine tz_iinc 8 [(4, .int x7_58), (3, .int x5_50), (8, .int 1), (7, .int x7_58), (6, .int x6_57), (0, .ref _), (1, .int x1_7), (2, .int x2_10)] 1 C dX10_parts_217 (by decide) rfl (Nat.le_of_ble_eq_true rfl) rfl h (fun x5_62 h => ?_)
                        refine tz_goto 122 C dX10_parts_220 (by decide) ?_
                        exact tz_sub (ihag_46 _ _ _ _ h) [6, 7, 8, 2, 1, 0] rfl
    · refine tz_iload_n 1 1 C dX10_parts_35 rfl rfl ?_
      refine tz_iconst 1 (by decide) C dX10_parts_36 ?_
      refine tz_iadd C dX10_parts_37 ?_
      refine tz_istore_n 2 [(0, .ref _), (1, .int x1_4)] C dX10_parts_38 rfl (Nat.le_of_ble_eq_true rfl) rfl h (fun x2_63 h => ?_)
      refine tz_sub (L := [(0, .ref _), (1, .int x1_4), (2, .int x2_63)]) ?_ [1, 2, 0] rfl
      refine tz_loop1_w (V := fun (x2_66 : Int32) (σ_65 : tzS) => tz_V G E 39 [(0, .ref _), (1, .int x1_4), (2, .int x2_66)] [] σ_65) h (fun ag_64 ihag_64 x2_66 σ_65 h => ?_)
      refine tz_iload_n 2 2 C dX10_parts_39 rfl rfl ?_
      refine tz_aload_n 0 0 C dX10_parts_40 rfl rfl ?_
      refine tz_getI C dX10_parts_41 fl_RX10_219 (by decide) rfl rfl ?_
      refine tz_icmp_gt 78 C dX10_parts_44 (by decide) h (fun h => ?_) (fun h => ?_)
      · refine tz_iinc 1 [(0, .ref _), (2, .int x2_66)] 1 C dX10_parts_78 (by decide) rfl (Nat.le_of_ble_eq_true rfl) rfl h (fun x1_67 h => ?_)
        refine tz_goto 27 C dX10_parts_81 (by decide) ?_
        exact tz_sub (ihag_2 _ _ h) [1, 0] rfl
      · refine tz_aload_n 0 0 C dX10_parts_47 rfl rfl ?_
        refine tz_getR C dX10_parts_48 fl_RX10_52 (by decide) rfl rfl ?_
        refine tz_bipush 13 (by decide) C dX10_parts_51 ?_
        refine tz_iload_n 1 1 C dX10_parts_53 rfl rfl ?_
        refine tz_imul C dX10_parts_54 ?_
        refine tz_iload_n 2 2 C dX10_parts_55 rfl rfl ?_
        refine tz_iadd C dX10_parts_56 ?_
        refine tz_aload_n 0 0 C dX10_parts_57 rfl rfl ?_
        refine tz_aload_n 0 0 C dX10_parts_58 rfl rfl ?_
        refine tz_iload_n 1 1 C dX10_parts_59 rfl rfl ?_
        refine tz_calliv C dX10_parts_60 lk_RX10_222 (m_X10_placeOf G hG  h) (by decide) rfl rfl rfl rfl ⟨Nat.le_of_ble_eq_true rfl, Nat.le_of_ble_eq_true rfl⟩ (Nat.le_of_ble_eq_true rfl) rfl (fun r_69 σ_68 h => ?_)
        refine tz_aload_n 0 0 C dX10_parts_63 rfl rfl ?_
        refine tz_iload_n 2 2 C dX10_parts_64 rfl rfl ?_
        refine tz_calliv C dX10_parts_65 lk_RX10_222 (m_X10_placeOf G hG  h) (by decide) rfl rfl rfl rfl ⟨Nat.le_of_ble_eq_true rfl, Nat.le_of_ble_eq_true rfl⟩ (Nat.le_of_ble_eq_true rfl) rfl (fun r_71 σ_70 h => ?_)
        refine tz_calliv C dX10_parts_68 lk_RX10_213 (m_X10_costNow G hG  h) (by decide) rfl rfl rfl rfl ⟨Nat.le_of_ble_eq_true rfl, Nat.le_of_ble_eq_true rfl⟩ (Nat.le_of_ble_eq_true rfl) rfl (fun r_73 σ_72 h => ?_)
        refine tz_iast C dX10_parts_71 (by decide) rfl h (fun σ_74 h => ?_)
        refine tz_iinc 2 [(0, .ref _), (1, .int x1_4)] 1 C dX10_parts_72 (by decide) rfl (Nat.le_of_ble_eq_true rfl) rfl h (fun x2_75 h => ?_)
        refine tz_goto 39 C dX10_parts_75 (by decide) ?_
        exact tz_sub (ihag_64 _ _ h) [1, 2, 0] rfl
  · refine tz_aload_n 0 0 C dX10_parts_9 rfl rfl ?_
    refine tz_getI C dX10_parts_10 fl_RX10_109 (by decide) rfl rfl ?_
    refine tz_goto 22 C dX10_parts_13 (by decide) ?_
    refine tz_put C dX10_parts_22 fp_RX10_219 (by decide) rfl rfl rfl rfl h (fun σ_76 h => ?_)
    refine tz_iconst 0 (by decide) C dX10_parts_25 ?_
    refine tz_istore_n_k 1 [(0, .ref _)] C dX10_parts_26 rfl (Nat.le_of_ble_eq_true rfl) rfl ?_
    refine tz_sub (L := [(0, .ref _), (1, .int 0)]) ?_ [1, 0] rfl
    refine tz_loop1_w (V := fun (x1_79 : Int32) (σ_78 : tzS) => tz_V G E 27 [(0, .ref _), (1, .int x1_79)] [] σ_78) h (fun ag_77 ihag_77 x1_79 σ_78 h => ?_)
    refine tz_iload_n 1 1 C dX10_parts_27 rfl rfl ?_
    refine tz_aload_n 0 0 C dX10_parts_28 rfl rfl ?_
    refine tz_getI C dX10_parts_29 fl_RX10_219 (by decide) rfl rfl ?_
    refine tz_icmp_ge 84 C dX10_parts_32 (by decide) h (fun h => ?_) (fun h => ?_)
    · refine tz_iconst 0 (by decide) C dX10_parts_84 ?_
      refine tz_istore_n_k 1 [(0, .ref _)] C dX10_parts_85 rfl (Nat.le_of_ble_eq_true rfl) rfl ?_
      refine tz_sub (L := [(0, .ref _), (1, .int 0)]) ?_ [1, 0] rfl
      refine tz_loop1_w (V := fun (x1_82 : Int32) (σ_81 : tzS) => tz_V G E 86 [(0, .ref _), (1, .int x1_82)] [] σ_81) h (fun ag_80 ihag_80 x1_82 σ_81 h => ?_)
      refine tz_iload_n 1 1 C dX10_parts_86 rfl rfl ?_
      refine tz_bipush 9 (by decide) C dX10_parts_87 ?_
      refine tz_icmp_ge 260 C dX10_parts_89 (by decide) h (fun h => ?_) (fun h => ?_)
      · exact hret _ _ _ dX10_parts_260 h
      · refine tz_iconst 0 (by decide) C dX10_parts_92 ?_
        refine tz_istore_n_k 2 [(0, .ref _), (1, .int x1_82)] C dX10_parts_93 rfl (Nat.le_of_ble_eq_true rfl) rfl ?_
        refine tz_sub (L := [(0, .ref _), (1, .int x1_82), (2, .int 0)]) ?_ [1, 2, 0] rfl
        refine tz_loop1_w (V := fun (x2_85 : Int32) (σ_84 : tzS) => tz_V G E 94 [(0, .ref _), (1, .int x1_82), (2, .int x2_85)] [] σ_84) h (fun ag_83 ihag_83 x2_85 σ_84 h => ?_)
        refine tz_iload_n 2 2 C dX10_parts_94 rfl rfl ?_
        refine tz_aload_n 0 0 C dX10_parts_95 rfl rfl ?_
        refine tz_getI C dX10_parts_96 fl_RX10_219 (by decide) rfl rfl ?_
        refine tz_icmp_gt 254 C dX10_parts_99 (by decide) h (fun h => ?_) (fun h => ?_)
        · refine tz_iinc 1 [(0, .ref _), (2, .int x2_85)] 1 C dX10_parts_254 (by decide) rfl (Nat.le_of_ble_eq_true rfl) rfl h (fun x1_86 h => ?_)
          refine tz_goto 86 C dX10_parts_257 (by decide) ?_
          exact tz_sub (ihag_80 _ _ h) [1, 0] rfl
        · refine tz_iconst (-1) (by decide) C dX10_parts_102 ?_
          refine tz_istore_n_k 3 [(0, .ref _), (1, .int x1_82), (2, .int x2_85)] C dX10_parts_103 rfl (Nat.le_of_ble_eq_true rfl) rfl ?_
          refine tz_iload_n 1 2 C dX10_parts_104 rfl rfl ?_
          refine tz_if_ne 116 C dX10_parts_105 (by decide) h (fun h => ?_) (fun h => ?_)
          · refine tz_iconst (-1) (by decide) C dX10_parts_116 ?_
            refine tz_istore_k [(3, .int (-1)), (0, .ref _), (1, .int x1_82), (2, .int x2_85)] C dX10_parts_117 (Nat.le_of_ble_eq_true rfl) rfl ?_
            refine tz_iconst 0 (by decide) C dX10_parts_119 ?_
            refine tz_istore_k [(4, .int (-1)), (3, .int (-1)), (0, .ref _), (1, .int x1_82), (2, .int x2_85)] C dX10_parts_120 (Nat.le_of_ble_eq_true rfl) rfl ?_
            refine tz_sub (L := [(0, .ref _), (1, .int x1_82), (2, .int x2_85), (3, .int (-1)), (4, .int (-1)), (5, .int 0)]) ?_ [3, 4, 5, 2, 1, 0] rfl
            refine tz_loop3_w (V := fun (x3_89 : Int32) (x4_90 : Int32) (x5_91 : Int32) (σ_88 : tzS) => tz_V G E 122 [(0, .ref _), (1, .int x1_82), (2, .int x2_85), (3, .int x3_89), (4, .int x4_90), (5, .int x5_91)] [] σ_88) h (fun ag_87 ihag_87 x3_89 x4_90 x5_91 σ_88 h => ?_)
            refine tz_iload 5 C dX10_parts_122 rfl ?_
            refine tz_iload_n 2 2 C dX10_parts_124 rfl rfl ?_
            refine tz_icmp_ge 223 C dX10_parts_125 (by decide) h (fun h => ?_) (fun h => ?_)
            · refine tz_aload_n 0 0 C dX10_parts_223 rfl rfl ?_
              refine tz_getR C dX10_parts_224 fl_RX10_55 (by decide) rfl rfl ?_
              refine tz_bipush 13 (by decide) C dX10_parts_227 ?_
              refine tz_iload_n 1 1 C dX10_parts_229 rfl rfl ?_
              refine tz_imul C dX10_parts_230 ?_
              refine tz_iload_n 2 2 C dX10_parts_231 rfl rfl ?_
              refine tz_iadd C dX10_parts_232 ?_
              refine tz_iload 4 C dX10_parts_233 rfl ?_
              refine tz_iast C dX10_parts_235 (by decide) rfl h (fun σ_92 h => ?_)
              refine tz_aload_n 0 0 C dX10_parts_236 rfl rfl ?_
              refine tz_getR C dX10_parts_237 fl_RX10_58 (by decide) rfl rfl ?_
              refine tz_bipush 13 (by decide) C dX10_parts_240 ?_
              refine tz_iload_n 1 1 C dX10_parts_242 rfl rfl ?_
              refine tz_imul C dX10_parts_243 ?_
              refine tz_iload_n 2 2 C dX10_parts_244 rfl rfl ?_
              refine tz_iadd C dX10_parts_245 ?_
              refine tz_iload_n 3 3 C dX10_parts_246 rfl rfl ?_
              refine tz_iast C dX10_parts_247 (by decide) rfl h (fun σ_93 h => ?_)
              refine tz_iinc 2 [(0, .ref _), (1, .int x1_82), (3, .int x3_89), (4, .int x4_90), (5, .int x5_91)] 1 C dX10_parts_248 (by decide) rfl (Nat.le_of_ble_eq_true rfl) rfl h (fun x2_94 h => ?_)
              refine tz_goto 94 C dX10_parts_251 (by decide) ?_
              exact tz_sub (ihag_83 _ _ h) [1, 2, 0] rfl
            · refine tz_iload_n 1 1 C dX10_parts_128 rfl rfl ?_
              refine tz_if_le 223 C dX10_parts_129 (by decide) h (fun h => ?_) (fun h => ?_)
              · refine tz_aload_n 0 0 C dX10_parts_223 rfl rfl ?_
                refine tz_getR C dX10_parts_224 fl_RX10_55 (by decide) rfl rfl ?_
                refine tz_bipush 13 (by decide) C dX10_parts_227 ?_
                refine tz_iload_n 1 1 C dX10_parts_229 rfl rfl ?_
                refine tz_imul C dX10_parts_230 ?_
                refine tz_iload_n 2 2 C dX10_parts_231 rfl rfl ?_
                refine tz_iadd C dX10_parts_232 ?_
                refine tz_iload 4 C dX10_parts_233 rfl ?_
                refine tz_iast C dX10_parts_235 (by decide) rfl h (fun σ_95 h => ?_)
                refine tz_aload_n 0 0 C dX10_parts_236 rfl rfl ?_
                refine tz_getR C dX10_parts_237 fl_RX10_58 (by decide) rfl rfl ?_
                refine tz_bipush 13 (by decide) C dX10_parts_240 ?_
                refine tz_iload_n 1 1 C dX10_parts_242 rfl rfl ?_
                refine tz_imul C dX10_parts_243 ?_
                refine tz_iload_n 2 2 C dX10_parts_244 rfl rfl ?_
                refine tz_iadd C dX10_parts_245 ?_
                refine tz_iload_n 3 3 C dX10_parts_246 rfl rfl ?_
                refine tz_iast C dX10_parts_247 (by decide) rfl h (fun σ_96 h => ?_)
                refine tz_iinc 2 [(0, .ref _), (1, .int x1_82), (3, .int x3_89), (4, .int x4_90), (5, .int x5_91)] 1 C dX10_parts_248 (by decide) rfl (Nat.le_of_ble_eq_true rfl) rfl h (fun x2_97 h => ?_)
                refine tz_goto 94 C dX10_parts_251 (by decide) ?_
                exact tz_sub (ihag_83 _ _ h) [1, 2, 0] rfl
              · refine tz_aload_n 0 0 C dX10_parts_132 rfl rfl ?_
                refine tz_getR C dX10_parts_133 fl_RX10_55 (by decide) rfl rfl ?_
                refine tz_bipush 13 (by decide) C dX10_parts_136 ?_
                refine tz_iload_n 1 1 C dX10_parts_138 rfl rfl ?_
                refine tz_iconst 1 (by decide) C dX10_parts_139 ?_
                refine tz_isub C dX10_parts_140 ?_
                refine tz_imul C dX10_parts_141 ?_
                refine tz_iload 5 C dX10_parts_142 rfl ?_
                refine tz_iadd C dX10_parts_144 ?_
                obtain ⟨hin, h⟩ := h
                refine tz_iald C dX10_parts_145 (by decide) rfl hin ?_
                refine tz_istore [(0, .ref _), (1, .int x1_82), (2, .int x2_85), (3, .int x3_89), (4, .int x4_90), (5, .int x5_91)] C dX10_parts_146 (Nat.le_of_ble_eq_true rfl) rfl h (fun x6_98 h => ?_)
                refine tz_iload 0 C dX10_parts_148 rfl ?_
                refine tz_aload_n 0 1 C dX10_parts_150 rfl rfl ?_
                refine tz_getR C dX10_parts_151 fl_RX10_52 (by decide) rfl rfl ?_
                refine tz_bipush 13 (by decide) C dX10_parts_154 ?_
                refine tz_iload 6 C dX10_parts_156 rfl ?_
                refine tz_imul C dX10_parts_158 ?_
                refine tz_iload_n 2 3 C dX10_parts_159 rfl rfl ?_
                refine tz_iadd C dX10_parts_160 ?_
                obtain ⟨hin, h⟩ := h
                refine tz_iald C dX10_parts_161 (by decide) rfl hin ?_
                refine tz_iadd C dX10_parts_162 ?_
                refine tz_istore [(6, .int x6_98), (0, .ref _), (1, .int x1_82), (2, .int x2_85), (3, .int x3_89), (4, .int x4_90), (5, .int x5_91)] C dX10_parts_163 (Nat.le_of_ble_eq_true rfl) rfl h (fun x7_99 h => ?_)
                refine tz_iload 1 C dX10_parts_165 rfl ?_
                refine tz_iconst (-1) (by decide) C dX10_parts_167 ?_
                refine tz_icmp_eq 188 C dX10_parts_168 (by decide) h (fun h => ?_) (fun h => ?_)
                · refine tz_iconst 0 (by decide) C dX10_parts_188 ?_
                  refine tz_istore_k [(7, .int x7_99), (6, .int x6_98), (0, .ref _), (1, .int x1_82), (2, .int x2_85), (3, .int x3_89), (4, .int x4_90), (5, .int x5_91)] C dX10_parts_189 (Nat.le_of_ble_eq_true rfl) rfl ?_
                  refine tz_iload 0 C dX10_parts_191 rfl ?_
                  refine tz_if_eq_t 201 C dX10_parts_193 (by decide) (by decide) ?_
                  refine tz_iload_n 3 6 C dX10_parts_201 rfl rfl ?_
                  refine tz_istore_n_k 3 [(8, .int 0), (7, .int x7_99), (6, .int x6_98), (0, .ref _), (1, .int x1_82), (2, .int x2_85), (4, .int x4_90), (5, .int x5_91)] C dX10_parts_202 rfl (Nat.le_of_ble_eq_true rfl) rfl ?_
                  refine tz_iload 1 C dX10_parts_203 rfl ?_
                  refine tz_if_eq_t 213 C dX10_parts_205 (by decide) (by decide) ?_
                  refine tz_iload 7 C dX10_parts_213 rfl ?_
                  refine tz_istore_k [(3, .int x3_89), (8, .int 0), (7, .int x7_99), (6, .int x6_98), (0, .ref _), (1, .int x1_82), (2, .int x2_85), (5, .int x5_91)] C dX10_parts_215 (Nat.le_of_ble_eq_true rfl) rfl ?_
                  refine tz_iinc 8 [(4, .int x4_90), (3, .int x3_89), (8, .int 0), (7, .int x7_99), (6, .int x6_98), (0, .ref _), (1, .int x1_82), (2, .int x2_85)] 1 C dX10_parts_217 (by decide) rfl (Nat.le_of_ble_eq_true rfl) rfl h (fun x5_100 h => ?_)
                  refine tz_goto 122 C dX10_parts_220 (by decide) ?_
                  exact tz_sub (ihag_87 _ _ _ _ h) [6, 7, 8, 2, 1, 0] rfl
                · refine tz_iload 6 C dX10_parts_171 rfl ?_
                  refine tz_iconst (-1) (by decide) C dX10_parts_173 ?_
                  refine tz_icmp_eq 184 C dX10_parts_174 (by decide) h (fun h => ?_) (fun h => ?_)
                  · refine tz_iconst 1 (by decide) C dX10_parts_184 ?_
                    refine tz_goto 189 C dX10_parts_185 (by decide) ?_
                    refine tz_istore_k [(7, .int x7_99), (6, .int x6_98), (0, .ref _), (1, .int x1_82), (2, .int x2_85), (3, .int x3_89), (4, .int x4_90), (5, .int x5_91)] C dX10_parts_189 (Nat.le_of_ble_eq_true rfl) rfl ?_
                    refine tz_iload 0 C dX10_parts_191 rfl ?_
                    refine tz_if_eq_f 201 C dX10_parts_193 (by decide) (by decide) ?_
                    refine tz_iload 8 C dX10_parts_196 rfl ?_
                    refine tz_goto 202 C dX10_parts_198 (by decide) ?_
                    refine tz_istore_n_k 3 [(8, .int 1), (7, .int x7_99), (6, .int x6_98), (0, .ref _), (1, .int x1_82), (2, .int x2_85), (4, .int x4_90), (5, .int x5_91)] C dX10_parts_202 rfl (Nat.le_of_ble_eq_true rfl) rfl ?_
                    refine tz_iload 1 C dX10_parts_203 rfl ?_
                    refine tz_if_eq_f 213 C dX10_parts_205 (by decide) (by decide) ?_
                    refine tz_iload 2 C dX10_parts_208 rfl ?_
                    refine tz_goto 215 C dX10_parts_210 (by decide) ?_
                    refine tz_istore_k [(3, .int x5_91), (8, .int 1), (7, .int x7_99), (6, .int x6_98), (0, .ref _), (1, .int x1_82), (2, .int x2_85), (5, .int x5_91)] C dX10_parts_215 (Nat.le_of_ble_eq_true rfl) rfl ?_
                    refine tz_iinc 8 [(4, .int x7_99), (3, .int x5_91), (8, .int 1), (7, .int x7_99), (6, .int x6_98), (0, .ref _), (1, .int x1_82), (2, .int x2_85)] 1 C dX10_parts_217 (by decide) rfl (Nat.le_of_ble_eq_true rfl) rfl h (fun x5_101 h => ?_)
                    refine tz_goto 122 C dX10_parts_220 (by decide) ?_
                    exact tz_sub (ihag_87 _ _ _ _ h) [6, 7, 8, 2, 1, 0] rfl
                  · refine tz_iload 0 C dX10_parts_177 rfl ?_
                    refine tz_iload 6 C dX10_parts_179 rfl ?_
                    refine tz_icmp_ge 188 C dX10_parts_181 (by decide) h (fun h => ?_) (fun h => ?_)
                    · refine tz_iconst 0 (by decide) C dX10_parts_188 ?_
                      refine tz_istore_k [(7, .int x7_99), (6, .int x6_98), (0, .ref _), (1, .int x1_82), (2, .int x2_85), (3, .int x3_89), (4, .int x4_90), (5, .int x5_91)] C dX10_parts_189 (Nat.le_of_ble_eq_true rfl) rfl ?_
                      refine tz_iload 0 C dX10_parts_191 rfl ?_
                      refine tz_if_eq_t 201 C dX10_parts_193 (by decide) (by decide) ?_
                      refine tz_iload_n 3 6 C dX10_parts_201 rfl rfl ?_
                      refine tz_istore_n_k 3 [(8, .int 0), (7, .int x7_99), (6, .int x6_98), (0, .ref _), (1, .int x1_82), (2, .int x2_85), (4, .int x4_90), (5, .int x5_91)] C dX10_parts_202 rfl (Nat.le_of_ble_eq_true rfl) rfl ?_
                      refine tz_iload 1 C dX10_parts_203 rfl ?_
                      refine tz_if_eq_t 213 C dX10_parts_205 (by decide) (by decide) ?_
                      refine tz_iload 7 C dX10_parts_213 rfl ?_
                      refine tz_istore_k [(3, .int x3_89), (8, .int 0), (7, .int x7_99), (6, .int x6_98), (0, .ref _), (1, .int x1_82), (2, .int x2_85), (5, .int x5_91)] C dX10_parts_215 (Nat.le_of_ble_eq_true rfl) rfl ?_
                      refine tz_iinc 8 [(4, .int x4_90), (3, .int x3_89), (8, .int 0), (7, .int x7_99), (6, .int x6_98), (0, .ref _), (1, .int x1_82), (2, .int x2_85)] 1 C dX10_parts_217 (by decide) rfl (Nat.le_of_ble_eq_true rfl) rfl h (fun x5_102 h => ?_)
                      refine tz_goto 122 C dX10_parts_220 (by decide) ?_
                      exact tz_sub (ihag_87 _ _ _ _ h) [6, 7, 8, 2, 1, 0] rfl
                    · refine tz_iconst 1 (by decide) C dX10_parts_184 ?_
                      refine tz_goto 189 C dX10_parts_185 (by decide) ?_
                      refine tz_istore_k [(7, .int x7_99), (6, .int x6_98), (0, .ref _), (1, .int x1_82), (2, .int x2_85), (3, .int x3_89), (4, .int x4_90), (5, .int x5_91)] C dX10_parts_189 (Nat.le_of_ble_eq_true rfl) rfl ?_
                      refine tz_iload 0 C dX10_parts_191 rfl ?_
                      refine tz_if_eq_f 201 C dX10_parts_193 (by decide) (by decide) ?_
                      refine tz_iload 8 C dX10_parts_196 rfl ?_
                      refine tz_goto 202 C dX10_parts_198 (by decide) ?_
                      refine tz_istore_n_k 3 [(8, .int 1), (7, .int x7_99), (6, .int x6_98), (0, .ref _), (1, .int x1_82), (2, .int x2_85), (4, .int x4_90), (5, .int x5_91)] C dX10_parts_202 rfl (Nat.le_of_ble_eq_true rfl) rfl ?_
                      refine tz_iload 1 C dX10_parts_203 rfl ?_
                      refine tz_if_eq_f 213 C dX10_parts_205 (by decide) (by decide) ?_
                      refine tz_iload 2 C dX10_parts_208 rfl ?_
                      refine tz_goto 215 C dX10_parts_210 (by decide) ?_
                      refine tz_istore_k [(3, .int x5_91), (8, .int 1), (7, .int x7_99), (6, .int x6_98), (0, .ref _), (1, .int x1_82), (2, .int x2_85), (5, .int x5_91)] C dX10_parts_215 (Nat.le_of_ble_eq_true rfl) rfl ?_
                      refine tz_iinc 8 [(4, .int x7_99), (3, .int x5_91), (8, .int 1), (7, .int x7_99), (6, .int x6_98), (0, .ref _), (1, .int x1_82), (2, .int x2_85)] 1 C dX10_parts_217 (by decide) rfl (Nat.le_of_ble_eq_true rfl) rfl h (fun x5_103 h => ?_)
                      refine tz_goto 122 C dX10_parts_220 (by decide) ?_
                      exact tz_sub (ihag_87 _ _ _ _ h) [6, 7, 8, 2, 1, 0] rfl
          · refine tz_iload_n 2 3 C dX10_parts_108 rfl rfl ?_
            refine tz_if_ne 116 C dX10_parts_109 (by decide) h (fun h => ?_) (fun h => ?_)
            · refine tz_iconst (-1) (by decide) C dX10_parts_116 ?_
              refine tz_istore_k [(3, .int (-1)), (0, .ref _), (1, .int x1_82), (2, .int x2_85)] C dX10_parts_117 (Nat.le_of_ble_eq_true rfl) rfl ?_
              refine tz_iconst 0 (by decide) C dX10_parts_119 ?_
              refine tz_istore_k [(4, .int (-1)), (3, .int (-1)), (0, .ref _), (1, .int x1_82), (2, .int x2_85)] C dX10_parts_120 (Nat.le_of_ble_eq_true rfl) rfl ?_
              refine tz_sub (L := [(0, .ref _), (1, .int x1_82), (2, .int x2_85), (3, .int (-1)), (4, .int (-1)), (5, .int 0)]) ?_ [3, 4, 5, 2, 1, 0] rfl
              refine tz_loop3_w (V := fun (x3_106 : Int32) (x4_107 : Int32) (x5_108 : Int32) (σ_105 : tzS) => tz_V G E 122 [(0, .ref _), (1, .int x1_82), (2, .int x2_85), (3, .int x3_106), (4, .int x4_107), (5, .int x5_108)] [] σ_105) h (fun ag_104 ihag_104 x3_106 x4_107 x5_108 σ_105 h => ?_)
              refine tz_iload 5 C dX10_parts_122 rfl ?_
              refine tz_iload_n 2 2 C dX10_parts_124 rfl rfl ?_
              refine tz_icmp_ge 223 C dX10_parts_125 (by decide) h (fun h => ?_) (fun h => ?_)
              · refine tz_aload_n 0 0 C dX10_parts_223 rfl rfl ?_
                refine tz_getR C dX10_parts_224 fl_RX10_55 (by decide) rfl rfl ?_
                refine tz_bipush 13 (by decide) C dX10_parts_227 ?_
                refine tz_iload_n 1 1 C dX10_parts_229 rfl rfl ?_
                refine tz_imul C dX10_parts_230 ?_
                refine tz_iload_n 2 2 C dX10_parts_231 rfl rfl ?_
                refine tz_iadd C dX10_parts_232 ?_
                refine tz_iload 4 C dX10_parts_233 rfl ?_
                refine tz_iast C dX10_parts_235 (by decide) rfl h (fun σ_109 h => ?_)
                refine tz_aload_n 0 0 C dX10_parts_236 rfl rfl ?_
                refine tz_getR C dX10_parts_237 fl_RX10_58 (by decide) rfl rfl ?_
                refine tz_bipush 13 (by decide) C dX10_parts_240 ?_
                refine tz_iload_n 1 1 C dX10_parts_242 rfl rfl ?_
                refine tz_imul C dX10_parts_243 ?_
                refine tz_iload_n 2 2 C dX10_parts_244 rfl rfl ?_
                refine tz_iadd C dX10_parts_245 ?_
                refine tz_iload_n 3 3 C dX10_parts_246 rfl rfl ?_
                refine tz_iast C dX10_parts_247 (by decide) rfl h (fun σ_110 h => ?_)
                refine tz_iinc 2 [(0, .ref _), (1, .int x1_82), (3, .int x3_106), (4, .int x4_107), (5, .int x5_108)] 1 C dX10_parts_248 (by decide) rfl (Nat.le_of_ble_eq_true rfl) rfl h (fun x2_111 h => ?_)
                refine tz_goto 94 C dX10_parts_251 (by decide) ?_
                exact tz_sub (ihag_83 _ _ h) [1, 2, 0] rfl
              · refine tz_iload_n 1 1 C dX10_parts_128 rfl rfl ?_
                refine tz_if_le 223 C dX10_parts_129 (by decide) h (fun h => ?_) (fun h => ?_)
                · refine tz_aload_n 0 0 C dX10_parts_223 rfl rfl ?_
                  refine tz_getR C dX10_parts_224 fl_RX10_55 (by decide) rfl rfl ?_
                  refine tz_bipush 13 (by decide) C dX10_parts_227 ?_
                  refine tz_iload_n 1 1 C dX10_parts_229 rfl rfl ?_
                  refine tz_imul C dX10_parts_230 ?_
                  refine tz_iload_n 2 2 C dX10_parts_231 rfl rfl ?_
                  refine tz_iadd C dX10_parts_232 ?_
                  refine tz_iload 4 C dX10_parts_233 rfl ?_
                  refine tz_iast C dX10_parts_235 (by decide) rfl h (fun σ_112 h => ?_)
                  refine tz_aload_n 0 0 C dX10_parts_236 rfl rfl ?_
                  refine tz_getR C dX10_parts_237 fl_RX10_58 (by decide) rfl rfl ?_
                  refine tz_bipush 13 (by decide) C dX10_parts_240 ?_
                  refine tz_iload_n 1 1 C dX10_parts_242 rfl rfl ?_
                  refine tz_imul C dX10_parts_243 ?_
                  refine tz_iload_n 2 2 C dX10_parts_244 rfl rfl ?_
                  refine tz_iadd C dX10_parts_245 ?_
                  refine tz_iload_n 3 3 C dX10_parts_246 rfl rfl ?_
                  refine tz_iast C dX10_parts_247 (by decide) rfl h (fun σ_113 h => ?_)
                  refine tz_iinc 2 [(0, .ref _), (1, .int x1_82), (3, .int x3_106), (4, .int x4_107), (5, .int x5_108)] 1 C dX10_parts_248 (by decide) rfl (Nat.le_of_ble_eq_true rfl) rfl h (fun x2_114 h => ?_)
                  refine tz_goto 94 C dX10_parts_251 (by decide) ?_
                  exact tz_sub (ihag_83 _ _ h) [1, 2, 0] rfl
                · refine tz_aload_n 0 0 C dX10_parts_132 rfl rfl ?_
                  refine tz_getR C dX10_parts_133 fl_RX10_55 (by decide) rfl rfl ?_
                  refine tz_bipush 13 (by decide) C dX10_parts_136 ?_
                  refine tz_iload_n 1 1 C dX10_parts_138 rfl rfl ?_
                  refine tz_iconst 1 (by decide) C dX10_parts_139 ?_
                  refine tz_isub C dX10_parts_140 ?_
                  refine tz_imul C dX10_parts_141 ?_
                  refine tz_iload 5 C dX10_parts_142 rfl ?_
                  refine tz_iadd C dX10_parts_144 ?_
                  obtain ⟨hin, h⟩ := h
                  refine tz_iald C dX10_parts_145 (by decide) rfl hin ?_
                  refine tz_istore [(0, .ref _), (1, .int x1_82), (2, .int x2_85), (3, .int x3_106), (4, .int x4_107), (5, .int x5_108)] C dX10_parts_146 (Nat.le_of_ble_eq_true rfl) rfl h (fun x6_115 h => ?_)
                  refine tz_iload 0 C dX10_parts_148 rfl ?_
                  refine tz_aload_n 0 1 C dX10_parts_150 rfl rfl ?_
                  refine tz_getR C dX10_parts_151 fl_RX10_52 (by decide) rfl rfl ?_
                  refine tz_bipush 13 (by decide) C dX10_parts_154 ?_
                  refine tz_iload 6 C dX10_parts_156 rfl ?_
                  refine tz_imul C dX10_parts_158 ?_
                  refine tz_iload_n 2 3 C dX10_parts_159 rfl rfl ?_
                  refine tz_iadd C dX10_parts_160 ?_
                  obtain ⟨hin, h⟩ := h
                  refine tz_iald C dX10_parts_161 (by decide) rfl hin ?_
                  refine tz_iadd C dX10_parts_162 ?_
                  refine tz_istore [(6, .int x6_115), (0, .ref _), (1, .int x1_82), (2, .int x2_85), (3, .int x3_106), (4, .int x4_107), (5, .int x5_108)] C dX10_parts_163 (Nat.le_of_ble_eq_true rfl) rfl h (fun x7_116 h => ?_)
                  refine tz_iload 1 C dX10_parts_165 rfl ?_
                  refine tz_iconst (-1) (by decide) C dX10_parts_167 ?_
                  refine tz_icmp_eq 188 C dX10_parts_168 (by decide) h (fun h => ?_) (fun h => ?_)
                  · refine tz_iconst 0 (by decide) C dX10_parts_188 ?_
                    refine tz_istore_k [(7, .int x7_116), (6, .int x6_115), (0, .ref _), (1, .int x1_82), (2, .int x2_85), (3, .int x3_106), (4, .int x4_107), (5, .int x5_108)] C dX10_parts_189 (Nat.le_of_ble_eq_true rfl) rfl ?_
                    refine tz_iload 0 C dX10_parts_191 rfl ?_
                    refine tz_if_eq_t 201 C dX10_parts_193 (by decide) (by decide) ?_
                    refine tz_iload_n 3 6 C dX10_parts_201 rfl rfl ?_
                    refine tz_istore_n_k 3 [(8, .int 0), (7, .int x7_116), (6, .int x6_115), (0, .ref _), (1, .int x1_82), (2, .int x2_85), (4, .int x4_107), (5, .int x5_108)] C dX10_parts_202 rfl (Nat.le_of_ble_eq_true rfl) rfl ?_
                    refine tz_iload 1 C dX10_parts_203 rfl ?_
                    refine tz_if_eq_t 213 C dX10_parts_205 (by decide) (by decide) ?_
                    refine tz_iload 7 C dX10_parts_213 rfl ?_
                    refine tz_istore_k [(3, .int x3_106), (8, .int 0), (7, .int x7_116), (6, .int x6_115), (0, .ref _), (1, .int x1_82), (2, .int x2_85), (5, .int x5_108)] C dX10_parts_215 (Nat.le_of_ble_eq_true rfl) rfl ?_
                    refine tz_iinc 8 [(4, .int x4_107), (3, .int x3_106), (8, .int 0), (7, .int x7_116), (6, .int x6_115), (0, .ref _), (1, .int x1_82), (2, .int x2_85)] 1 C dX10_parts_217 (by decide) rfl (Nat.le_of_ble_eq_true rfl) rfl h (fun x5_117 h => ?_)
                    refine tz_goto 122 C dX10_parts_220 (by decide) ?_
                    exact tz_sub (ihag_104 _ _ _ _ h) [6, 7, 8, 2, 1, 0] rfl
                  · refine tz_iload 6 C dX10_parts_171 rfl ?_
                    refine tz_iconst (-1) (by decide) C dX10_parts_173 ?_
                    refine tz_icmp_eq 184 C dX10_parts_174 (by decide) h (fun h => ?_) (fun h => ?_)
                    · refine tz_iconst 1 (by decide) C dX10_parts_184 ?_
                      refine tz_goto 189 C dX10_parts_185 (by decide) ?_
                      refine tz_istore_k [(7, .int x7_116), (6, .int x6_115), (0, .ref _), (1, .int x1_82), (2, .int x2_85), (3, .int x3_106), (4, .int x4_107), (5, .int x5_108)] C dX10_parts_189 (Nat.le_of_ble_eq_true rfl) rfl ?_
                      refine tz_iload 0 C dX10_parts_191 rfl ?_
                      refine tz_if_eq_f 201 C dX10_parts_193 (by decide) (by decide) ?_
                      refine tz_iload 8 C dX10_parts_196 rfl ?_
                      refine tz_goto 202 C dX10_parts_198 (by decide) ?_
                      refine tz_istore_n_k 3 [(8, .int 1), (7, .int x7_116), (6, .int x6_115), (0, .ref _), (1, .int x1_82), (2, .int x2_85), (4, .int x4_107), (5, .int x5_108)] C dX10_parts_202 rfl (Nat.le_of_ble_eq_true rfl) rfl ?_
                      refine tz_iload 1 C dX10_parts_203 rfl ?_
                      refine tz_if_eq_f 213 C dX10_parts_205 (by decide) (by decide) ?_
                      refine tz_iload 2 C dX10_parts_208 rfl ?_
                      refine tz_goto 215 C dX10_parts_210 (by decide) ?_
                      refine tz_istore_k [(3, .int x5_108), (8, .int 1), (7, .int x7_116), (6, .int x6_115), (0, .ref _), (1, .int x1_82), (2, .int x2_85), (5, .int x5_108)] C dX10_parts_215 (Nat.le_of_ble_eq_true rfl) rfl ?_
                      refine tz_iinc 8 [(4, .int x7_116), (3, .int x5_108), (8, .int 1), (7, .int x7_116), (6, .int x6_115), (0, .ref _), (1, .int x1_82), (2, .int x2_85)] 1 C dX10_parts_217 (by decide) rfl (Nat.le_of_ble_eq_true rfl) rfl h (fun x5_118 h => ?_)
                      refine tz_goto 122 C dX10_parts_220 (by decide) ?_
                      exact tz_sub (ihag_104 _ _ _ _ h) [6, 7, 8, 2, 1, 0] rfl
                    · refine tz_iload 0 C dX10_parts_177 rfl ?_
                      refine tz_iload 6 C dX10_parts_179 rfl ?_
                      refine tz_icmp_ge 188 C dX10_parts_181 (by decide) h (fun h => ?_) (fun h => ?_)
                      · refine tz_iconst 0 (by decide) C dX10_parts_188 ?_
                        refine tz_istore_k [(7, .int x7_116), (6, .int x6_115), (0, .ref _), (1, .int x1_82), (2, .int x2_85), (3, .int x3_106), (4, .int x4_107), (5, .int x5_108)] C dX10_parts_189 (Nat.le_of_ble_eq_true rfl) rfl ?_
                        refine tz_iload 0 C dX10_parts_191 rfl ?_
                        refine tz_if_eq_t 201 C dX10_parts_193 (by decide) (by decide) ?_
                        refine tz_iload_n 3 6 C dX10_parts_201 rfl rfl ?_
                        refine tz_istore_n_k 3 [(8, .int 0), (7, .int x7_116), (6, .int x6_115), (0, .ref _), (1, .int x1_82), (2, .int x2_85), (4, .int x4_107), (5, .int x5_108)] C dX10_parts_202 rfl (Nat.le_of_ble_eq_true rfl) rfl ?_
                        refine tz_iload 1 C dX10_parts_203 rfl ?_
                        refine tz_if_eq_t 213 C dX10_parts_205 (by decide) (by decide) ?_
                        refine tz_iload 7 C dX10_parts_213 rfl ?_
                        refine tz_istore_k [(3, .int x3_106), (8, .int 0), (7, .int x7_116), (6, .int x6_115), (0, .ref _), (1, .int x1_82), (2, .int x2_85), (5, .int x5_108)] C dX10_parts_215 (Nat.le_of_ble_eq_true rfl) rfl ?_
                        refine tz_iinc 8 [(4, .int x4_107), (3, .int x3_106), (8, .int 0), (7, .int x7_116), (6, .int x6_115), (0, .ref _), (1, .int x1_82), (2, .int x2_85)] 1 C dX10_parts_217 (by decide) rfl (Nat.le_of_ble_eq_true rfl) rfl h (fun x5_119 h => ?_)
                        refine tz_goto 122 C dX10_parts_220 (by decide) ?_
                        exact tz_sub (ihag_104 _ _ _ _ h) [6, 7, 8, 2, 1, 0] rfl
                      · refine tz_iconst 1 (by decide) C dX10_parts_184 ?_
                        refine tz_goto 189 C dX10_parts_185 (by decide) ?_
                        refine tz_istore_k [(7, .int x7_116), (6, .int x6_115), (0, .ref _), (1, .int x1_82), (2, .int x2_85), (3, .int x3_106), (4, .int x4_107), (5, .int x5_108)] C dX10_parts_189 (Nat.le_of_ble_eq_true rfl) rfl ?_
                        refine tz_iload 0 C dX10_parts_191 rfl ?_
                        refine tz_if_eq_f 201 C dX10_parts_193 (by decide) (by decide) ?_
                        refine tz_iload 8 C dX10_parts_196 rfl ?_
                        refine tz_goto 202 C dX10_parts_198 (by decide) ?_
                        refine tz_istore_n_k 3 [(8, .int 1), (7, .int x7_116), (6, .int x6_115), (0, .ref _), (1, .int x1_82), (2, .int x2_85), (4, .int x4_107), (5, .int x5_108)] C dX10_parts_202 rfl (Nat.le_of_ble_eq_true rfl) rfl ?_
                        refine tz_iload 1 C dX10_parts_203 rfl ?_
                        refine tz_if_eq_f 213 C dX10_parts_205 (by decide) (by decide) ?_
                        refine tz_iload 2 C dX10_parts_208 rfl ?_
                        refine tz_goto 215 C dX10_parts_210 (by decide) ?_
                        refine tz_istore_k [(3, .int x5_108), (8, .int 1), (7, .int x7_116), (6, .int x6_115), (0, .ref _), (1, .int x1_82), (2, .int x2_85), (5, .int x5_108)] C dX10_parts_215 (Nat.le_of_ble_eq_true rfl) rfl ?_
                        refine tz_iinc 8 [(4, .int x7_116), (3, .int x5_108), (8, .int 1), (7, .int x7_116), (6, .int x6_115), (0, .ref _), (1, .int x1_82), (2, .int x2_85)] 1 C dX10_parts_217 (by decide) rfl (Nat.le_of_ble_eq_true rfl) rfl h (fun x5_120 h => ?_)
                        refine tz_goto 122 C dX10_parts_220 (by decide) ?_
                        exact tz_sub (ihag_104 _ _ _ _ h) [6, 7, 8, 2, 1, 0] rfl
            · refine tz_iconst 0 (by decide) C dX10_parts_112 ?_
              refine tz_goto 117 C dX10_parts_113 (by decide) ?_
              refine tz_istore_k [(3, .int (-1)), (0, .ref _), (1, .int x1_82), (2, .int x2_85)] C dX10_parts_117 (Nat.le_of_ble_eq_true rfl) rfl ?_
              refine tz_iconst 0 (by decide) C dX10_parts_119 ?_
              refine tz_istore_k [(4, .int 0), (3, .int (-1)), (0, .ref _), (1, .int x1_82), (2, .int x2_85)] C dX10_parts_120 (Nat.le_of_ble_eq_true rfl) rfl ?_
              refine tz_sub (L := [(0, .ref _), (1, .int x1_82), (2, .int x2_85), (3, .int (-1)), (4, .int 0), (5, .int 0)]) ?_ [3, 4, 5, 2, 1, 0] rfl
              refine tz_loop3_w (V := fun (x3_123 : Int32) (x4_124 : Int32) (x5_125 : Int32) (σ_122 : tzS) => tz_V G E 122 [(0, .ref _), (1, .int x1_82), (2, .int x2_85), (3, .int x3_123), (4, .int x4_124), (5, .int x5_125)] [] σ_122) h (fun ag_121 ihag_121 x3_123 x4_124 x5_125 σ_122 h => ?_)
              refine tz_iload 5 C dX10_parts_122 rfl ?_
              refine tz_iload_n 2 2 C dX10_parts_124 rfl rfl ?_
              refine tz_icmp_ge 223 C dX10_parts_125 (by decide) h (fun h => ?_) (fun h => ?_)
              · refine tz_aload_n 0 0 C dX10_parts_223 rfl rfl ?_
                refine tz_getR C dX10_parts_224 fl_RX10_55 (by decide) rfl rfl ?_
                refine tz_bipush 13 (by decide) C dX10_parts_227 ?_
                refine tz_iload_n 1 1 C dX10_parts_229 rfl rfl ?_
                refine tz_imul C dX10_parts_230 ?_
                refine tz_iload_n 2 2 C dX10_parts_231 rfl rfl ?_
                refine tz_iadd C dX10_parts_232 ?_
                refine tz_iload 4 C dX10_parts_233 rfl ?_
                refine tz_iast C dX10_parts_235 (by decide) rfl h (fun σ_126 h => ?_)
                refine tz_aload_n 0 0 C dX10_parts_236 rfl rfl ?_
                refine tz_getR C dX10_parts_237 fl_RX10_58 (by decide) rfl rfl ?_
                refine tz_bipush 13 (by decide) C dX10_parts_240 ?_
                refine tz_iload_n 1 1 C dX10_parts_242 rfl rfl ?_
                refine tz_imul C dX10_parts_243 ?_
                refine tz_iload_n 2 2 C dX10_parts_244 rfl rfl ?_
                refine tz_iadd C dX10_parts_245 ?_
                refine tz_iload_n 3 3 C dX10_parts_246 rfl rfl ?_
                refine tz_iast C dX10_parts_247 (by decide) rfl h (fun σ_127 h => ?_)
                refine tz_iinc 2 [(0, .ref _), (1, .int x1_82), (3, .int x3_123), (4, .int x4_124), (5, .int x5_125)] 1 C dX10_parts_248 (by decide) rfl (Nat.le_of_ble_eq_true rfl) rfl h (fun x2_128 h => ?_)
                refine tz_goto 94 C dX10_parts_251 (by decide) ?_
                exact tz_sub (ihag_83 _ _ h) [1, 2, 0] rfl
              · refine tz_iload_n 1 1 C dX10_parts_128 rfl rfl ?_
                refine tz_if_le 223 C dX10_parts_129 (by decide) h (fun h => ?_) (fun h => ?_)
                · refine tz_aload_n 0 0 C dX10_parts_223 rfl rfl ?_
                  refine tz_getR C dX10_parts_224 fl_RX10_55 (by decide) rfl rfl ?_
                  refine tz_bipush 13 (by decide) C dX10_parts_227 ?_
                  refine tz_iload_n 1 1 C dX10_parts_229 rfl rfl ?_
                  refine tz_imul C dX10_parts_230 ?_
                  refine tz_iload_n 2 2 C dX10_parts_231 rfl rfl ?_
                  refine tz_iadd C dX10_parts_232 ?_
                  refine tz_iload 4 C dX10_parts_233 rfl ?_
                  refine tz_iast C dX10_parts_235 (by decide) rfl h (fun σ_129 h => ?_)
                  refine tz_aload_n 0 0 C dX10_parts_236 rfl rfl ?_
                  refine tz_getR C dX10_parts_237 fl_RX10_58 (by decide) rfl rfl ?_
                  refine tz_bipush 13 (by decide) C dX10_parts_240 ?_
                  refine tz_iload_n 1 1 C dX10_parts_242 rfl rfl ?_
                  refine tz_imul C dX10_parts_243 ?_
                  refine tz_iload_n 2 2 C dX10_parts_244 rfl rfl ?_
                  refine tz_iadd C dX10_parts_245 ?_
                  refine tz_iload_n 3 3 C dX10_parts_246 rfl rfl ?_
                  refine tz_iast C dX10_parts_247 (by decide) rfl h (fun σ_130 h => ?_)
                  refine tz_iinc 2 [(0, .ref _), (1, .int x1_82), (3, .int x3_123), (4, .int x4_124), (5, .int x5_125)] 1 C dX10_parts_248 (by decide) rfl (Nat.le_of_ble_eq_true rfl) rfl h (fun x2_131 h => ?_)
                  refine tz_goto 94 C dX10_parts_251 (by decide) ?_
                  exact tz_sub (ihag_83 _ _ h) [1, 2, 0] rfl
                · refine tz_aload_n 0 0 C dX10_parts_132 rfl rfl ?_
                  refine tz_getR C dX10_parts_133 fl_RX10_55 (by decide) rfl rfl ?_
                  refine tz_bipush 13 (by decide) C dX10_parts_136 ?_
                  refine tz_iload_n 1 1 C dX10_parts_138 rfl rfl ?_
                  refine tz_iconst 1 (by decide) C dX10_parts_139 ?_
                  refine tz_isub C dX10_parts_140 ?_
                  refine tz_imul C dX10_parts_141 ?_
                  refine tz_iload 5 C dX10_parts_142 rfl ?_
                  refine tz_iadd C dX10_parts_144 ?_
                  obtain ⟨hin, h⟩ := h
                  refine tz_iald C dX10_parts_145 (by decide) rfl hin ?_
                  refine tz_istore [(0, .ref _), (1, .int x1_82), (2, .int x2_85), (3, .int x3_123), (4, .int x4_124), (5, .int x5_125)] C dX10_parts_146 (Nat.le_of_ble_eq_true rfl) rfl h (fun x6_132 h => ?_)
                  refine tz_iload 0 C dX10_parts_148 rfl ?_
                  refine tz_aload_n 0 1 C dX10_parts_150 rfl rfl ?_
                  refine tz_getR C dX10_parts_151 fl_RX10_52 (by decide) rfl rfl ?_
                  refine tz_bipush 13 (by decide) C dX10_parts_154 ?_
                  refine tz_iload 6 C dX10_parts_156 rfl ?_
                  refine tz_imul C dX10_parts_158 ?_
                  refine tz_iload_n 2 3 C dX10_parts_159 rfl rfl ?_
                  refine tz_iadd C dX10_parts_160 ?_
                  obtain ⟨hin, h⟩ := h
                  refine tz_iald C dX10_parts_161 (by decide) rfl hin ?_
                  refine tz_iadd C dX10_parts_162 ?_
                  refine tz_istore [(6, .int x6_132), (0, .ref _), (1, .int x1_82), (2, .int x2_85), (3, .int x3_123), (4, .int x4_124), (5, .int x5_125)] C dX10_parts_163 (Nat.le_of_ble_eq_true rfl) rfl h (fun x7_133 h => ?_)
                  refine tz_iload 1 C dX10_parts_165 rfl ?_
                  refine tz_iconst (-1) (by decide) C dX10_parts_167 ?_
                  refine tz_icmp_eq 188 C dX10_parts_168 (by decide) h (fun h => ?_) (fun h => ?_)
                  · refine tz_iconst 0 (by decide) C dX10_parts_188 ?_
                    refine tz_istore_k [(7, .int x7_133), (6, .int x6_132), (0, .ref _), (1, .int x1_82), (2, .int x2_85), (3, .int x3_123), (4, .int x4_124), (5, .int x5_125)] C dX10_parts_189 (Nat.le_of_ble_eq_true rfl) rfl ?_
                    refine tz_iload 0 C dX10_parts_191 rfl ?_
                    refine tz_if_eq_t 201 C dX10_parts_193 (by decide) (by decide) ?_
                    refine tz_iload_n 3 6 C dX10_parts_201 rfl rfl ?_
                    refine tz_istore_n_k 3 [(8, .int 0), (7, .int x7_133), (6, .int x6_132), (0, .ref _), (1, .int x1_82), (2, .int x2_85), (4, .int x4_124), (5, .int x5_125)] C dX10_parts_202 rfl (Nat.le_of_ble_eq_true rfl) rfl ?_
                    refine tz_iload 1 C dX10_parts_203 rfl ?_
                    refine tz_if_eq_t 213 C dX10_parts_205 (by decide) (by decide) ?_
                    refine tz_iload 7 C dX10_parts_213 rfl ?_
                    refine tz_istore_k [(3, .int x3_123), (8, .int 0), (7, .int x7_133), (6, .int x6_132), (0, .ref _), (1, .int x1_82), (2, .int x2_85), (5, .int x5_125)] C dX10_parts_215 (Nat.le_of_ble_eq_true rfl) rfl ?_
                    refine tz_iinc 8 [(4, .int x4_124), (3, .int x3_123), (8, .int 0), (7, .int x7_133), (6, .int x6_132), (0, .ref _), (1, .int x1_82), (2, .int x2_85)] 1 C dX10_parts_217 (by decide) rfl (Nat.le_of_ble_eq_true rfl) rfl h (fun x5_134 h => ?_)
                    refine tz_goto 122 C dX10_parts_220 (by decide) ?_
                    exact tz_sub (ihag_121 _ _ _ _ h) [6, 7, 8, 2, 1, 0] rfl
                  · refine tz_iload 6 C dX10_parts_171 rfl ?_
                    refine tz_iconst (-1) (by decide) C dX10_parts_173 ?_
                    refine tz_icmp_eq 184 C dX10_parts_174 (by decide) h (fun h => ?_) (fun h => ?_)
                    · refine tz_iconst 1 (by decide) C dX10_parts_184 ?_
                      refine tz_goto 189 C dX10_parts_185 (by decide) ?_
                      refine tz_istore_k [(7, .int x7_133), (6, .int x6_132), (0, .ref _), (1, .int x1_82), (2, .int x2_85), (3, .int x3_123), (4, .int x4_124), (5, .int x5_125)] C dX10_parts_189 (Nat.le_of_ble_eq_true rfl) rfl ?_
                      refine tz_iload 0 C dX10_parts_191 rfl ?_
                      refine tz_if_eq_f 201 C dX10_parts_193 (by decide) (by decide) ?_
                      refine tz_iload 8 C dX10_parts_196 rfl ?_
                      refine tz_goto 202 C dX10_parts_198 (by decide) ?_
                      refine tz_istore_n_k 3 [(8, .int 1), (7, .int x7_133), (6, .int x6_132), (0, .ref _), (1, .int x1_82), (2, .int x2_85), (4, .int x4_124), (5, .int x5_125)] C dX10_parts_202 rfl (Nat.le_of_ble_eq_true rfl) rfl ?_
                      refine tz_iload 1 C dX10_parts_203 rfl ?_
                      refine tz_if_eq_f 213 C dX10_parts_205 (by decide) (by decide) ?_
                      refine tz_iload 2 C dX10_parts_208 rfl ?_
                      refine tz_goto 215 C dX10_parts_210 (by decide) ?_
                      refine tz_istore_k [(3, .int x5_125), (8, .int 1), (7, .int x7_133), (6, .int x6_132), (0, .ref _), (1, .int x1_82), (2, .int x2_85), (5, .int x5_125)] C dX10_parts_215 (Nat.le_of_ble_eq_true rfl) rfl ?_
                      refine tz_iinc 8 [(4, .int x7_133), (3, .int x5_125), (8, .int 1), (7, .int x7_133), (6, .int x6_132), (0, .ref _), (1, .int x1_82), (2, .int x2_85)] 1 C dX10_parts_217 (by decide) rfl (Nat.le_of_ble_eq_true rfl) rfl h (fun x5_135 h => ?_)
                      refine tz_goto 122 C dX10_parts_220 (by decide) ?_
                      exact tz_sub (ihag_121 _ _ _ _ h) [6, 7, 8, 2, 1, 0] rfl
                    · refine tz_iload 0 C dX10_parts_177 rfl ?_
                      refine tz_iload 6 C dX10_parts_179 rfl ?_
                      refine tz_icmp_ge 188 C dX10_parts_181 (by decide) h (fun h => ?_) (fun h => ?_)
                      · refine tz_iconst 0 (by decide) C dX10_parts_188 ?_
                        refine tz_istore_k [(7, .int x7_133), (6, .int x6_132), (0, .ref _), (1, .int x1_82), (2, .int x2_85), (3, .int x3_123), (4, .int x4_124), (5, .int x5_125)] C dX10_parts_189 (Nat.le_of_ble_eq_true rfl) rfl ?_
                        refine tz_iload 0 C dX10_parts_191 rfl ?_
                        refine tz_if_eq_t 201 C dX10_parts_193 (by decide) (by decide) ?_
                        refine tz_iload_n 3 6 C dX10_parts_201 rfl rfl ?_
                        refine tz_istore_n_k 3 [(8, .int 0), (7, .int x7_133), (6, .int x6_132), (0, .ref _), (1, .int x1_82), (2, .int x2_85), (4, .int x4_124), (5, .int x5_125)] C dX10_parts_202 rfl (Nat.le_of_ble_eq_true rfl) rfl ?_
                        refine tz_iload 1 C dX10_parts_203 rfl ?_
                        refine tz_if_eq_t 213 C dX10_parts_205 (by decide) (by decide) ?_
                        refine tz_iload 7 C dX10_parts_213 rfl ?_
                        refine tz_istore_k [(3, .int x3_123), (8, .int 0), (7, .int x7_133), (6, .int x6_132), (0, .ref _), (1, .int x1_82), (2, .int x2_85), (5, .int x5_125)] C dX10_parts_215 (Nat.le_of_ble_eq_true rfl) rfl ?_
                        refine tz_iinc 8 [(4, .int x4_124), (3, .int x3_123), (8, .int 0), (7, .int x7_133), (6, .int x6_132), (0, .ref _), (1, .int x1_82), (2, .int x2_85)] 1 C dX10_parts_217 (by decide) rfl (Nat.le_of_ble_eq_true rfl) rfl h (fun x5_136 h => ?_)
                        refine tz_goto 122 C dX10_parts_220 (by decide) ?_
                        exact tz_sub (ihag_121 _ _ _ _ h) [6, 7, 8, 2, 1, 0] rfl
                      · refine tz_iconst 1 (by decide) C dX10_parts_184 ?_
                        refine tz_goto 189 C dX10_parts_185 (by decide) ?_
                        refine tz_istore_k [(7, .int x7_133), (6, .int x6_132), (0, .ref _), (1, .int x1_82), (2, .int x2_85), (3, .int x3_123), (4, .int x4_124), (5, .int x5_125)] C dX10_parts_189 (Nat.le_of_ble_eq_true rfl) rfl ?_
                        refine tz_iload 0 C dX10_parts_191 rfl ?_
                        refine tz_if_eq_f 201 C dX10_parts_193 (by decide) (by decide) ?_
                        refine tz_iload 8 C dX10_parts_196 rfl ?_
                        refine tz_goto 202 C dX10_parts_198 (by decide) ?_
                        refine tz_istore_n_k 3 [(8, .int 1), (7, .int x7_133), (6, .int x6_132), (0, .ref _), (1, .int x1_82), (2, .int x2_85), (4, .int x4_124), (5, .int x5_125)] C dX10_parts_202 rfl (Nat.le_of_ble_eq_true rfl) rfl ?_
                        refine tz_iload 1 C dX10_parts_203 rfl ?_
                        refine tz_if_eq_f 213 C dX10_parts_205 (by decide) (by decide) ?_
                        refine tz_iload 2 C dX10_parts_208 rfl ?_
                        refine tz_goto 215 C dX10_parts_210 (by decide) ?_
                        refine tz_istore_k [(3, .int x5_125), (8, .int 1), (7, .int x7_133), (6, .int x6_132), (0, .ref _), (1, .int x1_82), (2, .int x2_85), (5, .int x5_125)] C dX10_parts_215 (Nat.le_of_ble_eq_true rfl) rfl ?_
                        refine tz_iinc 8 [(4, .int x7_133), (3, .int x5_125), (8, .int 1), (7, .int x7_133), (6, .int x6_132), (0, .ref _), (1, .int x1_82), (2, .int x2_85)] 1 C dX10_parts_217 (by decide) rfl (Nat.le_of_ble_eq_true rfl) rfl h (fun x5_137 h => ?_)
                        refine tz_goto 122 C dX10_parts_220 (by decide) ?_
                        exact tz_sub (ihag_121 _ _ _ _ h) [6, 7, 8, 2, 1, 0] rfl
    · refine tz_iload_n 1 1 C dX10_parts_35 rfl rfl ?_
      refine tz_iconst 1 (by decide) C dX10_parts_36 ?_
      refine tz_iadd C dX10_parts_37 ?_
      refine tz_istore_n 2 [(0, .ref _), (1, .int x1_79)] C dX10_parts_38 rfl (Nat.le_of_ble_eq_true rfl) rfl h (fun x2_138 h => ?_)
      refine tz_sub (L := [(0, .ref _), (1, .int x1_79), (2, .int x2_138)]) ?_ [1, 2, 0] rfl
      refine tz_loop1_w (V := fun (x2_141 : Int32) (σ_140 : tzS) => tz_V G E 39 [(0, .ref _), (1, .int x1_79), (2, .int x2_141)] [] σ_140) h (fun ag_139 ihag_139 x2_141 σ_140 h => ?_)
      refine tz_iload_n 2 2 C dX10_parts_39 rfl rfl ?_
      refine tz_aload_n 0 0 C dX10_parts_40 rfl rfl ?_
      refine tz_getI C dX10_parts_41 fl_RX10_219 (by decide) rfl rfl ?_
      refine tz_icmp_gt 78 C dX10_parts_44 (by decide) h (fun h => ?_) (fun h => ?_)
      · refine tz_iinc 1 [(0, .ref _), (2, .int x2_141)] 1 C dX10_parts_78 (by decide) rfl (Nat.le_of_ble_eq_true rfl) rfl h (fun x1_142 h => ?_)
        refine tz_goto 27 C dX10_parts_81 (by decide) ?_
        exact tz_sub (ihag_77 _ _ h) [1, 0] rfl
      · refine tz_aload_n 0 0 C dX10_parts_47 rfl rfl ?_
        refine tz_getR C dX10_parts_48 fl_RX10_52 (by decide) rfl rfl ?_
        refine tz_bipush 13 (by decide) C dX10_parts_51 ?_
        refine tz_iload_n 1 1 C dX10_parts_53 rfl rfl ?_
        refine tz_imul C dX10_parts_54 ?_
        refine tz_iload_n 2 2 C dX10_parts_55 rfl rfl ?_
        refine tz_iadd C dX10_parts_56 ?_
        refine tz_aload_n 0 0 C dX10_parts_57 rfl rfl ?_
        refine tz_aload_n 0 0 C dX10_parts_58 rfl rfl ?_
        refine tz_iload_n 1 1 C dX10_parts_59 rfl rfl ?_
        refine tz_calliv C dX10_parts_60 lk_RX10_222 (m_X10_placeOf G hG  h) (by decide) rfl rfl rfl rfl ⟨Nat.le_of_ble_eq_true rfl, Nat.le_of_ble_eq_true rfl⟩ (Nat.le_of_ble_eq_true rfl) rfl (fun r_144 σ_143 h => ?_)
        refine tz_aload_n 0 0 C dX10_parts_63 rfl rfl ?_
        refine tz_iload_n 2 2 C dX10_parts_64 rfl rfl ?_
        refine tz_calliv C dX10_parts_65 lk_RX10_222 (m_X10_placeOf G hG  h) (by decide) rfl rfl rfl rfl ⟨Nat.le_of_ble_eq_true rfl, Nat.le_of_ble_eq_true rfl⟩ (Nat.le_of_ble_eq_true rfl) rfl (fun r_146 σ_145 h => ?_)
        refine tz_calliv C dX10_parts_68 lk_RX10_213 (m_X10_costNow G hG  h) (by decide) rfl rfl rfl rfl ⟨Nat.le_of_ble_eq_true rfl, Nat.le_of_ble_eq_true rfl⟩ (Nat.le_of_ble_eq_true rfl) rfl (fun r_148 σ_147 h => ?_)
        refine tz_iast C dX10_parts_71 (by decide) rfl h (fun σ_149 h => ?_)
        refine tz_iinc 2 [(0, .ref _), (1, .int x1_79)] 1 C dX10_parts_72 (by decide) rfl (Nat.le_of_ble_eq_true rfl) rfl h (fun x2_150 h => ?_)
        refine tz_goto 39 C dX10_parts_75 (by decide) ?_
        exact tz_sub (ihag_139 _ _ h) [1, 2, 0] rfl
