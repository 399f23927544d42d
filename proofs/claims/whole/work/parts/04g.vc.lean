def vc_X10_sentenceDigest (x1 : Int64) (x3 : Int32) (σ : tzS) (Q : Int64 → tzS → Prop) : Prop :=
  tz_loop2 (fun (x4_3 : Int64) (x6_4 : Int32) (σ_2 : tzS) (ag_1 : Int64 → Int32 → tzS → Prop) =>
    ((4 : Int32) ≤ x6_4 →
      vc_X10_word x3 0 σ_2 (fun (r_6 : Int32) (σ_5 : tzS) =>
        ∀ x4_7 : Int64, x4_7 = ((31 * x4_3) + r_6.toInt64) →
        vc_X10_word x3 2 σ_5 (fun (r_9 : Int32) (σ_8 : tzS) =>
          ∀ x4_10 : Int64, x4_10 = ((31 * x4_7) + r_9.toInt64) →
          vc_X10_gap x3 0 σ_8 (fun (r_12 : Int32) (σ_11 : tzS) =>
            ∀ x4_13 : Int64, x4_13 = ((31 * x4_10) + r_12.toInt64) →
            vc_X10_gap x3 1 σ_11 (fun (r_15 : Int32) (σ_14 : tzS) =>
              ∀ x4_16 : Int64, x4_16 = ((31 * x4_13) + r_15.toInt64) →
              vc_X10_over x3 0 σ_14 (fun (r_18 : Int32) (σ_17 : tzS) =>
                ∀ x4_19 : Int64, x4_19 = ((31 * x4_16) + r_18.toInt64) →
                vc_X10_over x3 1 σ_17 (fun (r_21 : Int32) (σ_20 : tzS) =>
                  ∀ x4_22 : Int64, x4_22 = ((31 * x4_19) + r_21.toInt64) →
                  vc_X10_deep x3 σ_20 (fun (r_24 : Int32) (σ_23 : tzS) =>
                    Q ((31 * x4_22) + r_24.toInt64) σ_23)))))))) ∧
    (¬ (4 : Int32) ≤ x6_4 →
      vc_X10_sentence x3 x6_4 σ_2 (fun (r_26 : Int32) (σ_25 : tzS) =>
        ∀ x4_27 : Int64, x4_27 = ((31 * x4_3) + r_26.toInt64) →
        ∀ x6_28 : Int32, x6_28 = x6_4 + 1 →
        ag_1 x4_27 x6_28 σ_25))) x1 (0 : Int32) σ
set_option maxRecDepth 20000 in
set_option maxHeartbeats 4000000 in
theorem m_X10_sentenceDigest (G : tzG) (hG : tz_ok G) {x1 : Int64} {x3 : Int32}  {σ : tzS} {Q : Int64 → tzS → Prop} (h : vc_X10_sentenceDigest x1 x3 σ Q) : tz_M G yX10_sentenceDigest cX10_sentenceDigest 7 (some .long) 7 169 [.ref 133, .long x1, .int x3] σ (tz_Ql G Q) := by
  unfold vc_X10_sentenceDigest at h
  refine tz_startl hG RX10 [(0, .ref _), (1, .long x1), (3, .int x3)] (by decide) rfl (Nat.le_of_ble_eq_true rfl) rfl (fun E C hret => ?_)
  refine tz_lload_n 1 1 C dX10_sentenceDigest_0 rfl rfl ?_
  refine tz_lstore_k [(0, .ref _), (1, .long x1), (3, .int x3)] C dX10_sentenceDigest_1 (Nat.le_of_ble_eq_true rfl) rfl ?_
  refine tz_iconst 0 (by decide) C dX10_sentenceDigest_3 ?_
  refine tz_istore_k [(4, .long x1), (0, .ref _), (1, .long x1), (3, .int x3)] C dX10_sentenceDigest_4 (Nat.le_of_ble_eq_true rfl) rfl ?_
  refine tz_sub (L := [(0, .ref _), (3, .int x3), (4, .long x1), (6, .int 0)]) ?_ [2, 4, 1, 0] rfl
  refine tz_loop2_w (V := fun (x4_3 : Int64) (x6_4 : Int32) (σ_2 : tzS) => tz_V G E 6 [(0, .ref _), (3, .int x3), (4, .long x4_3), (6, .int x6_4)] [] σ_2) h (fun ag_1 ihag_1 x4_3 x6_4 σ_2 h => ?_)
  refine tz_iload 3 C dX10_sentenceDigest_6 rfl ?_
  refine tz_iconst 4 (by decide) C dX10_sentenceDigest_8 ?_
  refine tz_icmp_ge 35 C dX10_sentenceDigest_9 (by decide) h (fun h => ?_) (fun h => ?_)
  · refine tz_ldc2 31 C dX10_sentenceDigest_35 cw_RX10_282 ?_
    refine tz_lload 2 C dX10_sentenceDigest_38 rfl ?_
    refine tz_lmul C dX10_sentenceDigest_40 ?_
    refine tz_aload_n 0 0 C dX10_sentenceDigest_41 rfl rfl ?_
    refine tz_iload_n 3 1 C dX10_sentenceDigest_42 rfl rfl ?_
    refine tz_iconst 0 (by decide) C dX10_sentenceDigest_43 ?_
    refine tz_calliv C dX10_sentenceDigest_44 lk_RX10_287 (m_X10_word G hG  h) (by decide) rfl rfl rfl rfl ⟨Nat.le_of_ble_eq_true rfl, Nat.le_of_ble_eq_true rfl⟩ (Nat.le_of_ble_eq_true rfl) rfl (fun r_6 σ_5 h => ?_)
    refine tz_i2l C dX10_sentenceDigest_47 ?_
    refine tz_ladd C dX10_sentenceDigest_48 ?_
    refine tz_lstore [(0, .ref _), (3, .int x3), (6, .int x6_4)] C dX10_sentenceDigest_49 (Nat.le_of_ble_eq_true rfl) rfl h (fun x4_7 h => ?_)
    refine tz_ldc2 31 C dX10_sentenceDigest_51 cw_RX10_282 ?_
    refine tz_lload 0 C dX10_sentenceDigest_54 rfl ?_
    refine tz_lmul C dX10_sentenceDigest_56 ?_
    refine tz_aload_n 0 1 C dX10_sentenceDigest_57 rfl rfl ?_
    refine tz_iload_n 3 2 C dX10_sentenceDigest_58 rfl rfl ?_
    refine tz_iconst 2 (by decide) C dX10_sentenceDigest_59 ?_
    refine tz_calliv C dX10_sentenceDigest_60 lk_RX10_287 (m_X10_word G hG  h) (by decide) rfl rfl rfl rfl ⟨Nat.le_of_ble_eq_true rfl, Nat.le_of_ble_eq_true rfl⟩ (Nat.le_of_ble_eq_true rfl) rfl (fun r_9 σ_8 h => ?_)
    refine tz_i2l C dX10_sentenceDigest_63 ?_
    refine tz_ladd C dX10_sentenceDigest_64 ?_
    refine tz_lstore [(0, .ref _), (3, .int x3), (6, .int x6_4)] C dX10_sentenceDigest_65 (Nat.le_of_ble_eq_true rfl) rfl h (fun x4_10 h => ?_)
    refine tz_ldc2 31 C dX10_sentenceDigest_67 cw_RX10_282 ?_
    refine tz_lload 0 C dX10_sentenceDigest_70 rfl ?_
    refine tz_lmul C dX10_sentenceDigest_72 ?_
    refine tz_aload_n 0 1 C dX10_sentenceDigest_73 rfl rfl ?_
    refine tz_iload_n 3 2 C dX10_sentenceDigest_74 rfl rfl ?_
    refine tz_iconst 0 (by decide) C dX10_sentenceDigest_75 ?_
    refine tz_calliv C dX10_sentenceDigest_76 lk_RX10_290 (m_X10_gap G hG  h) (by decide) rfl rfl rfl rfl ⟨Nat.le_of_ble_eq_true rfl, Nat.le_of_ble_eq_true rfl⟩ (Nat.le_of_ble_eq_true rfl) rfl (fun r_12 σ_11 h => ?_)
    refine tz_i2l C dX10_sentenceDigest_79 ?_
    refine tz_ladd C dX10_sentenceDigest_80 ?_
    refine tz_lstore [(0, .ref _), (3, .int x3), (6, .int x6_4)] C dX10_sentenceDigest_81 (Nat.le_of_ble_eq_true rfl) rfl h (fun x4_13 h => ?_)
    refine tz_ldc2 31 C dX10_sentenceDigest_83 cw_RX10_282 ?_
    refine tz_lload 0 C dX10_sentenceDigest_86 rfl ?_
    refine tz_lmul C dX10_sentenceDigest_88 ?_
    refine tz_aload_n 0 1 C dX10_sentenceDigest_89 rfl rfl ?_
    refine tz_iload_n 3 2 C dX10_sentenceDigest_90 rfl rfl ?_
    refine tz_iconst 1 (by decide) C dX10_sentenceDigest_91 ?_
    refine tz_calliv C dX10_sentenceDigest_92 lk_RX10_290 (m_X10_gap G hG  h) (by decide) rfl rfl rfl rfl ⟨Nat.le_of_ble_eq_true rfl, Nat.le_of_ble_eq_true rfl⟩ (Nat.le_of_ble_eq_true rfl) rfl (fun r_15 σ_14 h => ?_)
    refine tz_i2l C dX10_sentenceDigest_95 ?_
    refine tz_ladd C dX10_sentenceDigest_96 ?_
    refine tz_lstore [(0, .ref _), (3, .int x3), (6, .int x6_4)] C dX10_sentenceDigest_97 (Nat.le_of_ble_eq_true rfl) rfl h (fun x4_16 h => ?_)
    refine tz_ldc2 31 C dX10_sentenceDigest_99 cw_RX10_282 ?_
    refine tz_lload 0 C dX10_sentenceDigest_102 rfl ?_
    refine tz_lmul C dX10_sentenceDigest_104 ?_
    refine tz_aload_n 0 1 C dX10_sentenceDigest_105 rfl rfl ?_
    refine tz_iload_n 3 2 C dX10_sentenceDigest_106 rfl rfl ?_
    refine tz_iconst 0 (by decide) C dX10_sentenceDigest_107 ?_
    refine tz_calliv C dX10_sentenceDigest_108 lk_RX10_293 (m_X10_over G hG  h) (by decide) rfl rfl rfl rfl ⟨Nat.le_of_ble_eq_true rfl, Nat.le_of_ble_eq_true rfl⟩ (Nat.le_of_ble_eq_true rfl) rfl (fun r_18 σ_17 h => ?_)
    refine tz_i2l C dX10_sentenceDigest_111 ?_
    refine tz_ladd C dX10_sentenceDigest_112 ?_
    refine tz_lstore [(0, .ref _), (3, .int x3), (6, .int x6_4)] C dX10_sentenceDigest_113 (Nat.le_of_ble_eq_true rfl) rfl h (fun x4_19 h => ?_)
    refine tz_ldc2 31 C dX10_sentenceDigest_115 cw_RX10_282 ?_
    refine tz_lload 0 C dX10_sentenceDigest_118 rfl ?_
    refine tz_lmul C dX10_sentenceDigest_120 ?_
    refine tz_aload_n 0 1 C dX10_sentenceDigest_121 rfl rfl ?_
    refine tz_iload_n 3 2 C dX10_sentenceDigest_122 rfl rfl ?_
    refine tz_iconst 1 (by decide) C dX10_sentenceDigest_123 ?_
    refine tz_calliv C dX10_sentenceDigest_124 lk_RX10_293 (m_X10_over G hG  h) (by decide) rfl rfl rfl rfl ⟨Nat.le_of_ble_eq_true rfl, Nat.le_of_ble_eq_true rfl⟩ (Nat.le_of_ble_eq_true rfl) rfl (fun r_21 σ_20 h => ?_)
    refine tz_i2l C dX10_sentenceDigest_127 ?_
    refine tz_ladd C dX10_sentenceDigest_128 ?_
    refine tz_lstore [(0, .ref _), (3, .int x3), (6, .int x6_4)] C dX10_sentenceDigest_129 (Nat.le_of_ble_eq_true rfl) rfl h (fun x4_22 h => ?_)
    refine tz_ldc2 31 C dX10_sentenceDigest_131 cw_RX10_282 ?_
    refine tz_lload 0 C dX10_sentenceDigest_134 rfl ?_
    refine tz_lmul C dX10_sentenceDigest_136 ?_
    refine tz_aload_n 0 1 C dX10_sentenceDigest_137 rfl rfl ?_
    refine tz_iload_n 3 2 C dX10_sentenceDigest_138 rfl rfl ?_
    refine tz_calliv C dX10_sentenceDigest_139 lk_RX10_296 (m_X10_deep G hG  h) (by decide) rfl rfl rfl rfl ⟨Nat.le_of_ble_eq_true rfl, Nat.le_of_ble_eq_true rfl⟩ (Nat.le_of_ble_eq_true rfl) rfl (fun r_24 σ_23 h => ?_)
    refine tz_i2l C dX10_sentenceDigest_142 ?_
    refine tz_ladd C dX10_sentenceDigest_143 ?_
    exact hret _ _ _ _ dX10_sentenceDigest_144 h
  · refine tz_ldc2 31 C dX10_sentenceDigest_12 cw_RX10_282 ?_
    refine tz_lload 2 C dX10_sentenceDigest_15 rfl ?_
    refine tz_lmul C dX10_sentenceDigest_17 ?_
    refine tz_aload_n 0 0 C dX10_sentenceDigest_18 rfl rfl ?_
    refine tz_iload_n 3 1 C dX10_sentenceDigest_19 rfl rfl ?_
    refine tz_iload 3 C dX10_sentenceDigest_20 rfl ?_
    refine tz_calliv C dX10_sentenceDigest_22 lk_RX10_284 (m_X10_sentence G hG  h) (by decide) rfl rfl rfl rfl ⟨Nat.le_of_ble_eq_true rfl, Nat.le_of_ble_eq_true rfl⟩ (Nat.le_of_ble_eq_true rfl) rfl (fun r_26 σ_25 h => ?_)
    refine tz_i2l C dX10_sentenceDigest_25 ?_
    refine tz_ladd C dX10_sentenceDigest_26 ?_
    refine tz_lstore [(0, .ref _), (3, .int x3), (6, .int x6_4)] C dX10_sentenceDigest_27 (Nat.le_of_ble_eq_true rfl) rfl h (fun x4_27 h => ?_)
    refine tz_iinc 3 [(4, .long x4_27), (0, .ref _), (3, .int x3)] 1 C dX10_sentenceDigest_29 (by decide) rfl (Nat.le_of_ble_eq_true rfl) rfl h (fun x6_28 h => ?_)
    refine tz_goto 6 C dX10_sentenceDigest_32 (by decide) ?_
    exact tz_sub (ihag_1 _ _ _ h) [2, 3, 1, 0] rfl

def vc_X10_stemDigest (x1 : Int64) (x3 : Int32) (σ : tzS) (Q : Int64 → tzS → Prop) : Prop :=
  tz_loop2 (fun (x4_3 : Int64) (x6_4 : Int32) (σ_2 : tzS) (ag_1 : Int64 → Int32 → tzS → Prop) =>
    ((4 : Int32) ≤ x6_4 →
      vc_X10_letterOf x3 0 σ_2 (fun (r_6 : Int32) (σ_5 : tzS) =>
        ∀ x4_7 : Int64, x4_7 = ((31 * x4_3) + r_6.toInt64) →
        vc_X10_letterOf x3 3 σ_5 (fun (r_9 : Int32) (σ_8 : tzS) =>
          Q ((31 * x4_7) + r_9.toInt64) σ_8))) ∧
    (¬ (4 : Int32) ≤ x6_4 →
      vc_X10_stemOf x3 x6_4 σ_2 (fun (r_11 : Int32) (σ_10 : tzS) =>
        ∀ x4_12 : Int64, x4_12 = ((31 * x4_3) + r_11.toInt64) →
        ∀ x6_13 : Int32, x6_13 = x6_4 + 1 →
        ag_1 x4_12 x6_13 σ_10))) x1 (0 : Int32) σ
set_option maxRecDepth 20000 in
set_option maxHeartbeats 4000000 in
theorem m_X10_stemDigest (G : tzG) (hG : tz_ok G) {x1 : Int64} {x3 : Int32}  {σ : tzS} {Q : Int64 → tzS → Prop} (h : vc_X10_stemDigest x1 x3 σ Q) : tz_M G yX10_stemDigest cX10_stemDigest 7 (some .long) 2 44 [.ref 133, .long x1, .int x3] σ (tz_Ql G Q) := by
  unfold vc_X10_stemDigest at h
  refine tz_startl hG RX10 [(0, .ref _), (1, .long x1), (3, .int x3)] (by decide) rfl (Nat.le_of_ble_eq_true rfl) rfl (fun E C hret => ?_)
  refine tz_lload_n 1 1 C dX10_stemDigest_0 rfl rfl ?_
  refine tz_lstore_k [(0, .ref _), (1, .long x1), (3, .int x3)] C dX10_stemDigest_1 (Nat.le_of_ble_eq_true rfl) rfl ?_
  refine tz_iconst 0 (by decide) C dX10_stemDigest_3 ?_
  refine tz_istore_k [(4, .long x1), (0, .ref _), (1, .long x1), (3, .int x3)] C dX10_stemDigest_4 (Nat.le_of_ble_eq_true rfl) rfl ?_
  refine tz_sub (L := [(0, .ref _), (3, .int x3), (4, .long x1), (6, .int 0)]) ?_ [2, 4, 1, 0] rfl
  refine tz_loop2_w (V := fun (x4_3 : Int64) (x6_4 : Int32) (σ_2 : tzS) => tz_V G E 6 [(0, .ref _), (3, .int x3), (4, .long x4_3), (6, .int x6_4)] [] σ_2) h (fun ag_1 ihag_1 x4_3 x6_4 σ_2 h => ?_)
  refine tz_iload 3 C dX10_stemDigest_6 rfl ?_
  refine tz_iconst 4 (by decide) C dX10_stemDigest_8 ?_
  refine tz_icmp_ge 35 C dX10_stemDigest_9 (by decide) h (fun h => ?_) (fun h => ?_)
  · refine tz_ldc2 31 C dX10_stemDigest_35 cw_RX10_282 ?_
    refine tz_lload 2 C dX10_stemDigest_38 rfl ?_
    refine tz_lmul C dX10_stemDigest_40 ?_
    refine tz_aload_n 0 0 C dX10_stemDigest_41 rfl rfl ?_
    refine tz_iload_n 3 1 C dX10_stemDigest_42 rfl rfl ?_
    refine tz_iconst 0 (by decide) C dX10_stemDigest_43 ?_
    refine tz_calliv C dX10_stemDigest_44 lk_RX10_181 (m_X10_letterOf G hG  h) (by decide) rfl rfl rfl rfl ⟨Nat.le_of_ble_eq_true rfl, Nat.le_of_ble_eq_true rfl⟩ (Nat.le_of_ble_eq_true rfl) rfl (fun r_6 σ_5 h => ?_)
    refine tz_i2l C dX10_stemDigest_47 ?_
    refine tz_ladd C dX10_stemDigest_48 ?_
    refine tz_lstore [(0, .ref _), (3, .int x3), (6, .int x6_4)] C dX10_stemDigest_49 (Nat.le_of_ble_eq_true rfl) rfl h (fun x4_7 h => ?_)
    refine tz_ldc2 31 C dX10_stemDigest_51 cw_RX10_282 ?_
    refine tz_lload 0 C dX10_stemDigest_54 rfl ?_
    refine tz_lmul C dX10_stemDigest_56 ?_
    refine tz_aload_n 0 1 C dX10_stemDigest_57 rfl rfl ?_
    refine tz_iload_n 3 2 C dX10_stemDigest_58 rfl rfl ?_
    refine tz_iconst 3 (by decide) C dX10_stemDigest_59 ?_
    refine tz_calliv C dX10_stemDigest_60 lk_RX10_181 (m_X10_letterOf G hG  h) (by decide) rfl rfl rfl rfl ⟨Nat.le_of_ble_eq_true rfl, Nat.le_of_ble_eq_true rfl⟩ (Nat.le_of_ble_eq_true rfl) rfl (fun r_9 σ_8 h => ?_)
    refine tz_i2l C dX10_stemDigest_63 ?_
    refine tz_ladd C dX10_stemDigest_64 ?_
    exact hret _ _ _ _ dX10_stemDigest_65 h
  · refine tz_ldc2 31 C dX10_stemDigest_12 cw_RX10_282 ?_
    refine tz_lload 2 C dX10_stemDigest_15 rfl ?_
    refine tz_lmul C dX10_stemDigest_17 ?_
    refine tz_aload_n 0 0 C dX10_stemDigest_18 rfl rfl ?_
    refine tz_iload_n 3 1 C dX10_stemDigest_19 rfl rfl ?_
    refine tz_iload 3 C dX10_stemDigest_20 rfl ?_
    refine tz_calliv C dX10_stemDigest_22 lk_RX10_178 (m_X10_stemOf G hG  h) (by decide) rfl rfl rfl rfl ⟨Nat.le_of_ble_eq_true rfl, Nat.le_of_ble_eq_true rfl⟩ (Nat.le_of_ble_eq_true rfl) rfl (fun r_11 σ_10 h => ?_)
    refine tz_i2l C dX10_stemDigest_25 ?_
    refine tz_ladd C dX10_stemDigest_26 ?_
    refine tz_lstore [(0, .ref _), (3, .int x3), (6, .int x6_4)] C dX10_stemDigest_27 (Nat.le_of_ble_eq_true rfl) rfl h (fun x4_12 h => ?_)
    refine tz_iinc 3 [(4, .long x4_12), (0, .ref _), (3, .int x3)] 1 C dX10_stemDigest_29 (by decide) rfl (Nat.le_of_ble_eq_true rfl) rfl h (fun x6_13 h => ?_)
    refine tz_goto 6 C dX10_stemDigest_32 (by decide) ?_
    exact tz_sub (ihag_1 _ _ _ h) [2, 3, 1, 0] rfl

def vc_X10_partsDigest (x1 : Int64) (x3 : Int32) (σ : tzS) (Q : Int64 → tzS → Prop) : Prop :=
  vc_X10_bestOf x3 σ (fun (r_2 : Int32) (σ_1 : tzS) =>
    ∀ x4_3 : Int64, x4_3 = ((31 * x1) + r_2.toInt64) →
    tz_loop2 (fun (x4_6 : Int64) (x6_7 : Int32) (σ_5 : tzS) (ag_4 : Int64 → Int32 → tzS → Prop) =>
      ((8 : Int32) ≤ x6_7 →
        vc_X10_dropOf x3 0 σ_5 (fun (r_9 : Int32) (σ_8 : tzS) =>
          ∀ x4_10 : Int64, x4_10 = ((31 * x4_6) + r_9.toInt64) →
          vc_X10_dropOf x3 1 σ_8 (fun (r_12 : Int32) (σ_11 : tzS) =>
            ∀ x4_13 : Int64, x4_13 = ((31 * x4_10) + r_12.toInt64) →
            vc_X10_apartOf x3 1 σ_11 (fun (r_15 : Int32) (σ_14 : tzS) =>
              ∀ x4_16 : Int64, x4_16 = ((31 * x4_13) + r_15.toInt64) →
              vc_X10_apartOf x3 3 σ_14 (fun (r_18 : Int32) (σ_17 : tzS) =>
                Q ((31 * x4_16) + r_18.toInt64) σ_17))))) ∧
      (¬ (8 : Int32) ≤ x6_7 →
        vc_X10_seamOf x3 x6_7 σ_5 (fun (r_20 : Int32) (σ_19 : tzS) =>
          ∀ x4_21 : Int64, x4_21 = ((31 * x4_6) + r_20.toInt64) →
          ∀ x6_22 : Int32, x6_22 = x6_7 + 1 →
          ag_4 x4_21 x6_22 σ_19))) x4_3 (0 : Int32) σ_1)
set_option maxRecDepth 20000 in
set_option maxHeartbeats 4000000 in
theorem m_X10_partsDigest (G : tzG) (hG : tz_ok G) {x1 : Int64} {x3 : Int32}  {σ : tzS} {Q : Int64 → tzS → Prop} (h : vc_X10_partsDigest x1 x3 σ Q) : tz_M G yX10_partsDigest cX10_partsDigest 7 (some .long) 6 143 [.ref 133, .long x1, .int x3] σ (tz_Ql G Q) := by
  unfold vc_X10_partsDigest at h
  refine tz_startl hG RX10 [(0, .ref _), (1, .long x1), (3, .int x3)] (by decide) rfl (Nat.le_of_ble_eq_true rfl) rfl (fun E C hret => ?_)
  refine tz_ldc2 31 C dX10_partsDigest_0 cw_RX10_282 ?_
  refine tz_lload_n 1 1 C dX10_partsDigest_3 rfl rfl ?_
  refine tz_lmul C dX10_partsDigest_4 ?_
  refine tz_aload_n 0 0 C dX10_partsDigest_5 rfl rfl ?_
  refine tz_iload_n 3 2 C dX10_partsDigest_6 rfl rfl ?_
  refine tz_calliv C dX10_partsDigest_7 lk_RX10_237 (m_X10_bestOf G hG  h) (by decide) rfl rfl rfl rfl ⟨Nat.le_of_ble_eq_true rfl, Nat.le_of_ble_eq_true rfl⟩ (Nat.le_of_ble_eq_true rfl) rfl (fun r_2 σ_1 h => ?_)
  refine tz_i2l C dX10_partsDigest_10 ?_
  refine tz_ladd C dX10_partsDigest_11 ?_
  refine tz_lstore [(0, .ref _), (1, .long x1), (3, .int x3)] C dX10_partsDigest_12 (Nat.le_of_ble_eq_true rfl) rfl h (fun x4_3 h => ?_)
  refine tz_iconst 0 (by decide) C dX10_partsDigest_14 ?_
  refine tz_istore_k [(4, .long x4_3), (0, .ref _), (1, .long x1), (3, .int x3)] C dX10_partsDigest_15 (Nat.le_of_ble_eq_true rfl) rfl ?_
  refine tz_sub (L := [(0, .ref _), (3, .int x3), (4, .long x4_3), (6, .int 0)]) ?_ [2, 4, 1, 0] rfl
  refine tz_loop2_w (V := fun (x4_6 : Int64) (x6_7 : Int32) (σ_5 : tzS) => tz_V G E 17 [(0, .ref _), (3, .int x3), (4, .long x4_6), (6, .int x6_7)] [] σ_5) h (fun ag_4 ihag_4 x4_6 x6_7 σ_5 h => ?_)
  refine tz_iload 3 C dX10_partsDigest_17 rfl ?_
  refine tz_bipush 8 (by decide) C dX10_partsDigest_19 ?_
  refine tz_icmp_ge 47 C dX10_partsDigest_21 (by decide) h (fun h => ?_) (fun h => ?_)
  · refine tz_ldc2 31 C dX10_partsDigest_47 cw_RX10_282 ?_
    refine tz_lload 2 C dX10_partsDigest_50 rfl ?_
    refine tz_lmul C dX10_partsDigest_52 ?_
    refine tz_aload_n 0 0 C dX10_partsDigest_53 rfl rfl ?_
    refine tz_iload_n 3 1 C dX10_partsDigest_54 rfl rfl ?_
    refine tz_iconst 0 (by decide) C dX10_partsDigest_55 ?_
    refine tz_calliv C dX10_partsDigest_56 lk_RX10_249 (m_X10_dropOf G hG  h) (by decide) rfl rfl rfl rfl ⟨Nat.le_of_ble_eq_true rfl, Nat.le_of_ble_eq_true rfl⟩ (Nat.le_of_ble_eq_true rfl) rfl (fun r_9 σ_8 h => ?_)
    refine tz_i2l C dX10_partsDigest_59 ?_
    refine tz_ladd C dX10_partsDigest_60 ?_
    refine tz_lstore [(0, .ref _), (3, .int x3), (6, .int x6_7)] C dX10_partsDigest_61 (Nat.le_of_ble_eq_true rfl) rfl h (fun x4_10 h => ?_)
    refine tz_ldc2 31 C dX10_partsDigest_63 cw_RX10_282 ?_
    refine tz_lload 0 C dX10_partsDigest_66 rfl ?_
    refine tz_lmul C dX10_partsDigest_68 ?_
    refine tz_aload_n 0 1 C dX10_partsDigest_69 rfl rfl ?_
    refine tz_iload_n 3 2 C dX10_partsDigest_70 rfl rfl ?_
    refine tz_iconst 1 (by decide) C dX10_partsDigest_71 ?_
    refine tz_calliv C dX10_partsDigest_72 lk_RX10_249 (m_X10_dropOf G hG  h) (by decide) rfl rfl rfl rfl ⟨Nat.le_of_ble_eq_true rfl, Nat.le_of_ble_eq_true rfl⟩ (Nat.le_of_ble_eq_true rfl) rfl (fun r_12 σ_11 h => ?_)
    refine tz_i2l C dX10_partsDigest_75 ?_
    refine tz_ladd C dX10_partsDigest_76 ?_
    refine tz_lstore [(0, .ref _), (3, .int x3), (6, .int x6_7)] C dX10_partsDigest_77 (Nat.le_of_ble_eq_true rfl) rfl h (fun x4_13 h => ?_)
    refine tz_ldc2 31 C dX10_partsDigest_79 cw_RX10_282 ?_
    refine tz_lload 0 C dX10_partsDigest_82 rfl ?_
    refine tz_lmul C dX10_partsDigest_84 ?_
    refine tz_aload_n 0 1 C dX10_partsDigest_85 rfl rfl ?_
    refine tz_iload_n 3 2 C dX10_partsDigest_86 rfl rfl ?_
    refine tz_iconst 1 (by decide) C dX10_partsDigest_87 ?_
    refine tz_calliv C dX10_partsDigest_88 lk_RX10_264 (m_X10_apartOf G hG  h) (by decide) rfl rfl rfl rfl ⟨Nat.le_of_ble_eq_true rfl, Nat.le_of_ble_eq_true rfl⟩ (Nat.le_of_ble_eq_true rfl) rfl (fun r_15 σ_14 h => ?_)
    refine tz_i2l C dX10_partsDigest_91 ?_
    refine tz_ladd C dX10_partsDigest_92 ?_
    refine tz_lstore [(0, .ref _), (3, .int x3), (6, .int x6_7)] C dX10_partsDigest_93 (Nat.le_of_ble_eq_true rfl) rfl h (fun x4_16 h => ?_)
    refine tz_ldc2 31 C dX10_partsDigest_95 cw_RX10_282 ?_
    refine tz_lload 0 C dX10_partsDigest_98 rfl ?_
    refine tz_lmul C dX10_partsDigest_100 ?_
    refine tz_aload_n 0 1 C dX10_partsDigest_101 rfl rfl ?_
    refine tz_iload_n 3 2 C dX10_partsDigest_102 rfl rfl ?_
    refine tz_iconst 3 (by decide) C dX10_partsDigest_103 ?_
    refine tz_calliv C dX10_partsDigest_104 lk_RX10_264 (m_X10_apartOf G hG  h) (by decide) rfl rfl rfl rfl ⟨Nat.le_of_ble_eq_true rfl, Nat.le_of_ble_eq_true rfl⟩ (Nat.le_of_ble_eq_true rfl) rfl (fun r_18 σ_17 h => ?_)
    refine tz_i2l C dX10_partsDigest_107 ?_
    refine tz_ladd C dX10_partsDigest_108 ?_
    exact hret _ _ _ _ dX10_partsDigest_109 h
  · refine tz_ldc2 31 C dX10_partsDigest_24 cw_RX10_282 ?_
    refine tz_lload 2 C dX10_partsDigest_27 rfl ?_
    refine tz_lmul C dX10_partsDigest_29 ?_
    refine tz_aload_n 0 0 C dX10_partsDigest_30 rfl rfl ?_
    refine tz_iload_n 3 1 C dX10_partsDigest_31 rfl rfl ?_
    refine tz_iload 3 C dX10_partsDigest_32 rfl ?_
    refine tz_calliv C dX10_partsDigest_34 lk_RX10_243 (m_X10_seamOf G hG  h) (by decide) rfl rfl rfl rfl ⟨Nat.le_of_ble_eq_true rfl, Nat.le_of_ble_eq_true rfl⟩ (Nat.le_of_ble_eq_true rfl) rfl (fun r_20 σ_19 h => ?_)
    refine tz_i2l C dX10_partsDigest_37 ?_
    refine tz_ladd C dX10_partsDigest_38 ?_
    refine tz_lstore [(0, .ref _), (3, .int x3), (6, .int x6_7)] C dX10_partsDigest_39 (Nat.le_of_ble_eq_true rfl) rfl h (fun x4_21 h => ?_)
    refine tz_iinc 3 [(4, .long x4_21), (0, .ref _), (3, .int x3)] 1 C dX10_partsDigest_41 (by decide) rfl (Nat.le_of_ble_eq_true rfl) rfl h (fun x6_22 h => ?_)
    refine tz_goto 17 C dX10_partsDigest_44 (by decide) ?_
    exact tz_sub (ihag_4 _ _ _ h) [2, 3, 1, 0] rfl

def vc_X10_digest  (σ : tzS) (Q : Int64 → tzS → Prop) : Prop :=
  tz_loop2 (fun (x1_3 : Int64) (x3_4 : Int32) (σ_2 : tzS) (ag_1 : Int64 → Int32 → tzS → Prop) =>
    ((8 : Int32) ≤ x3_4 →
      tz_loop2 (fun (x1_7 : Int64) (x3_8 : Int32) (σ_6 : tzS) (ag_5 : Int64 → Int32 → tzS → Prop) =>
        ((3 : Int32) ≤ x3_8 →
          tz_loop2 (fun (x1_11 : Int64) (x3_12 : Int32) (σ_10 : tzS) (ag_9 : Int64 → Int32 → tzS → Prop) =>
            ((12 : Int32) ≤ x3_12 →
              vc_X10_reads  σ_10 (fun (σ_13 : tzS) =>
                tz_loop2 (fun (x1_16 : Int64) (x3_17 : Int32) (σ_15 : tzS) (ag_14 : Int64 → Int32 → tzS → Prop) =>
                  ((σ_15.1 133 9) ≤ x3_17 →
                    tz_loop2 (fun (x1_20 : Int64) (x3_21 : Int32) (σ_19 : tzS) (ag_18 : Int64 → Int32 → tzS → Prop) =>
                      ((10 : Int32) ≤ x3_21 →
                        tz_loop2 (fun (x1_24 : Int64) (x3_25 : Int32) (σ_23 : tzS) (ag_22 : Int64 → Int32 → tzS → Prop) =>
                          ((σ_23.1 133 7) ≤ x3_25 →
                            tz_loop2 (fun (x1_28 : Int64) (x3_29 : Int32) (σ_27 : tzS) (ag_26 : Int64 → Int32 → tzS → Prop) =>
                              ((9 : Int32) ≤ x3_29 →
                                vc_X10_bentOf  σ_27 (fun (r_31 : Int32) (σ_30 : tzS) =>
                                  Q ((31 * x1_28) + r_31.toInt64) σ_30)) ∧
                              (¬ (9 : Int32) ≤ x3_29 →
                                vc_X10_partsDigest x1_28 x3_29 σ_27 (fun (r_33 : Int64) (σ_32 : tzS) =>
                                  ∀ x3_34 : Int32, x3_34 = x3_29 + 1 →
                                  ag_26 r_33 x3_34 σ_32))) x1_24 (1 : Int32) σ_23) ∧
                          (¬ (σ_23.1 133 7) ≤ x3_25 →
                            vc_X10_costOf 0 x3_25 σ_23 (fun (r_36 : Int32) (σ_35 : tzS) =>
                              ∀ x1_37 : Int64, x1_37 = ((31 * x1_24) + r_36.toInt64) →
                              vc_X10_costOf x3_25 (σ_35.1 133 7) σ_35 (fun (r_39 : Int32) (σ_38 : tzS) =>
                                ∀ x1_40 : Int64, x1_40 = ((31 * x1_37) + r_39.toInt64) →
                                ∀ x3_41 : Int32, x3_41 = x3_25 + 1 →
                                ag_22 x1_40 x3_41 σ_38)))) x1_20 (0 : Int32) σ_19) ∧
                      (¬ (10 : Int32) ≤ x3_21 →
                        tz_loop2 (fun (x1_44 : Int64) (x4_45 : Int32) (σ_43 : tzS) (ag_42 : Int64 → Int32 → tzS → Prop) =>
                          ((5 : Int32) ≤ x4_45 →
                            ∀ x3_46 : Int32, x3_46 = x3_21 + 1 →
                            ag_18 x1_44 x3_46 σ_43) ∧
                          (¬ (5 : Int32) ≤ x4_45 →
                            vc_X10_chainOf x3_21 x4_45 σ_43 (fun (r_48 : Int32) (σ_47 : tzS) =>
                              ∀ x1_49 : Int64, x1_49 = ((31 * x1_44) + r_48.toInt64) →
                              ∀ x4_50 : Int32, x4_50 = x4_45 + 1 →
                              ag_42 x1_49 x4_50 σ_47))) x1_20 (0 : Int32) σ_19)) x1_16 (0 : Int32) σ_15) ∧
                  (¬ (σ_15.1 133 9) ≤ x3_17 →
                    vc_X10_stemDigest x1_16 x3_17 σ_15 (fun (r_52 : Int64) (σ_51 : tzS) =>
                      ∀ x3_53 : Int32, x3_53 = x3_17 + 1 →
                      ag_14 r_52 x3_53 σ_51))) x1_11 (0 : Int32) σ_13)) ∧
            (¬ (12 : Int32) ≤ x3_12 →
              vc_X10_sentenceDigest x1_11 x3_12 σ_10 (fun (r_55 : Int64) (σ_54 : tzS) =>
                ∀ x3_56 : Int32, x3_56 = x3_12 + 1 →
                ag_9 r_55 x3_56 σ_54))) x1_7 (0 : Int32) σ_6) ∧
        (¬ (3 : Int32) ≤ x3_8 →
          vc_X10_faultOf x3_8 σ_6 (fun (r_58 : Int32) (σ_57 : tzS) =>
            ∀ x1_59 : Int64, x1_59 = ((31 * x1_7) + r_58.toInt64) →
            ∀ x3_60 : Int32, x3_60 = x3_8 + 1 →
            ag_5 x1_59 x3_60 σ_57))) x1_3 (0 : Int32) σ_2) ∧
    (¬ (8 : Int32) ≤ x3_4 →
      vc_X10_count x3_4 σ_2 (fun (r_62 : Int32) (σ_61 : tzS) =>
        ∀ x1_63 : Int64, x1_63 = ((31 * x1_3) + r_62.toInt64) →
        ∀ x3_64 : Int32, x3_64 = x3_4 + 1 →
        ag_1 x1_63 x3_64 σ_61))) 17 (0 : Int32) σ
set_option maxRecDepth 20000 in
set_option maxHeartbeats 4000000 in
theorem m_X10_digest (G : tzG) (hG : tz_ok G)   {σ : tzS} {Q : Int64 → tzS → Prop} (h : vc_X10_digest  σ Q) : tz_M G yX10_digest cX10_digest 5 (some .long) 8 195 [.ref 133] σ (tz_Ql G Q) := by
  unfold vc_X10_digest at h
  refine tz_startl hG RX10 [(0, .ref _)] (by decide) rfl (Nat.le_of_ble_eq_true rfl) rfl (fun E C hret => ?_)
  refine tz_ldc2 17 C dX10_digest_0 cw_RX10_299 ?_
  refine tz_lstore_n_k 1 [(0, .ref _)] C dX10_digest_3 rfl (Nat.le_of_ble_eq_true rfl) rfl ?_
  refine tz_iconst 0 (by decide) C dX10_digest_4 ?_
  refine tz_istore_n_k 3 [(1, .long 17), (0, .ref _)] C dX10_digest_5 rfl (Nat.le_of_ble_eq_true rfl) rfl ?_
  refine tz_sub (L := [(0, .ref _), (1, .long 17), (3, .int 0)]) ?_ [2, 1, 0] rfl
  refine tz_loop2_w (V := fun (x1_3 : Int64) (x3_4 : Int32) (σ_2 : tzS) => tz_V G E 6 [(0, .ref _), (1, .long x1_3), (3, .int x3_4)] [] σ_2) h (fun ag_1 ihag_1 x1_3 x3_4 σ_2 h => ?_)
  refine tz_iload_n 3 2 C dX10_digest_6 rfl rfl ?_
  refine tz_bipush 8 (by decide) C dX10_digest_7 ?_
  refine tz_icmp_ge 31 C dX10_digest_9 (by decide) h (fun h => ?_) (fun h => ?_)
  · refine tz_iconst 0 (by decide) C dX10_digest_31 ?_
    refine tz_istore_n_k 3 [(0, .ref _), (1, .long x1_3)] C dX10_digest_32 rfl (Nat.le_of_ble_eq_true rfl) rfl ?_
    refine tz_sub (L := [(0, .ref _), (1, .long x1_3), (3, .int 0)]) ?_ [1, 2, 0] rfl
    refine tz_loop2_w (V := fun (x1_7 : Int64) (x3_8 : Int32) (σ_6 : tzS) => tz_V G E 33 [(0, .ref _), (1, .long x1_7), (3, .int x3_8)] [] σ_6) h (fun ag_5 ihag_5 x1_7 x3_8 σ_6 h => ?_)
    refine tz_iload_n 3 2 C dX10_digest_33 rfl rfl ?_
    refine tz_iconst 3 (by decide) C dX10_digest_34 ?_
    refine tz_icmp_ge 57 C dX10_digest_35 (by decide) h (fun h => ?_) (fun h => ?_)
    · refine tz_iconst 0 (by decide) C dX10_digest_57 ?_
      refine tz_istore_n_k 3 [(0, .ref _), (1, .long x1_7)] C dX10_digest_58 rfl (Nat.le_of_ble_eq_true rfl) rfl ?_
      refine tz_sub (L := [(0, .ref _), (1, .long x1_7), (3, .int 0)]) ?_ [1, 2, 0] rfl
      refine tz_loop2_w (V := fun (x1_11 : Int64) (x3_12 : Int32) (σ_10 : tzS) => tz_V G E 59 [(0, .ref _), (1, .long x1_11), (3, .int x3_12)] [] σ_10) h (fun ag_9 ihag_9 x1_11 x3_12 σ_10 h => ?_)
      refine tz_iload_n 3 2 C dX10_digest_59 rfl rfl ?_
      refine tz_bipush 12 (by decide) C dX10_digest_60 ?_
      refine tz_icmp_ge 78 C dX10_digest_62 (by decide) h (fun h => ?_) (fun h => ?_)
      · refine tz_aload_n 0 0 C dX10_digest_78 rfl rfl ?_
        refine tz_callvv C dX10_digest_79 lk_RX10_147 (m_X10_reads G hG  h) (by decide) rfl rfl rfl rfl ⟨Nat.le_of_ble_eq_true rfl, Nat.le_of_ble_eq_true rfl⟩ (Nat.le_of_ble_eq_true rfl) rfl (fun σ_13 h => ?_)
        refine tz_iconst 0 (by decide) C dX10_digest_82 ?_
        refine tz_istore_n_k 3 [(0, .ref _), (1, .long x1_11)] C dX10_digest_83 rfl (Nat.le_of_ble_eq_true rfl) rfl ?_
        refine tz_sub (L := [(0, .ref _), (1, .long x1_11), (3, .int 0)]) ?_ [1, 2, 0] rfl
        refine tz_loop2_w (V := fun (x1_16 : Int64) (x3_17 : Int32) (σ_15 : tzS) => tz_V G E 84 [(0, .ref _), (1, .long x1_16), (3, .int x3_17)] [] σ_15) h (fun ag_14 ihag_14 x1_16 x3_17 σ_15 h => ?_)
        refine tz_iload_n 3 2 C dX10_digest_84 rfl rfl ?_
        refine tz_aload_n 0 0 C dX10_digest_85 rfl rfl ?_
        refine tz_getI C dX10_digest_86 fl_RX10_135 (by decide) rfl rfl ?_
        refine tz_icmp_ge 105 C dX10_digest_89 (by decide) h (fun h => ?_) (fun h => ?_)
        · refine tz_iconst 0 (by decide) C dX10_digest_105 ?_
          refine tz_istore_n_k 3 [(0, .ref _), (1, .long x1_16)] C dX10_digest_106 rfl (Nat.le_of_ble_eq_true rfl) rfl ?_
          refine tz_sub (L := [(0, .ref _), (1, .long x1_16), (3, .int 0)]) ?_ [1, 2, 0] rfl
          refine tz_loop2_w (V := fun (x1_20 : Int64) (x3_21 : Int32) (σ_19 : tzS) => tz_V G E 107 [(0, .ref _), (1, .long x1_20), (3, .int x3_21)] [] σ_19) h (fun ag_18 ihag_18 x1_20 x3_21 σ_19 h => ?_)
          refine tz_iload_n 3 2 C dX10_digest_107 rfl rfl ?_
          refine tz_bipush 10 (by decide) C dX10_digest_108 ?_
          refine tz_icmp_ge 149 C dX10_digest_110 (by decide) h (fun h => ?_) (fun h => ?_)
          · refine tz_iconst 0 (by decide) C dX10_digest_149 ?_
            refine tz_istore_n_k 3 [(0, .ref _), (1, .long x1_20)] C dX10_digest_150 rfl (Nat.le_of_ble_eq_true rfl) rfl ?_
            refine tz_sub (L := [(0, .ref _), (1, .long x1_20), (3, .int 0)]) ?_ [1, 2, 0] rfl
            refine tz_loop2_w (V := fun (x1_24 : Int64) (x3_25 : Int32) (σ_23 : tzS) => tz_V G E 151 [(0, .ref _), (1, .long x1_24), (3, .int x3_25)] [] σ_23) h (fun ag_22 ihag_22 x1_24 x3_25 σ_23 h => ?_)
            refine tz_iload_n 3 2 C dX10_digest_151 rfl rfl ?_
            refine tz_aload_n 0 0 C dX10_digest_152 rfl rfl ?_
            refine tz_getI C dX10_digest_153 fl_RX10_109 (by decide) rfl rfl ?_
            refine tz_icmp_ge 196 C dX10_digest_156 (by decide) h (fun h => ?_) (fun h => ?_)
            · refine tz_iconst 1 (by decide) C dX10_digest_196 ?_
              refine tz_istore_n_k 3 [(0, .ref _), (1, .long x1_24)] C dX10_digest_197 rfl (Nat.le_of_ble_eq_true rfl) rfl ?_
              refine tz_sub (L := [(0, .ref _), (1, .long x1_24), (3, .int 1)]) ?_ [1, 2, 0] rfl
              refine tz_loop2_w (V := fun (x1_28 : Int64) (x3_29 : Int32) (σ_27 : tzS) => tz_V G E 198 [(0, .ref _), (1, .long x1_28), (3, .int x3_29)] [] σ_27) h (fun ag_26 ihag_26 x1_28 x3_29 σ_27 h => ?_)
              refine tz_iload_n 3 2 C dX10_digest_198 rfl rfl ?_
              refine tz_bipush 9 (by decide) C dX10_digest_199 ?_
              refine tz_icmp_ge 217 C dX10_digest_201 (by decide) h (fun h => ?_) (fun h => ?_)
              · refine tz_ldc2 31 C dX10_digest_217 cw_RX10_282 ?_
                refine tz_lload_n 1 1 C dX10_digest_220 rfl rfl ?_
                refine tz_lmul C dX10_digest_221 ?_
                refine tz_aload_n 0 0 C dX10_digest_222 rfl rfl ?_
                refine tz_calliv C dX10_digest_223 lk_RX10_246 (m_X10_bentOf G hG  h) (by decide) rfl rfl rfl rfl ⟨Nat.le_of_ble_eq_true rfl, Nat.le_of_ble_eq_true rfl⟩ (Nat.le_of_ble_eq_true rfl) rfl (fun r_31 σ_30 h => ?_)
                refine tz_i2l C dX10_digest_226 ?_
                refine tz_ladd C dX10_digest_227 ?_
                exact hret _ _ _ _ dX10_digest_228 h
              · refine tz_aload_n 0 0 C dX10_digest_204 rfl rfl ?_
                refine tz_lload_n 1 1 C dX10_digest_205 rfl rfl ?_
                refine tz_iload_n 3 2 C dX10_digest_206 rfl rfl ?_
                refine tz_calllv C dX10_digest_207 lk_RX10_311 (m_X10_partsDigest G hG  h) (by decide) rfl rfl rfl rfl ⟨Nat.le_of_ble_eq_true rfl, Nat.le_of_ble_eq_true rfl⟩ (Nat.le_of_ble_eq_true rfl) rfl (fun r_33 σ_32 h => ?_)
                refine tz_lstore_n_k 1 [(0, .ref _), (3, .int x3_29)] C dX10_digest_210 rfl (Nat.le_of_ble_eq_true rfl) rfl ?_
                refine tz_iinc 2 [(1, .long r_33), (0, .ref _)] 1 C dX10_digest_211 (by decide) rfl (Nat.le_of_ble_eq_true rfl) rfl h (fun x3_34 h => ?_)
                refine tz_goto 198 C dX10_digest_214 (by decide) ?_
                exact tz_sub (ihag_26 _ _ _ h) [2, 1, 0] rfl
            · refine tz_ldc2 31 C dX10_digest_159 cw_RX10_282 ?_
              refine tz_lload_n 1 1 C dX10_digest_162 rfl rfl ?_
              refine tz_lmul C dX10_digest_163 ?_
              refine tz_aload_n 0 0 C dX10_digest_164 rfl rfl ?_
              refine tz_iconst 0 (by decide) C dX10_digest_165 ?_
              refine tz_iload_n 3 2 C dX10_digest_166 rfl rfl ?_
              refine tz_calliv C dX10_digest_167 lk_RX10_216 (m_X10_costOf G hG  h) (by decide) rfl rfl rfl rfl ⟨Nat.le_of_ble_eq_true rfl, Nat.le_of_ble_eq_true rfl⟩ (Nat.le_of_ble_eq_true rfl) rfl (fun r_36 σ_35 h => ?_)
              refine tz_i2l C dX10_digest_170 ?_
              refine tz_ladd C dX10_digest_171 ?_
              refine tz_lstore_n 1 [(0, .ref _), (3, .int x3_25)] C dX10_digest_172 rfl (Nat.le_of_ble_eq_true rfl) rfl h (fun x1_37 h => ?_)
              refine tz_ldc2 31 C dX10_digest_173 cw_RX10_282 ?_
              refine tz_lload_n 1 0 C dX10_digest_176 rfl rfl ?_
              refine tz_lmul C dX10_digest_177 ?_
              refine tz_aload_n 0 1 C dX10_digest_178 rfl rfl ?_
              refine tz_iload_n 3 2 C dX10_digest_179 rfl rfl ?_
              refine tz_aload_n 0 1 C dX10_digest_180 rfl rfl ?_
              refine tz_getI C dX10_digest_181 fl_RX10_109 (by decide) rfl rfl ?_
              refine tz_calliv C dX10_digest_184 lk_RX10_216 (m_X10_costOf G hG  h) (by decide) rfl rfl rfl rfl ⟨Nat.le_of_ble_eq_true rfl, Nat.le_of_ble_eq_true rfl⟩ (Nat.le_of_ble_eq_true rfl) rfl (fun r_39 σ_38 h => ?_)
              refine tz_i2l C dX10_digest_187 ?_
              refine tz_ladd C dX10_digest_188 ?_
              refine tz_lstore_n 1 [(0, .ref _), (3, .int x3_25)] C dX10_digest_189 rfl (Nat.le_of_ble_eq_true rfl) rfl h (fun x1_40 h => ?_)
              refine tz_iinc 2 [(1, .long x1_40), (0, .ref _)] 1 C dX10_digest_190 (by decide) rfl (Nat.le_of_ble_eq_true rfl) rfl h (fun x3_41 h => ?_)
              refine tz_goto 151 C dX10_digest_193 (by decide) ?_
              exact tz_sub (ihag_22 _ _ _ h) [2, 1, 0] rfl
          · refine tz_iconst 0 (by decide) C dX10_digest_113 ?_
            refine tz_istore_k [(0, .ref _), (1, .long x1_20), (3, .int x3_21)] C dX10_digest_114 (Nat.le_of_ble_eq_true rfl) rfl ?_
            refine tz_sub (L := [(0, .ref _), (1, .long x1_20), (3, .int x3_21), (4, .int 0)]) ?_ [1, 2, 3, 0] rfl
            refine tz_loop2_w (V := fun (x1_44 : Int64) (x4_45 : Int32) (σ_43 : tzS) => tz_V G E 116 [(0, .ref _), (1, .long x1_44), (3, .int x3_21), (4, .int x4_45)] [] σ_43) h (fun ag_42 ihag_42 x1_44 x4_45 σ_43 h => ?_)
            refine tz_iload 3 C dX10_digest_116 rfl ?_
            refine tz_iconst 5 (by decide) C dX10_digest_118 ?_
            refine tz_icmp_ge 143 C dX10_digest_119 (by decide) h (fun h => ?_) (fun h => ?_)
            · refine tz_iinc 2 [(0, .ref _), (1, .long x1_44), (4, .int x4_45)] 1 C dX10_digest_143 (by decide) rfl (Nat.le_of_ble_eq_true rfl) rfl h (fun x3_46 h => ?_)
              refine tz_goto 107 C dX10_digest_146 (by decide) ?_
              exact tz_sub (ihag_18 _ _ _ h) [1, 2, 0] rfl
            · refine tz_ldc2 31 C dX10_digest_122 cw_RX10_282 ?_
              refine tz_lload_n 1 1 C dX10_digest_125 rfl rfl ?_
              refine tz_lmul C dX10_digest_126 ?_
              refine tz_aload_n 0 0 C dX10_digest_127 rfl rfl ?_
              refine tz_iload_n 3 2 C dX10_digest_128 rfl rfl ?_
              refine tz_iload 3 C dX10_digest_129 rfl ?_
              refine tz_calliv C dX10_digest_131 lk_RX10_201 (m_X10_chainOf G hG  h) (by decide) rfl rfl rfl rfl ⟨Nat.le_of_ble_eq_true rfl, Nat.le_of_ble_eq_true rfl⟩ (Nat.le_of_ble_eq_true rfl) rfl (fun r_48 σ_47 h => ?_)
              refine tz_i2l C dX10_digest_134 ?_
              refine tz_ladd C dX10_digest_135 ?_
              refine tz_lstore_n 1 [(0, .ref _), (3, .int x3_21), (4, .int x4_45)] C dX10_digest_136 rfl (Nat.le_of_ble_eq_true rfl) rfl h (fun x1_49 h => ?_)
              refine tz_iinc 3 [(1, .long x1_49), (0, .ref _), (3, .int x3_21)] 1 C dX10_digest_137 (by decide) rfl (Nat.le_of_ble_eq_true rfl) rfl h (fun x4_50 h => ?_)
              refine tz_goto 116 C dX10_digest_140 (by decide) ?_
              exact tz_sub (ihag_42 _ _ _ h) [2, 1, 3, 0] rfl
        · refine tz_aload_n 0 0 C dX10_digest_92 rfl rfl ?_
          refine tz_lload_n 1 1 C dX10_digest_93 rfl rfl ?_
          refine tz_iload_n 3 2 C dX10_digest_94 rfl rfl ?_
          refine tz_calllv C dX10_digest_95 lk_RX10_308 (m_X10_stemDigest G hG  h) (by decide) rfl rfl rfl rfl ⟨Nat.le_of_ble_eq_true rfl, Nat.le_of_ble_eq_true rfl⟩ (Nat.le_of_ble_eq_true rfl) rfl (fun r_52 σ_51 h => ?_)
          refine tz_lstore_n_k 1 [(0, .ref _), (3, .int x3_17)] C dX10_digest_98 rfl (Nat.le_of_ble_eq_true rfl) rfl ?_
          refine tz_iinc 2 [(1, .long r_52), (0, .ref _)] 1 C dX10_digest_99 (by decide) rfl (Nat.le_of_ble_eq_true rfl) rfl h (fun x3_53 h => ?_)
          refine tz_goto 84 C dX10_digest_102 (by decide) ?_
          exact tz_sub (ihag_14 _ _ _ h) [2, 1, 0] rfl
      · refine tz_aload_n 0 0 C dX10_digest_65 rfl rfl ?_
        refine tz_lload_n 1 1 C dX10_digest_66 rfl rfl ?_
        refine tz_iload_n 3 2 C dX10_digest_67 rfl rfl ?_
        refine tz_calllv C dX10_digest_68 lk_RX10_304 (m_X10_sentenceDigest G hG  h) (by decide) rfl rfl rfl rfl ⟨Nat.le_of_ble_eq_true rfl, Nat.le_of_ble_eq_true rfl⟩ (Nat.le_of_ble_eq_true rfl) rfl (fun r_55 σ_54 h => ?_)
        refine tz_lstore_n_k 1 [(0, .ref _), (3, .int x3_12)] C dX10_digest_71 rfl (Nat.le_of_ble_eq_true rfl) rfl ?_
        refine tz_iinc 2 [(1, .long r_55), (0, .ref _)] 1 C dX10_digest_72 (by decide) rfl (Nat.le_of_ble_eq_true rfl) rfl h (fun x3_56 h => ?_)
        refine tz_goto 59 C dX10_digest_75 (by decide) ?_
        exact tz_sub (ihag_9 _ _ _ h) [2, 1, 0] rfl
    · refine tz_ldc2 31 C dX10_digest_38 cw_RX10_282 ?_
      refine tz_lload_n 1 1 C dX10_digest_41 rfl rfl ?_
      refine tz_lmul C dX10_digest_42 ?_
      refine tz_aload_n 0 0 C dX10_digest_43 rfl rfl ?_
      refine tz_iload_n 3 2 C dX10_digest_44 rfl rfl ?_
      refine tz_calliv C dX10_digest_45 lk_RX10_150 (m_X10_faultOf G hG  h) (by decide) rfl rfl rfl rfl ⟨Nat.le_of_ble_eq_true rfl, Nat.le_of_ble_eq_true rfl⟩ (Nat.le_of_ble_eq_true rfl) rfl (fun r_58 σ_57 h => ?_)
      refine tz_i2l C dX10_digest_48 ?_
      refine tz_ladd C dX10_digest_49 ?_
      refine tz_lstore_n 1 [(0, .ref _), (3, .int x3_8)] C dX10_digest_50 rfl (Nat.le_of_ble_eq_true rfl) rfl h (fun x1_59 h => ?_)
      refine tz_iinc 2 [(1, .long x1_59), (0, .ref _)] 1 C dX10_digest_51 (by decide) rfl (Nat.le_of_ble_eq_true rfl) rfl h (fun x3_60 h => ?_)
      refine tz_goto 33 C dX10_digest_54 (by decide) ?_
      exact tz_sub (ihag_5 _ _ _ h) [2, 1, 0] rfl
  · refine tz_ldc2 31 C dX10_digest_12 cw_RX10_282 ?_
    refine tz_lload_n 1 1 C dX10_digest_15 rfl rfl ?_
    refine tz_lmul C dX10_digest_16 ?_
    refine tz_aload_n 0 0 C dX10_digest_17 rfl rfl ?_
    refine tz_iload_n 3 2 C dX10_digest_18 rfl rfl ?_
    refine tz_calliv C dX10_digest_19 lk_RX10_301 (m_X10_count G hG  h) (by decide) rfl rfl rfl rfl ⟨Nat.le_of_ble_eq_true rfl, Nat.le_of_ble_eq_true rfl⟩ (Nat.le_of_ble_eq_true rfl) rfl (fun r_62 σ_61 h => ?_)
    refine tz_i2l C dX10_digest_22 ?_
    refine tz_ladd C dX10_digest_23 ?_
    refine tz_lstore_n 1 [(0, .ref _), (3, .int x3_4)] C dX10_digest_24 rfl (Nat.le_of_ble_eq_true rfl) rfl h (fun x1_63 h => ?_)
    refine tz_iinc 2 [(1, .long x1_63), (0, .ref _)] 1 C dX10_digest_25 (by decide) rfl (Nat.le_of_ble_eq_true rfl) rfl h (fun x3_64 h => ?_)
    refine tz_goto 6 C dX10_digest_28 (by decide) ?_
    exact tz_sub (ihag_1 _ _ _ h) [2, 1, 0] rfl
