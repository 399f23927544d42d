def vc_law (Ln : Nat) (xs : Nat → Int32) (σ : tzS) (Q : Int32 → tzS → Prop) : Prop :=
  tz_loop1 (fun (x3_3 : Int32) (σ_2 : tzS) (ag_1 : Int32 → tzS → Prop) =>
    (((Int32.ofNat Ln) - 6) < x3_3 →
      Q 1 σ_2) ∧
    (¬ ((Int32.ofNat Ln) - 6) < x3_3 →
      vp_in x3_3 Ln ∧ (
        (((xs x3_3.toNatClampNeg) &&& 31) = 0 →
          vp_in (x3_3 + 1) Ln ∧ (
            vc_X9_type (xs (x3_3 + 1).toNatClampNeg) σ_2 (fun (r_7 : Int32) (σ_6 : tzS) =>
              vp_in (x3_3 + 1) Ln ∧ (
                vc_X10_type (xs (x3_3 + 1).toNatClampNeg) σ_6 (fun (r_10 : Int32) (σ_9 : tzS) =>
                  (r_7 = r_10 →
                    ∀ x3_11 : Int32, x3_11 = x3_3 + 6 →
                    ag_1 x3_11 σ_9) ∧
                  (¬ r_7 = r_10 →
                    Q 0 σ_9)))))) ∧
        (((xs x3_3.toNatClampNeg) &&& 31) = 1 →
          vc_X9_wipe  σ_2 (fun (r_13 : Int32) (σ_12 : tzS) =>
            vc_X10_wipe  σ_12 (fun (r_15 : Int32) (σ_14 : tzS) =>
              (r_13 = r_15 →
                ∀ x3_16 : Int32, x3_16 = x3_3 + 6 →
                ag_1 x3_16 σ_14) ∧
              (¬ r_13 = r_15 →
                Q 0 σ_14)))) ∧
        (((xs x3_3.toNatClampNeg) &&& 31) = 2 →
          vc_X9_undo  σ_2 (fun (r_18 : Int32) (σ_17 : tzS) =>
            vc_X10_undo  σ_17 (fun (r_20 : Int32) (σ_19 : tzS) =>
              (r_18 = r_20 →
                ∀ x3_21 : Int32, x3_21 = x3_3 + 6 →
                ag_1 x3_21 σ_19) ∧
              (¬ r_18 = r_20 →
                Q 0 σ_19)))) ∧
        (((xs x3_3.toNatClampNeg) &&& 31) = 3 →
          vp_in (x3_3 + 1) Ln ∧ (
            vc_X9_fault (xs (x3_3 + 1).toNatClampNeg) σ_2 (fun (r_24 : Int32) (σ_23 : tzS) =>
              vp_in (x3_3 + 1) Ln ∧ (
                vc_X10_fault (xs (x3_3 + 1).toNatClampNeg) σ_23 (fun (r_27 : Int32) (σ_26 : tzS) =>
                  (r_24 = r_27 →
                    ∀ x3_28 : Int32, x3_28 = x3_3 + 6 →
                    ag_1 x3_28 σ_26) ∧
                  (¬ r_24 = r_27 →
                    Q 0 σ_26)))))) ∧
        (((xs x3_3.toNatClampNeg) &&& 31) = 4 →
          vp_in (x3_3 + 1) Ln ∧ (
            vp_in (x3_3 + 2) Ln ∧ (
              vc_X9_set (xs (x3_3 + 1).toNatClampNeg) (xs (x3_3 + 2).toNatClampNeg) σ_2 (fun (r_32 : Int32) (σ_31 : tzS) =>
                vp_in (x3_3 + 1) Ln ∧ (
                  vp_in (x3_3 + 2) Ln ∧ (
                    vc_X10_set (xs (x3_3 + 1).toNatClampNeg) (xs (x3_3 + 2).toNatClampNeg) σ_31 (fun (r_36 : Int32) (σ_35 : tzS) =>
                      (r_32 = r_36 →
                        ∀ x3_37 : Int32, x3_37 = x3_3 + 6 →
                        ag_1 x3_37 σ_35) ∧
                      (¬ r_32 = r_36 →
                        Q 0 σ_35)))))))) ∧
        (((xs x3_3.toNatClampNeg) &&& 31) = 5 →
          vp_in (x3_3 + 1) Ln ∧ (
            vc_X9_tell (xs (x3_3 + 1).toNatClampNeg) σ_2 (fun (r_40 : Int32) (σ_39 : tzS) =>
              vp_in (x3_3 + 1) Ln ∧ (
                vc_X10_tell (xs (x3_3 + 1).toNatClampNeg) σ_39 (fun (r_43 : Int32) (σ_42 : tzS) =>
                  (r_40 = r_43 →
                    ∀ x3_44 : Int32, x3_44 = x3_3 + 6 →
                    ag_1 x3_44 σ_42) ∧
                  (¬ r_40 = r_43 →
                    Q 0 σ_42)))))) ∧
        (((xs x3_3.toNatClampNeg) &&& 31) = 6 →
          vp_in (x3_3 + 1) Ln ∧ (
            vc_X9_read (xs (x3_3 + 1).toNatClampNeg) σ_2 (fun (r_47 : Int32) (σ_46 : tzS) =>
              vp_in (x3_3 + 1) Ln ∧ (
                vc_X10_read (xs (x3_3 + 1).toNatClampNeg) σ_46 (fun (r_50 : Int32) (σ_49 : tzS) =>
                  (r_47 = r_50 →
                    ∀ x3_51 : Int32, x3_51 = x3_3 + 6 →
                    ag_1 x3_51 σ_49) ∧
                  (¬ r_47 = r_50 →
                    Q 0 σ_49)))))) ∧
        (((xs x3_3.toNatClampNeg) &&& 31) = 7 →
          vp_in (x3_3 + 1) Ln ∧ (
            vp_in (x3_3 + 2) Ln ∧ (
              vc_X9_sentence (xs (x3_3 + 1).toNatClampNeg) (xs (x3_3 + 2).toNatClampNeg) σ_2 (fun (r_55 : Int32) (σ_54 : tzS) =>
                vp_in (x3_3 + 1) Ln ∧ (
                  vp_in (x3_3 + 2) Ln ∧ (
                    vc_X10_sentence (xs (x3_3 + 1).toNatClampNeg) (xs (x3_3 + 2).toNatClampNeg) σ_54 (fun (r_59 : Int32) (σ_58 : tzS) =>
                      (r_55 = r_59 →
                        ∀ x3_60 : Int32, x3_60 = x3_3 + 6 →
                        ag_1 x3_60 σ_58) ∧
                      (¬ r_55 = r_59 →
                        Q 0 σ_58)))))))) ∧
        (((xs x3_3.toNatClampNeg) &&& 31) = 8 →
          vp_in (x3_3 + 1) Ln ∧ (
            vp_in (x3_3 + 2) Ln ∧ (
              vc_X9_word (xs (x3_3 + 1).toNatClampNeg) (xs (x3_3 + 2).toNatClampNeg) σ_2 (fun (r_64 : Int32) (σ_63 : tzS) =>
                vp_in (x3_3 + 1) Ln ∧ (
                  vp_in (x3_3 + 2) Ln ∧ (
                    vc_X10_word (xs (x3_3 + 1).toNatClampNeg) (xs (x3_3 + 2).toNatClampNeg) σ_63 (fun (r_68 : Int32) (σ_67 : tzS) =>
                      (r_64 = r_68 →
                        ∀ x3_69 : Int32, x3_69 = x3_3 + 6 →
                        ag_1 x3_69 σ_67) ∧
                      (¬ r_64 = r_68 →
                        Q 0 σ_67)))))))) ∧
        (((xs x3_3.toNatClampNeg) &&& 31) = 9 →
          vp_in (x3_3 + 1) Ln ∧ (
            vp_in (x3_3 + 2) Ln ∧ (
              vc_X9_stem (xs (x3_3 + 1).toNatClampNeg) (xs (x3_3 + 2).toNatClampNeg) σ_2 (fun (r_73 : Int32) (σ_72 : tzS) =>
                vp_in (x3_3 + 1) Ln ∧ (
                  vp_in (x3_3 + 2) Ln ∧ (
                    vc_X10_stem (xs (x3_3 + 1).toNatClampNeg) (xs (x3_3 + 2).toNatClampNeg) σ_72 (fun (r_77 : Int32) (σ_76 : tzS) =>
                      (r_73 = r_77 →
                        ∀ x3_78 : Int32, x3_78 = x3_3 + 6 →
                        ag_1 x3_78 σ_76) ∧
                      (¬ r_73 = r_77 →
                        Q 0 σ_76)))))))) ∧
        (((xs x3_3.toNatClampNeg) &&& 31) = 10 →
          vp_in (x3_3 + 1) Ln ∧ (
            vp_in (x3_3 + 2) Ln ∧ (
              vc_X9_letter (xs (x3_3 + 1).toNatClampNeg) (xs (x3_3 + 2).toNatClampNeg) σ_2 (fun (r_82 : Int32) (σ_81 : tzS) =>
                vp_in (x3_3 + 1) Ln ∧ (
                  vp_in (x3_3 + 2) Ln ∧ (
                    vc_X10_letter (xs (x3_3 + 1).toNatClampNeg) (xs (x3_3 + 2).toNatClampNeg) σ_81 (fun (r_86 : Int32) (σ_85 : tzS) =>
                      (r_82 = r_86 →
                        ∀ x3_87 : Int32, x3_87 = x3_3 + 6 →
                        ag_1 x3_87 σ_85) ∧
                      (¬ r_82 = r_86 →
                        Q 0 σ_85)))))))) ∧
        (((xs x3_3.toNatClampNeg) &&& 31) = 11 →
          vc_X9_chains  σ_2 (fun (r_89 : Int32) (σ_88 : tzS) =>
            vc_X10_chains  σ_88 (fun (r_91 : Int32) (σ_90 : tzS) =>
              (r_89 = r_91 →
                ∀ x3_92 : Int32, x3_92 = x3_3 + 6 →
                ag_1 x3_92 σ_90) ∧
              (¬ r_89 = r_91 →
                Q 0 σ_90)))) ∧
        (((xs x3_3.toNatClampNeg) &&& 31) = 12 →
          vp_in (x3_3 + 1) Ln ∧ (
            vp_in (x3_3 + 2) Ln ∧ (
              vc_X9_chain (xs (x3_3 + 1).toNatClampNeg) (xs (x3_3 + 2).toNatClampNeg) σ_2 (fun (r_96 : Int32) (σ_95 : tzS) =>
                vp_in (x3_3 + 1) Ln ∧ (
                  vp_in (x3_3 + 2) Ln ∧ (
                    vc_X10_chain (xs (x3_3 + 1).toNatClampNeg) (xs (x3_3 + 2).toNatClampNeg) σ_95 (fun (r_100 : Int32) (σ_99 : tzS) =>
                      (r_96 = r_100 →
                        ∀ x3_101 : Int32, x3_101 = x3_3 + 6 →
                        ag_1 x3_101 σ_99) ∧
                      (¬ r_96 = r_100 →
                        Q 0 σ_99)))))))) ∧
        (((xs x3_3.toNatClampNeg) &&& 31) = 13 →
          vp_in (x3_3 + 1) Ln ∧ (
            vp_in (x3_3 + 2) Ln ∧ (
              vc_X9_over (xs (x3_3 + 1).toNatClampNeg) (xs (x3_3 + 2).toNatClampNeg) σ_2 (fun (r_105 : Int32) (σ_104 : tzS) =>
                vp_in (x3_3 + 1) Ln ∧ (
                  vp_in (x3_3 + 2) Ln ∧ (
                    vc_X10_over (xs (x3_3 + 1).toNatClampNeg) (xs (x3_3 + 2).toNatClampNeg) σ_104 (fun (r_109 : Int32) (σ_108 : tzS) =>
                      (r_105 = r_109 →
                        ∀ x3_110 : Int32, x3_110 = x3_3 + 6 →
                        ag_1 x3_110 σ_108) ∧
                      (¬ r_105 = r_109 →
                        Q 0 σ_108)))))))) ∧
        (((xs x3_3.toNatClampNeg) &&& 31) = 14 →
          vp_in (x3_3 + 1) Ln ∧ (
            vp_in (x3_3 + 2) Ln ∧ (
              vc_X9_cost (xs (x3_3 + 1).toNatClampNeg) (xs (x3_3 + 2).toNatClampNeg) σ_2 (fun (r_114 : Int32) (σ_113 : tzS) =>
                vp_in (x3_3 + 1) Ln ∧ (
                  vp_in (x3_3 + 2) Ln ∧ (
                    vc_X10_cost (xs (x3_3 + 1).toNatClampNeg) (xs (x3_3 + 2).toNatClampNeg) σ_113 (fun (r_118 : Int32) (σ_117 : tzS) =>
                      (r_114 = r_118 →
                        ∀ x3_119 : Int32, x3_119 = x3_3 + 6 →
                        ag_1 x3_119 σ_117) ∧
                      (¬ r_114 = r_118 →
                        Q 0 σ_117)))))))) ∧
        (((xs x3_3.toNatClampNeg) &&& 31) = 15 →
          vp_in (x3_3 + 1) Ln ∧ (
            vc_X9_best (xs (x3_3 + 1).toNatClampNeg) σ_2 (fun (r_122 : Int32) (σ_121 : tzS) =>
              vp_in (x3_3 + 1) Ln ∧ (
                vc_X10_best (xs (x3_3 + 1).toNatClampNeg) σ_121 (fun (r_125 : Int32) (σ_124 : tzS) =>
                  (r_122 = r_125 →
                    ∀ x3_126 : Int32, x3_126 = x3_3 + 6 →
                    ag_1 x3_126 σ_124) ∧
                  (¬ r_122 = r_125 →
                    Q 0 σ_124)))))) ∧
        (((xs x3_3.toNatClampNeg) &&& 31) = 16 →
          vp_in (x3_3 + 1) Ln ∧ (
            vp_in (x3_3 + 2) Ln ∧ (
              vc_X9_seam (xs (x3_3 + 1).toNatClampNeg) (xs (x3_3 + 2).toNatClampNeg) σ_2 (fun (r_130 : Int32) (σ_129 : tzS) =>
                vp_in (x3_3 + 1) Ln ∧ (
                  vp_in (x3_3 + 2) Ln ∧ (
                    vc_X10_seam (xs (x3_3 + 1).toNatClampNeg) (xs (x3_3 + 2).toNatClampNeg) σ_129 (fun (r_134 : Int32) (σ_133 : tzS) =>
                      (r_130 = r_134 →
                        ∀ x3_135 : Int32, x3_135 = x3_3 + 6 →
                        ag_1 x3_135 σ_133) ∧
                      (¬ r_130 = r_134 →
                        Q 0 σ_133)))))))) ∧
        (((xs x3_3.toNatClampNeg) &&& 31) = 17 →
          vc_X9_bent  σ_2 (fun (r_137 : Int32) (σ_136 : tzS) =>
            vc_X10_bent  σ_136 (fun (r_139 : Int32) (σ_138 : tzS) =>
              (r_137 = r_139 →
                ∀ x3_140 : Int32, x3_140 = x3_3 + 6 →
                ag_1 x3_140 σ_138) ∧
              (¬ r_137 = r_139 →
                Q 0 σ_138)))) ∧
        (((xs x3_3.toNatClampNeg) &&& 31) = 18 →
          vp_in (x3_3 + 1) Ln ∧ (
            vp_in (x3_3 + 2) Ln ∧ (
              vc_X9_drop (xs (x3_3 + 1).toNatClampNeg) (xs (x3_3 + 2).toNatClampNeg) σ_2 (fun (r_144 : Int32) (σ_143 : tzS) =>
                vp_in (x3_3 + 1) Ln ∧ (
                  vp_in (x3_3 + 2) Ln ∧ (
                    vc_X10_drop (xs (x3_3 + 1).toNatClampNeg) (xs (x3_3 + 2).toNatClampNeg) σ_143 (fun (r_148 : Int32) (σ_147 : tzS) =>
                      (r_144 = r_148 →
                        ∀ x3_149 : Int32, x3_149 = x3_3 + 6 →
                        ag_1 x3_149 σ_147) ∧
                      (¬ r_144 = r_148 →
                        Q 0 σ_147)))))))) ∧
        (((xs x3_3.toNatClampNeg) &&& 31) = 19 →
          vp_in (x3_3 + 1) Ln ∧ (
            vp_in (x3_3 + 2) Ln ∧ (
              vc_X9_gap (xs (x3_3 + 1).toNatClampNeg) (xs (x3_3 + 2).toNatClampNeg) σ_2 (fun (r_153 : Int32) (σ_152 : tzS) =>
                vp_in (x3_3 + 1) Ln ∧ (
                  vp_in (x3_3 + 2) Ln ∧ (
                    vc_X10_gap (xs (x3_3 + 1).toNatClampNeg) (xs (x3_3 + 2).toNatClampNeg) σ_152 (fun (r_157 : Int32) (σ_156 : tzS) =>
                      (r_153 = r_157 →
                        ∀ x3_158 : Int32, x3_158 = x3_3 + 6 →
                        ag_1 x3_158 σ_156) ∧
                      (¬ r_153 = r_157 →
                        Q 0 σ_156)))))))) ∧
        (((xs x3_3.toNatClampNeg) &&& 31) = 20 →
          vp_in (x3_3 + 1) Ln ∧ (
            vc_X9_deep (xs (x3_3 + 1).toNatClampNeg) σ_2 (fun (r_161 : Int32) (σ_160 : tzS) =>
              vp_in (x3_3 + 1) Ln ∧ (
                vc_X10_deep (xs (x3_3 + 1).toNatClampNeg) σ_160 (fun (r_164 : Int32) (σ_163 : tzS) =>
                  (r_161 = r_164 →
                    ∀ x3_165 : Int32, x3_165 = x3_3 + 6 →
                    ag_1 x3_165 σ_163) ∧
                  (¬ r_161 = r_164 →
                    Q 0 σ_163)))))) ∧
        (((xs x3_3.toNatClampNeg) &&& 31) = 21 →
          vp_in (x3_3 + 1) Ln ∧ (
            vp_in (x3_3 + 2) Ln ∧ (
              vc_X9_apart (xs (x3_3 + 1).toNatClampNeg) (xs (x3_3 + 2).toNatClampNeg) σ_2 (fun (r_169 : Int32) (σ_168 : tzS) =>
                vp_in (x3_3 + 1) Ln ∧ (
                  vp_in (x3_3 + 2) Ln ∧ (
                    vc_X10_apart (xs (x3_3 + 1).toNatClampNeg) (xs (x3_3 + 2).toNatClampNeg) σ_168 (fun (r_173 : Int32) (σ_172 : tzS) =>
                      (r_169 = r_173 →
                        ∀ x3_174 : Int32, x3_174 = x3_3 + 6 →
                        ag_1 x3_174 σ_172) ∧
                      (¬ r_169 = r_173 →
                        Q 0 σ_172)))))))) ∧
        (((xs x3_3.toNatClampNeg) &&& 31) = 22 →
          vp_in (x3_3 + 1) Ln ∧ (
            vp_in (x3_3 + 2) Ln ∧ (
              vp_in (x3_3 + 3) Ln ∧ (
                vc_X9_sheet (xs (x3_3 + 1).toNatClampNeg) (xs (x3_3 + 2).toNatClampNeg) (xs (x3_3 + 3).toNatClampNeg) σ_2 (fun (r_179 : Int32) (σ_178 : tzS) =>
                  vp_in (x3_3 + 1) Ln ∧ (
                    vp_in (x3_3 + 2) Ln ∧ (
                      vp_in (x3_3 + 3) Ln ∧ (
                        vc_X10_sheet (xs (x3_3 + 1).toNatClampNeg) (xs (x3_3 + 2).toNatClampNeg) (xs (x3_3 + 3).toNatClampNeg) σ_178 (fun (r_184 : Int32) (σ_183 : tzS) =>
                          (r_179 = r_184 →
                            ∀ x3_185 : Int32, x3_185 = x3_3 + 6 →
                            ag_1 x3_185 σ_183) ∧
                          (¬ r_179 = r_184 →
                            Q 0 σ_183)))))))))) ∧
        (((xs x3_3.toNatClampNeg) &&& 31) = 23 →
          vp_in (x3_3 + 1) Ln ∧ (
            vc_X9_lose (xs (x3_3 + 1).toNatClampNeg) σ_2 (fun (r_188 : Int32) (σ_187 : tzS) =>
              vp_in (x3_3 + 1) Ln ∧ (
                vc_X10_lose (xs (x3_3 + 1).toNatClampNeg) σ_187 (fun (r_191 : Int32) (σ_190 : tzS) =>
                  (r_188 = r_191 →
                    ∀ x3_192 : Int32, x3_192 = x3_3 + 6 →
                    ag_1 x3_192 σ_190) ∧
                  (¬ r_188 = r_191 →
                    Q 0 σ_190)))))) ∧
        (((xs x3_3.toNatClampNeg) &&& 31) = 24 →
          vp_in (x3_3 + 1) Ln ∧ (
            vp_in (x3_3 + 2) Ln ∧ (
              vp_in (x3_3 + 3) Ln ∧ (
                vp_in (x3_3 + 4) Ln ∧ (
                  vc_X9_put (xs (x3_3 + 1).toNatClampNeg) (xs (x3_3 + 2).toNatClampNeg) (xs (x3_3 + 3).toNatClampNeg) (xs (x3_3 + 4).toNatClampNeg) σ_2 (fun (r_198 : Int32) (σ_197 : tzS) =>
                    vp_in (x3_3 + 1) Ln ∧ (
                      vp_in (x3_3 + 2) Ln ∧ (
                        vp_in (x3_3 + 3) Ln ∧ (
                          vp_in (x3_3 + 4) Ln ∧ (
                            vc_X10_put (xs (x3_3 + 1).toNatClampNeg) (xs (x3_3 + 2).toNatClampNeg) (xs (x3_3 + 3).toNatClampNeg) (xs (x3_3 + 4).toNatClampNeg) σ_197 (fun (r_204 : Int32) (σ_203 : tzS) =>
                              (r_198 = r_204 →
                                ∀ x3_205 : Int32, x3_205 = x3_3 + 6 →
                                ag_1 x3_205 σ_203) ∧
                              (¬ r_198 = r_204 →
                                Q 0 σ_203)))))))))))) ∧
        (((xs x3_3.toNatClampNeg) &&& 31) = 25 →
          vp_in (x3_3 + 1) Ln ∧ (
            vp_in (x3_3 + 2) Ln ∧ (
              vp_in (x3_3 + 3) Ln ∧ (
                vc_X9_get (xs (x3_3 + 1).toNatClampNeg) (xs (x3_3 + 2).toNatClampNeg) (xs (x3_3 + 3).toNatClampNeg) σ_2 (fun (r_210 : Int32) (σ_209 : tzS) =>
                  vp_in (x3_3 + 1) Ln ∧ (
                    vp_in (x3_3 + 2) Ln ∧ (
                      vp_in (x3_3 + 3) Ln ∧ (
                        vc_X10_get (xs (x3_3 + 1).toNatClampNeg) (xs (x3_3 + 2).toNatClampNeg) (xs (x3_3 + 3).toNatClampNeg) σ_209 (fun (r_215 : Int32) (σ_214 : tzS) =>
                          (r_210 = r_215 →
                            ∀ x3_216 : Int32, x3_216 = x3_3 + 6 →
                            ag_1 x3_216 σ_214) ∧
                          (¬ r_210 = r_215 →
                            Q 0 σ_214)))))))))) ∧
        (((xs x3_3.toNatClampNeg) &&& 31) = 26 →
          vp_in (x3_3 + 1) Ln ∧ (
            vp_in (x3_3 + 2) Ln ∧ (
              vp_in (x3_3 + 3) Ln ∧ (
                vp_in (x3_3 + 4) Ln ∧ (
                  vp_in (x3_3 + 5) Ln ∧ (
                    vc_X9_copy (xs (x3_3 + 1).toNatClampNeg) (xs (x3_3 + 2).toNatClampNeg) (xs (x3_3 + 3).toNatClampNeg) (xs (x3_3 + 4).toNatClampNeg) (xs (x3_3 + 5).toNatClampNeg) σ_2 (fun (r_223 : Int32) (σ_222 : tzS) =>
                      vp_in (x3_3 + 1) Ln ∧ (
                        vp_in (x3_3 + 2) Ln ∧ (
                          vp_in (x3_3 + 3) Ln ∧ (
                            vp_in (x3_3 + 4) Ln ∧ (
                              vp_in (x3_3 + 5) Ln ∧ (
                                vc_X10_copy (xs (x3_3 + 1).toNatClampNeg) (xs (x3_3 + 2).toNatClampNeg) (xs (x3_3 + 3).toNatClampNeg) (xs (x3_3 + 4).toNatClampNeg) (xs (x3_3 + 5).toNatClampNeg) σ_222 (fun (r_230 : Int32) (σ_229 : tzS) =>
                                  (r_223 = r_230 →
                                    ∀ x3_231 : Int32, x3_231 = x3_3 + 6 →
                                    ag_1 x3_231 σ_229) ∧
                                  (¬ r_223 = r_230 →
                                    Q 0 σ_229)))))))))))))) ∧
        (((xs x3_3.toNatClampNeg) &&& 31) = 27 →
          vp_in (x3_3 + 1) Ln ∧ (
            vp_in (x3_3 + 2) Ln ∧ (
              vc_X9_write (xs (x3_3 + 1).toNatClampNeg) (xs (x3_3 + 2).toNatClampNeg) σ_2 (fun (r_235 : Int32) (σ_234 : tzS) =>
                vp_in (x3_3 + 1) Ln ∧ (
                  vp_in (x3_3 + 2) Ln ∧ (
                    vc_X10_write (xs (x3_3 + 1).toNatClampNeg) (xs (x3_3 + 2).toNatClampNeg) σ_234 (fun (r_239 : Int32) (σ_238 : tzS) =>
                      (r_235 = r_239 →
                        ∀ x3_240 : Int32, x3_240 = x3_3 + 6 →
                        ag_1 x3_240 σ_238) ∧
                      (¬ r_235 = r_239 →
                        Q 0 σ_238)))))))) ∧
        (((xs x3_3.toNatClampNeg) &&& 31) = 28 →
          vp_in (x3_3 + 1) Ln ∧ (
            vc_X9_count (xs (x3_3 + 1).toNatClampNeg) σ_2 (fun (r_243 : Int32) (σ_242 : tzS) =>
              vp_in (x3_3 + 1) Ln ∧ (
                vc_X10_count (xs (x3_3 + 1).toNatClampNeg) σ_242 (fun (r_246 : Int32) (σ_245 : tzS) =>
                  (r_243 = r_246 →
                    ∀ x3_247 : Int32, x3_247 = x3_3 + 6 →
                    ag_1 x3_247 σ_245) ∧
                  (¬ r_243 = r_246 →
                    Q 0 σ_245)))))) ∧
        (((xs x3_3.toNatClampNeg) &&& 31) = 29 →
          vc_X9_digest  σ_2 (fun (r_249 : Int64) (σ_248 : tzS) =>
            vc_X10_digest  σ_248 (fun (r_251 : Int64) (σ_250 : tzS) =>
              ((lg_cmp r_249 r_251) = 0 →
                ∀ x3_252 : Int32, x3_252 = x3_3 + 6 →
                ag_1 x3_252 σ_250) ∧
              (¬ (lg_cmp r_249 r_251) = 0 →
                Q 0 σ_250)))) ∧
        (¬ ((xs x3_3.toNatClampNeg) &&& 31) = 0 → ¬ ((xs x3_3.toNatClampNeg) &&& 31) = 1 → ¬ ((xs x3_3.toNatClampNeg) &&& 31) = 2 → ¬ ((xs x3_3.toNatClampNeg) &&& 31) = 3 → ¬ ((xs x3_3.toNatClampNeg) &&& 31) = 4 → ¬ ((xs x3_3.toNatClampNeg) &&& 31) = 5 → ¬ ((xs x3_3.toNatClampNeg) &&& 31) = 6 → ¬ ((xs x3_3.toNatClampNeg) &&& 31) = 7 → ¬ ((xs x3_3.toNatClampNeg) &&& 31) = 8 → ¬ ((xs x3_3.toNatClampNeg) &&& 31) = 9 → ¬ ((xs x3_3.toNatClampNeg) &&& 31) = 10 → ¬ ((xs x3_3.toNatClampNeg) &&& 31) = 11 → ¬ ((xs x3_3.toNatClampNeg) &&& 31) = 12 → ¬ ((xs x3_3.toNatClampNeg) &&& 31) = 13 → ¬ ((xs x3_3.toNatClampNeg) &&& 31) = 14 → ¬ ((xs x3_3.toNatClampNeg) &&& 31) = 15 → ¬ ((xs x3_3.toNatClampNeg) &&& 31) = 16 → ¬ ((xs x3_3.toNatClampNeg) &&& 31) = 17 → ¬ ((xs x3_3.toNatClampNeg) &&& 31) = 18 → ¬ ((xs x3_3.toNatClampNeg) &&& 31) = 19 → ¬ ((xs x3_3.toNatClampNeg) &&& 31) = 20 → ¬ ((xs x3_3.toNatClampNeg) &&& 31) = 21 → ¬ ((xs x3_3.toNatClampNeg) &&& 31) = 22 → ¬ ((xs x3_3.toNatClampNeg) &&& 31) = 23 → ¬ ((xs x3_3.toNatClampNeg) &&& 31) = 24 → ¬ ((xs x3_3.toNatClampNeg) &&& 31) = 25 → ¬ ((xs x3_3.toNatClampNeg) &&& 31) = 26 → ¬ ((xs x3_3.toNatClampNeg) &&& 31) = 27 → ¬ ((xs x3_3.toNatClampNeg) &&& 31) = 28 → ¬ ((xs x3_3.toNatClampNeg) &&& 31) = 29 →
          ∀ x3_253 : Int32, x3_253 = x3_3 + 6 →
          ag_1 x3_253 σ_2)))) (0 : Int32) σ
set_option maxRecDepth 20000 in
set_option maxHeartbeats 4000000 in
theorem m_law (G : tzG) (hG : tz_ok G) {E : tzE} (C : tz_C G E cL_law RL 4 9 219) {Ln : Nat} {xs : Nat → Int32} (hX : tz_X G E Ln xs) {σ : tzS} {Q : Int32 → tzS → Prop} (hret : ∀ (pc : Nat) (L : List (Nat × Value)) (r : Int32) (σ : tzS), decode cL_law pc = .ok (.ireturn, 1) → narrow .boolean (.int r) = .int r → Q r σ → tz_V G E pc L [.int r] σ) (h : vc_law Ln xs σ Q) : tz_V G E 16 [(0, .ref 1002), (1, .ref 0), (2, .ref 133)] [] σ := by
  unfold vc_law at h
  refine tz_iconst 0 (by decide) C dL_law_16 ?_
  refine tz_istore_n_k 3 [(0, .ref _), (1, .ref _), (2, .ref _)] C dL_law_17 rfl (Nat.le_of_ble_eq_true rfl) rfl ?_
  refine tz_sub (L := [(0, .ref _), (1, .ref _), (2, .ref _), (3, .int 0)]) ?_ [1, 2, 3, 0] rfl
  refine tz_loop1_w (V := fun (x3_3 : Int32) (σ_2 : tzS) => tz_V G E 18 [(0, .ref _), (1, .ref _), (2, .ref _), (3, .int x3_3)] [] σ_2) h (fun ag_1 ihag_1 x3_3 σ_2 h => ?_)
  refine tz_iload_n 3 3 C dL_law_18 rfl rfl ?_
  refine tz_aload_n 0 0 C dL_law_19 rfl rfl ?_
  refine tz_slen C hX dL_law_20 ?_
  refine tz_bipush 6 (by decide) C dL_law_21 ?_
  refine tz_isub C dL_law_23 ?_
  refine tz_icmp_gt 1055 C dL_law_24 (by decide) h (fun h => ?_) (fun h => ?_)
  · refine tz_iconst 1 (by decide) C dL_law_1055 ?_
    exact hret _ _ _ _ dL_law_1056 rfl h
  · refine tz_aload_n 0 0 C dL_law_27 rfl rfl ?_
    refine tz_iload_n 3 3 C dL_law_28 rfl rfl ?_
    obtain ⟨hin_4, h⟩ := h
    refine tz_sld C hX dL_law_29 hin_4 ?_
    refine tz_bipush 31 (by decide) C dL_law_30 ?_
    refine tz_iand C dL_law_32 ?_
    refine tz_swc 0 (135) 168 C dL_law_33 (by decide) (by decide) rfl (by decide) h (fun h => ?_) (fun e0 h => ?_)
    · refine tz_aload_n 1 1 C dL_law_168 rfl rfl ?_
      refine tz_aload_n 0 0 C dL_law_169 rfl rfl ?_
      refine tz_iload_n 3 3 C dL_law_170 rfl rfl ?_
      refine tz_iconst 1 (by decide) C dL_law_171 ?_
      refine tz_iadd C dL_law_172 ?_
      obtain ⟨hin_5, h⟩ := h
      refine tz_sld C hX dL_law_173 hin_5 ?_
      refine tz_calliv C dL_law_174 lk_RL_13 (m_X9_type G hG  h) (by decide) rfl rfl rfl rfl ⟨Nat.le_of_ble_eq_true rfl, Nat.le_of_ble_eq_true rfl⟩ (Nat.le_of_ble_eq_true rfl) rfl (fun r_7 σ_6 h => ?_)
      refine tz_aload_n 2 2 C dL_law_177 rfl rfl ?_
      refine tz_aload_n 0 0 C dL_law_178 rfl rfl ?_
      refine tz_iload_n 3 3 C dL_law_179 rfl rfl ?_
      refine tz_iconst 1 (by decide) C dL_law_180 ?_
      refine tz_iadd C dL_law_181 ?_
      obtain ⟨hin_8, h⟩ := h
      refine tz_sld C hX dL_law_182 hin_8 ?_
      refine tz_calliv C dL_law_183 lk_RL_17 (m_X10_type G hG  h) (by decide) rfl rfl rfl rfl ⟨Nat.le_of_ble_eq_true rfl, Nat.le_of_ble_eq_true rfl⟩ (Nat.le_of_ble_eq_true rfl) rfl (fun r_10 σ_9 h => ?_)
      refine tz_icmp_eq 1049 C dL_law_186 (by decide) h (fun h => ?_) (fun h => ?_)
      · refine tz_iinc 3 [(0, .ref _), (1, .ref _), (2, .ref _)] 6 C dL_law_1049 (by decide) rfl (Nat.le_of_ble_eq_true rfl) rfl h (fun x3_11 h => ?_)
        refine tz_goto 18 C dL_law_1052 (by decide) ?_
        exact tz_sub (ihag_1 _ _ h) [1, 2, 3, 0] rfl
      · refine tz_iconst 0 (by decide) C dL_law_189 ?_
        exact hret _ _ _ _ dL_law_190 rfl h
    refine tz_swc 1 (158) 191 C dL_law_33 (by decide) (by decide) rfl (by decide) h (fun h => ?_) (fun e1 h => ?_)
    · refine tz_aload_n 1 1 C dL_law_191 rfl rfl ?_
      refine tz_calliv C dL_law_192 lk_RL_18 (m_X9_wipe G hG  h) (by decide) rfl rfl rfl rfl ⟨Nat.le_of_ble_eq_true rfl, Nat.le_of_ble_eq_true rfl⟩ (Nat.le_of_ble_eq_true rfl) rfl (fun r_13 σ_12 h => ?_)
      refine tz_aload_n 2 2 C dL_law_195 rfl rfl ?_
      refine tz_calliv C dL_law_196 lk_RL_22 (m_X10_wipe G hG  h) (by decide) rfl rfl rfl rfl ⟨Nat.le_of_ble_eq_true rfl, Nat.le_of_ble_eq_true rfl⟩ (Nat.le_of_ble_eq_true rfl) rfl (fun r_15 σ_14 h => ?_)
      refine tz_icmp_eq 1049 C dL_law_199 (by decide) h (fun h => ?_) (fun h => ?_)
      · refine tz_iinc 3 [(0, .ref _), (1, .ref _), (2, .ref _)] 6 C dL_law_1049 (by decide) rfl (Nat.le_of_ble_eq_true rfl) rfl h (fun x3_16 h => ?_)
        refine tz_goto 18 C dL_law_1052 (by decide) ?_
        exact tz_sub (ihag_1 _ _ h) [1, 2, 3, 0] rfl
      · refine tz_iconst 0 (by decide) C dL_law_202 ?_
        exact hret _ _ _ _ dL_law_203 rfl h
    refine tz_swc 2 (171) 204 C dL_law_33 (by decide) (by decide) rfl (by decide) h (fun h => ?_) (fun e2 h => ?_)
    · refine tz_aload_n 1 1 C dL_law_204 rfl rfl ?_
      refine tz_calliv C dL_law_205 lk_RL_23 (m_X9_undo G hG  h) (by decide) rfl rfl rfl rfl ⟨Nat.le_of_ble_eq_true rfl, Nat.le_of_ble_eq_true rfl⟩ (Nat.le_of_ble_eq_true rfl) rfl (fun r_18 σ_17 h => ?_)
      refine tz_aload_n 2 2 C dL_law_208 rfl rfl ?_
      refine tz_calliv C dL_law_209 lk_RL_26 (m_X10_undo G hG  h) (by decide) rfl rfl rfl rfl ⟨Nat.le_of_ble_eq_true rfl, Nat.le_of_ble_eq_true rfl⟩ (Nat.le_of_ble_eq_true rfl) rfl (fun r_20 σ_19 h => ?_)
      refine tz_icmp_eq 1049 C dL_law_212 (by decide) h (fun h => ?_) (fun h => ?_)
      · refine tz_iinc 3 [(0, .ref _), (1, .ref _), (2, .ref _)] 6 C dL_law_1049 (by decide) rfl (Nat.le_of_ble_eq_true rfl) rfl h (fun x3_21 h => ?_)
        refine tz_goto 18 C dL_law_1052 (by decide) ?_
        exact tz_sub (ihag_1 _ _ h) [1, 2, 3, 0] rfl
      · refine tz_iconst 0 (by decide) C dL_law_215 ?_
        exact hret _ _ _ _ dL_law_216 rfl h
    refine tz_swc 3 (184) 217 C dL_law_33 (by decide) (by decide) rfl (by decide) h (fun h => ?_) (fun e3 h => ?_)
    · refine tz_aload_n 1 1 C dL_law_217 rfl rfl ?_
      refine tz_aload_n 0 0 C dL_law_218 rfl rfl ?_
      refine tz_iload_n 3 3 C dL_law_219 rfl rfl ?_
      refine tz_iconst 1 (by decide) C dL_law_220 ?_
      refine tz_iadd C dL_law_221 ?_
      obtain ⟨hin_22, h⟩ := h
      refine tz_sld C hX dL_law_222 hin_22 ?_
      refine tz_calliv C dL_law_223 lk_RL_27 (m_X9_fault G hG  h) (by decide) rfl rfl rfl rfl ⟨Nat.le_of_ble_eq_true rfl, Nat.le_of_ble_eq_true rfl⟩ (Nat.le_of_ble_eq_true rfl) rfl (fun r_24 σ_23 h => ?_)
      refine tz_aload_n 2 2 C dL_law_226 rfl rfl ?_
      refine tz_aload_n 0 0 C dL_law_227 rfl rfl ?_
      refine tz_iload_n 3 3 C dL_law_228 rfl rfl ?_
      refine tz_iconst 1 (by decide) C dL_law_229 ?_
      refine tz_iadd C dL_law_230 ?_
      obtain ⟨hin_25, h⟩ := h
      refine tz_sld C hX dL_law_231 hin_25 ?_
      refine tz_calliv C dL_law_232 lk_RL_30 (m_X10_fault G hG  h) (by decide) rfl rfl rfl rfl ⟨Nat.le_of_ble_eq_true rfl, Nat.le_of_ble_eq_true rfl⟩ (Nat.le_of_ble_eq_true rfl) rfl (fun r_27 σ_26 h => ?_)
      refine tz_icmp_eq 1049 C dL_law_235 (by decide) h (fun h => ?_) (fun h => ?_)
      · refine tz_iinc 3 [(0, .ref _), (1, .ref _), (2, .ref _)] 6 C dL_law_1049 (by decide) rfl (Nat.le_of_ble_eq_true rfl) rfl h (fun x3_28 h => ?_)
        refine tz_goto 18 C dL_law_1052 (by decide) ?_
        exact tz_sub (ihag_1 _ _ h) [1, 2, 3, 0] rfl
      · refine tz_iconst 0 (by decide) C dL_law_238 ?_
        exact hret _ _ _ _ dL_law_239 rfl h
    refine tz_swc 4 (207) 240 C dL_law_33 (by decide) (by decide) rfl (by decide) h (fun h => ?_) (fun e4 h => ?_)
    · refine tz_aload_n 1 1 C dL_law_240 rfl rfl ?_
      refine tz_aload_n 0 0 C dL_law_241 rfl rfl ?_
      refine tz_iload_n 3 3 C dL_law_242 rfl rfl ?_
      refine tz_iconst 1 (by decide) C dL_law_243 ?_
      refine tz_iadd C dL_law_244 ?_
      obtain ⟨hin_29, h⟩ := h
      refine tz_sld C hX dL_law_245 hin_29 ?_
      refine tz_aload_n 0 0 C dL_law_246 rfl rfl ?_
      refine tz_iload_n 3 3 C dL_law_247 rfl rfl ?_
      refine tz_iconst 2 (by decide) C dL_law_248 ?_
      refine tz_iadd C dL_law_249 ?_
      obtain ⟨hin_30, h⟩ := h
      refine tz_sld C hX dL_law_250 hin_30 ?_
      refine tz_calliv C dL_law_251 lk_RL_31 (m_X9_set G hG  h) (by decide) rfl rfl rfl rfl ⟨Nat.le_of_ble_eq_true rfl, Nat.le_of_ble_eq_true rfl⟩ (Nat.le_of_ble_eq_true rfl) rfl (fun r_32 σ_31 h => ?_)
      refine tz_aload_n 2 2 C dL_law_254 rfl rfl ?_
      refine tz_aload_n 0 0 C dL_law_255 rfl rfl ?_
      refine tz_iload_n 3 3 C dL_law_256 rfl rfl ?_
      refine tz_iconst 1 (by decide) C dL_law_257 ?_
      refine tz_iadd C dL_law_258 ?_
      obtain ⟨hin_33, h⟩ := h
      refine tz_sld C hX dL_law_259 hin_33 ?_
      refine tz_aload_n 0 0 C dL_law_260 rfl rfl ?_
      refine tz_iload_n 3 3 C dL_law_261 rfl rfl ?_
      refine tz_iconst 2 (by decide) C dL_law_262 ?_
      refine tz_iadd C dL_law_263 ?_
      obtain ⟨hin_34, h⟩ := h
      refine tz_sld C hX dL_law_264 hin_34 ?_
      refine tz_calliv C dL_law_265 lk_RL_35 (m_X10_set G hG  h) (by decide) rfl rfl rfl rfl ⟨Nat.le_of_ble_eq_true rfl, Nat.le_of_ble_eq_true rfl⟩ (Nat.le_of_ble_eq_true rfl) rfl (fun r_36 σ_35 h => ?_)
      refine tz_icmp_eq 1049 C dL_law_268 (by decide) h (fun h => ?_) (fun h => ?_)
      · refine tz_iinc 3 [(0, .ref _), (1, .ref _), (2, .ref _)] 6 C dL_law_1049 (by decide) rfl (Nat.le_of_ble_eq_true rfl) rfl h (fun x3_37 h => ?_)
        refine tz_goto 18 C dL_law_1052 (by decide) ?_
        exact tz_sub (ihag_1 _ _ h) [1, 2, 3, 0] rfl
      · refine tz_iconst 0 (by decide) C dL_law_271 ?_
        exact hret _ _ _ _ dL_law_272 rfl h
    refine tz_swc 5 (240) 273 C dL_law_33 (by decide) (by decide) rfl (by decide) h (fun h => ?_) (fun e5 h => ?_)
    · refine tz_aload_n 1 1 C dL_law_273 rfl rfl ?_
      refine tz_aload_n 0 0 C dL_law_274 rfl rfl ?_
      refine tz_iload_n 3 3 C dL_law_275 rfl rfl ?_
      refine tz_iconst 1 (by decide) C dL_law_276 ?_
      refine tz_iadd C dL_law_277 ?_
      obtain ⟨hin_38, h⟩ := h
      refine tz_sld C hX dL_law_278 hin_38 ?_
      refine tz_calliv C dL_law_279 lk_RL_36 (m_X9_tell G hG  h) (by decide) rfl rfl rfl rfl ⟨Nat.le_of_ble_eq_true rfl, Nat.le_of_ble_eq_true rfl⟩ (Nat.le_of_ble_eq_true rfl) rfl (fun r_40 σ_39 h => ?_)
      refine tz_aload_n 2 2 C dL_law_282 rfl rfl ?_
      refine tz_aload_n 0 0 C dL_law_283 rfl rfl ?_
      refine tz_iload_n 3 3 C dL_law_284 rfl rfl ?_
      refine tz_iconst 1 (by decide) C dL_law_285 ?_
      refine tz_iadd C dL_law_286 ?_
      obtain ⟨hin_41, h⟩ := h
      refine tz_sld C hX dL_law_287 hin_41 ?_
      refine tz_calliv C dL_law_288 lk_RL_39 (m_X10_tell G hG  h) (by decide) rfl rfl rfl rfl ⟨Nat.le_of_ble_eq_true rfl, Nat.le_of_ble_eq_true rfl⟩ (Nat.le_of_ble_eq_true rfl) rfl (fun r_43 σ_42 h => ?_)
      refine tz_icmp_eq 1049 C dL_law_291 (by decide) h (fun h => ?_) (fun h => ?_)
      · refine tz_iinc 3 [(0, .ref _), (1, .ref _), (2, .ref _)] 6 C dL_law_1049 (by decide) rfl (Nat.le_of_ble_eq_true rfl) rfl h (fun x3_44 h => ?_)
        refine tz_goto 18 C dL_law_1052 (by decide) ?_
        exact tz_sub (ihag_1 _ _ h) [1, 2, 3, 0] rfl
      · refine tz_iconst 0 (by decide) C dL_law_294 ?_
        exact hret _ _ _ _ dL_law_295 rfl h
    refine tz_swc 6 (263) 296 C dL_law_33 (by decide) (by decide) rfl (by decide) h (fun h => ?_) (fun e6 h => ?_)
    · refine tz_aload_n 1 1 C dL_law_296 rfl rfl ?_
      refine tz_aload_n 0 0 C dL_law_297 rfl rfl ?_
      refine tz_iload_n 3 3 C dL_law_298 rfl rfl ?_
      refine tz_iconst 1 (by decide) C dL_law_299 ?_
      refine tz_iadd C dL_law_300 ?_
      obtain ⟨hin_45, h⟩ := h
      refine tz_sld C hX dL_law_301 hin_45 ?_
      refine tz_calliv C dL_law_302 lk_RL_40 (m_X9_read G hG  h) (by decide) rfl rfl rfl rfl ⟨Nat.le_of_ble_eq_true rfl, Nat.le_of_ble_eq_true rfl⟩ (Nat.le_of_ble_eq_true rfl) rfl (fun r_47 σ_46 h => ?_)
      refine tz_aload_n 2 2 C dL_law_305 rfl rfl ?_
      refine tz_aload_n 0 0 C dL_law_306 rfl rfl ?_
      refine tz_iload_n 3 3 C dL_law_307 rfl rfl ?_
      refine tz_iconst 1 (by decide) C dL_law_308 ?_
      refine tz_iadd C dL_law_309 ?_
      obtain ⟨hin_48, h⟩ := h
      refine tz_sld C hX dL_law_310 hin_48 ?_
      refine tz_calliv C dL_law_311 lk_RL_43 (m_X10_read G hG  h) (by decide) rfl rfl rfl rfl ⟨Nat.le_of_ble_eq_true rfl, Nat.le_of_ble_eq_true rfl⟩ (Nat.le_of_ble_eq_true rfl) rfl (fun r_50 σ_49 h => ?_)
      refine tz_icmp_eq 1049 C dL_law_314 (by decide) h (fun h => ?_) (fun h => ?_)
      · refine tz_iinc 3 [(0, .ref _), (1, .ref _), (2, .ref _)] 6 C dL_law_1049 (by decide) rfl (Nat.le_of_ble_eq_true rfl) rfl h (fun x3_51 h => ?_)
        refine tz_goto 18 C dL_law_1052 (by decide) ?_
        exact tz_sub (ihag_1 _ _ h) [1, 2, 3, 0] rfl
      · refine tz_iconst 0 (by decide) C dL_law_317 ?_
        exact hret _ _ _ _ dL_law_318 rfl h
    refine tz_swc 7 (286) 319 C dL_law_33 (by decide) (by decide) rfl (by decide) h (fun h => ?_) (fun e7 h => ?_)
    · refine tz_aload_n 1 1 C dL_law_319 rfl rfl ?_
      refine tz_aload_n 0 0 C dL_law_320 rfl rfl ?_
      refine tz_iload_n 3 3 C dL_law_321 rfl rfl ?_
      refine tz_iconst 1 (by decide) C dL_law_322 ?_
      refine tz_iadd C dL_law_323 ?_
      obtain ⟨hin_52, h⟩ := h
      refine tz_sld C hX dL_law_324 hin_52 ?_
      refine tz_aload_n 0 0 C dL_law_325 rfl rfl ?_
      refine tz_iload_n 3 3 C dL_law_326 rfl rfl ?_
      refine tz_iconst 2 (by decide) C dL_law_327 ?_
      refine tz_iadd C dL_law_328 ?_
      obtain ⟨hin_53, h⟩ := h
      refine tz_sld C hX dL_law_329 hin_53 ?_
      refine tz_calliv C dL_law_330 lk_RL_44 (m_X9_sentence G hG  h) (by decide) rfl rfl rfl rfl ⟨Nat.le_of_ble_eq_true rfl, Nat.le_of_ble_eq_true rfl⟩ (Nat.le_of_ble_eq_true rfl) rfl (fun r_55 σ_54 h => ?_)
      refine tz_aload_n 2 2 C dL_law_333 rfl rfl ?_
      refine tz_aload_n 0 0 C dL_law_334 rfl rfl ?_
      refine tz_iload_n 3 3 C dL_law_335 rfl rfl ?_
      refine tz_iconst 1 (by decide) C dL_law_336 ?_
      refine tz_iadd C dL_law_337 ?_
      obtain ⟨hin_56, h⟩ := h
      refine tz_sld C hX dL_law_338 hin_56 ?_
      refine tz_aload_n 0 0 C dL_law_339 rfl rfl ?_
      refine tz_iload_n 3 3 C dL_law_340 rfl rfl ?_
      refine tz_iconst 2 (by decide) C dL_law_341 ?_
      refine tz_iadd C dL_law_342 ?_
      obtain ⟨hin_57, h⟩ := h
      refine tz_sld C hX dL_law_343 hin_57 ?_
      refine tz_calliv C dL_law_344 lk_RL_47 (m_X10_sentence G hG  h) (by decide) rfl rfl rfl rfl ⟨Nat.le_of_ble_eq_true rfl, Nat.le_of_ble_eq_true rfl⟩ (Nat.le_of_ble_eq_true rfl) rfl (fun r_59 σ_58 h => ?_)
      refine tz_icmp_eq 1049 C dL_law_347 (by decide) h (fun h => ?_) (fun h => ?_)
      · refine tz_iinc 3 [(0, .ref _), (1, .ref _), (2, .ref _)] 6 C dL_law_1049 (by decide) rfl (Nat.le_of_ble_eq_true rfl) rfl h (fun x3_60 h => ?_)
        refine tz_goto 18 C dL_law_1052 (by decide) ?_
        exact tz_sub (ihag_1 _ _ h) [1, 2, 3, 0] rfl
      · refine tz_iconst 0 (by decide) C dL_law_350 ?_
        exact hret _ _ _ _ dL_law_351 rfl h
    refine tz_swc 8 (319) 352 C dL_law_33 (by decide) (by decide) rfl (by decide) h (fun h => ?_) (fun e8 h => ?_)
    · refine tz_aload_n 1 1 C dL_law_352 rfl rfl ?_
      refine tz_aload_n 0 0 C dL_law_353 rfl rfl ?_
      refine tz_iload_n 3 3 C dL_law_354 rfl rfl ?_
      refine tz_iconst 1 (by decide) C dL_law_355 ?_
      refine tz_iadd C dL_law_356 ?_
      obtain ⟨hin_61, h⟩ := h
      refine tz_sld C hX dL_law_357 hin_61 ?_
      refine tz_aload_n 0 0 C dL_law_358 rfl rfl ?_
      refine tz_iload_n 3 3 C dL_law_359 rfl rfl ?_
      refine tz_iconst 2 (by decide) C dL_law_360 ?_
      refine tz_iadd C dL_law_361 ?_
      obtain ⟨hin_62, h⟩ := h
      refine tz_sld C hX dL_law_362 hin_62 ?_
      refine tz_calliv C dL_law_363 lk_RL_48 (m_X9_word G hG  h) (by decide) rfl rfl rfl rfl ⟨Nat.le_of_ble_eq_true rfl, Nat.le_of_ble_eq_true rfl⟩ (Nat.le_of_ble_eq_true rfl) rfl (fun r_64 σ_63 h => ?_)
      refine tz_aload_n 2 2 C dL_law_366 rfl rfl ?_
      refine tz_aload_n 0 0 C dL_law_367 rfl rfl ?_
      refine tz_iload_n 3 3 C dL_law_368 rfl rfl ?_
      refine tz_iconst 1 (by decide) C dL_law_369 ?_
      refine tz_iadd C dL_law_370 ?_
      obtain ⟨hin_65, h⟩ := h
      refine tz_sld C hX dL_law_371 hin_65 ?_
      refine tz_aload_n 0 0 C dL_law_372 rfl rfl ?_
      refine tz_iload_n 3 3 C dL_law_373 rfl rfl ?_
      refine tz_iconst 2 (by decide) C dL_law_374 ?_
      refine tz_iadd C dL_law_375 ?_
      obtain ⟨hin_66, h⟩ := h
      refine tz_sld C hX dL_law_376 hin_66 ?_
      refine tz_calliv C dL_law_377 lk_RL_51 (m_X10_word G hG  h) (by decide) rfl rfl rfl rfl ⟨Nat.le_of_ble_eq_true rfl, Nat.le_of_ble_eq_true rfl⟩ (Nat.le_of_ble_eq_true rfl) rfl (fun r_68 σ_67 h => ?_)
      refine tz_icmp_eq 1049 C dL_law_380 (by decide) h (fun h => ?_) (fun h => ?_)
      · refine tz_iinc 3 [(0, .ref _), (1, .ref _), (2, .ref _)] 6 C dL_law_1049 (by decide) rfl (Nat.le_of_ble_eq_true rfl) rfl h (fun x3_69 h => ?_)
        refine tz_goto 18 C dL_law_1052 (by decide) ?_
        exact tz_sub (ihag_1 _ _ h) [1, 2, 3, 0] rfl
      · refine tz_iconst 0 (by decide) C dL_law_383 ?_
        exact hret _ _ _ _ dL_law_384 rfl h
    refine tz_swc 9 (352) 385 C dL_law_33 (by decide) (by decide) rfl (by decide) h (fun h => ?_) (fun e9 h => ?_)
    · refine tz_aload_n 1 1 C dL_law_385 rfl rfl ?_
      refine tz_aload_n 0 0 C dL_law_386 rfl rfl ?_
      refine tz_iload_n 3 3 C dL_law_387 rfl rfl ?_
      refine tz_iconst 1 (by decide) C dL_law_388 ?_
      refine tz_iadd C dL_law_389 ?_
      obtain ⟨hin_70, h⟩ := h
      refine tz_sld C hX dL_law_390 hin_70 ?_
      refine tz_aload_n 0 0 C dL_law_391 rfl rfl ?_
      refine tz_iload_n 3 3 C dL_law_392 rfl rfl ?_
      refine tz_iconst 2 (by decide) C dL_law_393 ?_
      refine tz_iadd C dL_law_394 ?_
      obtain ⟨hin_71, h⟩ := h
      refine tz_sld C hX dL_law_395 hin_71 ?_
      refine tz_calliv C dL_law_396 lk_RL_52 (m_X9_stem G hG  h) (by decide) rfl rfl rfl rfl ⟨Nat.le_of_ble_eq_true rfl, Nat.le_of_ble_eq_true rfl⟩ (Nat.le_of_ble_eq_true rfl) rfl (fun r_73 σ_72 h => ?_)
      refine tz_aload_n 2 2 C dL_law_399 rfl rfl ?_
      refine tz_aload_n 0 0 C dL_law_400 rfl rfl ?_
      refine tz_iload_n 3 3 C dL_law_401 rfl rfl ?_
      refine tz_iconst 1 (by decide) C dL_law_402 ?_
      refine tz_iadd C dL_law_403 ?_
      obtain ⟨hin_74, h⟩ := h
      refine tz_sld C hX dL_law_404 hin_74 ?_
      refine tz_aload_n 0 0 C dL_law_405 rfl rfl ?_
      refine tz_iload_n 3 3 C dL_law_406 rfl rfl ?_
      refine tz_iconst 2 (by decide) C dL_law_407 ?_
      refine tz_iadd C dL_law_408 ?_
      obtain ⟨hin_75, h⟩ := h
      refine tz_sld C hX dL_law_409 hin_75 ?_
      refine tz_calliv C dL_law_410 lk_RL_55 (m_X10_stem G hG  h) (by decide) rfl rfl rfl rfl ⟨Nat.le_of_ble_eq_true rfl, Nat.le_of_ble_eq_true rfl⟩ (Nat.le_of_ble_eq_true rfl) rfl (fun r_77 σ_76 h => ?_)
      refine tz_icmp_eq 1049 C dL_law_413 (by decide) h (fun h => ?_) (fun h => ?_)
      · refine tz_iinc 3 [(0, .ref _), (1, .ref _), (2, .ref _)] 6 C dL_law_1049 (by decide) rfl (Nat.le_of_ble_eq_true rfl) rfl h (fun x3_78 h => ?_)
        refine tz_goto 18 C dL_law_1052 (by decide) ?_
        exact tz_sub (ihag_1 _ _ h) [1, 2, 3, 0] rfl
      · refine tz_iconst 0 (by decide) C dL_law_416 ?_
        exact hret _ _ _ _ dL_law_417 rfl h
    refine tz_swc 10 (385) 418 C dL_law_33 (by decide) (by decide) rfl (by decide) h (fun h => ?_) (fun e10 h => ?_)
    · refine tz_aload_n 1 1 C dL_law_418 rfl rfl ?_
      refine tz_aload_n 0 0 C dL_law_419 rfl rfl ?_
      refine tz_iload_n 3 3 C dL_law_420 rfl rfl ?_
      refine tz_iconst 1 (by decide) C dL_law_421 ?_
      refine tz_iadd C dL_law_422 ?_
      obtain ⟨hin_79, h⟩ := h
      refine tz_sld C hX dL_law_423 hin_79 ?_
      refine tz_aload_n 0 0 C dL_law_424 rfl rfl ?_
      refine tz_iload_n 3 3 C dL_law_425 rfl rfl ?_
      refine tz_iconst 2 (by decide) C dL_law_426 ?_
      refine tz_iadd C dL_law_427 ?_
      obtain ⟨hin_80, h⟩ := h
      refine tz_sld C hX dL_law_428 hin_80 ?_
      refine tz_calliv C dL_law_429 lk_RL_56 (m_X9_letter G hG  h) (by decide) rfl rfl rfl rfl ⟨Nat.le_of_ble_eq_true rfl, Nat.le_of_ble_eq_true rfl⟩ (Nat.le_of_ble_eq_true rfl) rfl (fun r_82 σ_81 h => ?_)
      refine tz_aload_n 2 2 C dL_law_432 rfl rfl ?_
      refine tz_aload_n 0 0 C dL_law_433 rfl rfl ?_
      refine tz_iload_n 3 3 C dL_law_434 rfl rfl ?_
      refine tz_iconst 1 (by decide) C dL_law_435 ?_
      refine tz_iadd C dL_law_436 ?_
      obtain ⟨hin_83, h⟩ := h
      refine tz_sld C hX dL_law_437 hin_83 ?_
      refine tz_aload_n 0 0 C dL_law_438 rfl rfl ?_
      refine tz_iload_n 3 3 C dL_law_439 rfl rfl ?_
      refine tz_iconst 2 (by decide) C dL_law_440 ?_
      refine tz_iadd C dL_law_441 ?_
      obtain ⟨hin_84, h⟩ := h
      refine tz_sld C hX dL_law_442 hin_84 ?_
      refine tz_calliv C dL_law_443 lk_RL_59 (m_X10_letter G hG  h) (by decide) rfl rfl rfl rfl ⟨Nat.le_of_ble_eq_true rfl, Nat.le_of_ble_eq_true rfl⟩ (Nat.le_of_ble_eq_true rfl) rfl (fun r_86 σ_85 h => ?_)
      refine tz_icmp_eq 1049 C dL_law_446 (by decide) h (fun h => ?_) (fun h => ?_)
      · refine tz_iinc 3 [(0, .ref _), (1, .ref _), (2, .ref _)] 6 C dL_law_1049 (by decide) rfl (Nat.le_of_ble_eq_true rfl) rfl h (fun x3_87 h => ?_)
        refine tz_goto 18 C dL_law_1052 (by decide) ?_
        exact tz_sub (ihag_1 _ _ h) [1, 2, 3, 0] rfl
      · refine tz_iconst 0 (by decide) C dL_law_449 ?_
        exact hret _ _ _ _ dL_law_450 rfl h
    refine tz_swc 11 (418) 451 C dL_law_33 (by decide) (by decide) rfl (by decide) h (fun h => ?_) (fun e11 h => ?_)
    · refine tz_aload_n 1 1 C dL_law_451 rfl rfl ?_
      refine tz_calliv C dL_law_452 lk_RL_60 (m_X9_chains G hG  h) (by decide) rfl rfl rfl rfl ⟨Nat.le_of_ble_eq_true rfl, Nat.le_of_ble_eq_true rfl⟩ (Nat.le_of_ble_eq_true rfl) rfl (fun r_89 σ_88 h => ?_)
      refine tz_aload_n 2 2 C dL_law_455 rfl rfl ?_
      refine tz_calliv C dL_law_456 lk_RL_63 (m_X10_chains G hG  h) (by decide) rfl rfl rfl rfl ⟨Nat.le_of_ble_eq_true rfl, Nat.le_of_ble_eq_true rfl⟩ (Nat.le_of_ble_eq_true rfl) rfl (fun r_91 σ_90 h => ?_)
      refine tz_icmp_eq 1049 C dL_law_459 (by decide) h (fun h => ?_) (fun h => ?_)
      · refine tz_iinc 3 [(0, .ref _), (1, .ref _), (2, .ref _)] 6 C dL_law_1049 (by decide) rfl (Nat.le_of_ble_eq_true rfl) rfl h (fun x3_92 h => ?_)
        refine tz_goto 18 C dL_law_1052 (by decide) ?_
        exact tz_sub (ihag_1 _ _ h) [1, 2, 3, 0] rfl
      · refine tz_iconst 0 (by decide) C dL_law_462 ?_
        exact hret _ _ _ _ dL_law_463 rfl h
    refine tz_swc 12 (431) 464 C dL_law_33 (by decide) (by decide) rfl (by decide) h (fun h => ?_) (fun e12 h => ?_)
    · refine tz_aload_n 1 1 C dL_law_464 rfl rfl ?_
      refine tz_aload_n 0 0 C dL_law_465 rfl rfl ?_
      refine tz_iload_n 3 3 C dL_law_466 rfl rfl ?_
      refine tz_iconst 1 (by decide) C dL_law_467 ?_
      refine tz_iadd C dL_law_468 ?_
      obtain ⟨hin_93, h⟩ := h
      refine tz_sld C hX dL_law_469 hin_93 ?_
      refine tz_aload_n 0 0 C dL_law_470 rfl rfl ?_
      refine tz_iload_n 3 3 C dL_law_471 rfl rfl ?_
      refine tz_iconst 2 (by decide) C dL_law_472 ?_
      refine tz_iadd C dL_law_473 ?_
      obtain ⟨hin_94, h⟩ := h
      refine tz_sld C hX dL_law_474 hin_94 ?_
      refine tz_calliv C dL_law_475 lk_RL_64 (m_X9_chain G hG  h) (by decide) rfl rfl rfl rfl ⟨Nat.le_of_ble_eq_true rfl, Nat.le_of_ble_eq_true rfl⟩ (Nat.le_of_ble_eq_true rfl) rfl (fun r_96 σ_95 h => ?_)
      refine tz_aload_n 2 2 C dL_law_478 rfl rfl ?_
      refine tz_aload_n 0 0 C dL_law_479 rfl rfl ?_
      refine tz_iload_n 3 3 C dL_law_480 rfl rfl ?_
      refine tz_iconst 1 (by decide) C dL_law_481 ?_
      refine tz_iadd C dL_law_482 ?_
      obtain ⟨hin_97, h⟩ := h
      refine tz_sld C hX dL_law_483 hin_97 ?_
      refine tz_aload_n 0 0 C dL_law_484 rfl rfl ?_
      refine tz_iload_n 3 3 C dL_law_485 rfl rfl ?_
      refine tz_iconst 2 (by decide) C dL_law_486 ?_
      refine tz_iadd C dL_law_487 ?_
      obtain ⟨hin_98, h⟩ := h
      refine tz_sld C hX dL_law_488 hin_98 ?_
      refine tz_calliv C dL_law_489 lk_RL_67 (m_X10_chain G hG  h) (by decide) rfl rfl rfl rfl ⟨Nat.le_of_ble_eq_true rfl, Nat.le_of_ble_eq_true rfl⟩ (Nat.le_of_ble_eq_true rfl) rfl (fun r_100 σ_99 h => ?_)
      refine tz_icmp_eq 1049 C dL_law_492 (by decide) h (fun h => ?_) (fun h => ?_)
      · refine tz_iinc 3 [(0, .ref _), (1, .ref _), (2, .ref _)] 6 C dL_law_1049 (by decide) rfl (Nat.le_of_ble_eq_true rfl) rfl h (fun x3_101 h => ?_)
        refine tz_goto 18 C dL_law_1052 (by decide) ?_
        exact tz_sub (ihag_1 _ _ h) [1, 2, 3, 0] rfl
      · refine tz_iconst 0 (by decide) C dL_law_495 ?_
        exact hret _ _ _ _ dL_law_496 rfl h
    refine tz_swc 13 (464) 497 C dL_law_33 (by decide) (by decide) rfl (by decide) h (fun h => ?_) (fun e13 h => ?_)
    · refine tz_aload_n 1 1 C dL_law_497 rfl rfl ?_
      refine tz_aload_n 0 0 C dL_law_498 rfl rfl ?_
      refine tz_iload_n 3 3 C dL_law_499 rfl rfl ?_
      refine tz_iconst 1 (by decide) C dL_law_500 ?_
      refine tz_iadd C dL_law_501 ?_
      obtain ⟨hin_102, h⟩ := h
      refine tz_sld C hX dL_law_502 hin_102 ?_
      refine tz_aload_n 0 0 C dL_law_503 rfl rfl ?_
      refine tz_iload_n 3 3 C dL_law_504 rfl rfl ?_
      refine tz_iconst 2 (by decide) C dL_law_505 ?_
      refine tz_iadd C dL_law_506 ?_
      obtain ⟨hin_103, h⟩ := h
      refine tz_sld C hX dL_law_507 hin_103 ?_
      refine tz_calliv C dL_law_508 lk_RL_68 (m_X9_over G hG  h) (by decide) rfl rfl rfl rfl ⟨Nat.le_of_ble_eq_true rfl, Nat.le_of_ble_eq_true rfl⟩ (Nat.le_of_ble_eq_true rfl) rfl (fun r_105 σ_104 h => ?_)
      refine tz_aload_n 2 2 C dL_law_511 rfl rfl ?_
      refine tz_aload_n 0 0 C dL_law_512 rfl rfl ?_
      refine tz_iload_n 3 3 C dL_law_513 rfl rfl ?_
      refine tz_iconst 1 (by decide) C dL_law_514 ?_
      refine tz_iadd C dL_law_515 ?_
      obtain ⟨hin_106, h⟩ := h
      refine tz_sld C hX dL_law_516 hin_106 ?_
      refine tz_aload_n 0 0 C dL_law_517 rfl rfl ?_
      refine tz_iload_n 3 3 C dL_law_518 rfl rfl ?_
      refine tz_iconst 2 (by decide) C dL_law_519 ?_
      refine tz_iadd C dL_law_520 ?_
      obtain ⟨hin_107, h⟩ := h
      refine tz_sld C hX dL_law_521 hin_107 ?_
      refine tz_calliv C dL_law_522 lk_RL_71 (m_X10_over G hG  h) (by decide) rfl rfl rfl rfl ⟨Nat.le_of_ble_eq_true rfl, Nat.le_of_ble_eq_true rfl⟩ (Nat.le_of_ble_eq_true rfl) rfl (fun r_109 σ_108 h => ?_)
      refine tz_icmp_eq 1049 C dL_law_525 (by decide) h (fun h => ?_) (fun h => ?_)
      · refine tz_iinc 3 [(0, .ref _), (1, .ref _), (2, .ref _)] 6 C dL_law_1049 (by decide) rfl (Nat.le_of_ble_eq_true rfl) rfl h (fun x3_110 h => ?_)
        refine tz_goto 18 C dL_law_1052 (by decide) ?_
        exact tz_sub (ihag_1 _ _ h) [1, 2, 3, 0] rfl
      · refine tz_iconst 0 (by decide) C dL_law_528 ?_
        exact hret _ _ _ _ dL_law_529 rfl h
    refine tz_swc 14 (497) 530 C dL_law_33 (by decide) (by decide) rfl (by decide) h (fun h => ?_) (fun e14 h => ?_)
    · refine tz_aload_n 1 1 C dL_law_530 rfl rfl ?_
      refine tz_aload_n 0 0 C dL_law_531 rfl rfl ?_
      refine tz_iload_n 3 3 C dL_law_532 rfl rfl ?_
      refine tz_iconst 1 (by decide) C dL_law_533 ?_
      refine tz_iadd C dL_law_534 ?_
      obtain ⟨hin_111, h⟩ := h
      refine tz_sld C hX dL_law_535 hin_111 ?_
      refine tz_aload_n 0 0 C dL_law_536 rfl rfl ?_
      refine tz_iload_n 3 3 C dL_law_537 rfl rfl ?_
      refine tz_iconst 2 (by decide) C dL_law_538 ?_
      refine tz_iadd C dL_law_539 ?_
      obtain ⟨hin_112, h⟩ := h
      refine tz_sld C hX dL_law_540 hin_112 ?_
      refine tz_calliv C dL_law_541 lk_RL_72 (m_X9_cost G hG  h) (by decide) rfl rfl rfl rfl ⟨Nat.le_of_ble_eq_true rfl, Nat.le_of_ble_eq_true rfl⟩ (Nat.le_of_ble_eq_true rfl) rfl (fun r_114 σ_113 h => ?_)
      refine tz_aload_n 2 2 C dL_law_544 rfl rfl ?_
      refine tz_aload_n 0 0 C dL_law_545 rfl rfl ?_
      refine tz_iload_n 3 3 C dL_law_546 rfl rfl ?_
      refine tz_iconst 1 (by decide) C dL_law_547 ?_
      refine tz_iadd C dL_law_548 ?_
      obtain ⟨hin_115, h⟩ := h
      refine tz_sld C hX dL_law_549 hin_115 ?_
      refine tz_aload_n 0 0 C dL_law_550 rfl rfl ?_
      refine tz_iload_n 3 3 C dL_law_551 rfl rfl ?_
      refine tz_iconst 2 (by decide) C dL_law_552 ?_
      refine tz_iadd C dL_law_553 ?_
      obtain ⟨hin_116, h⟩ := h
      refine tz_sld C hX dL_law_554 hin_116 ?_
      refine tz_calliv C dL_law_555 lk_RL_75 (m_X10_cost G hG  h) (by decide) rfl rfl rfl rfl ⟨Nat.le_of_ble_eq_true rfl, Nat.le_of_ble_eq_true rfl⟩ (Nat.le_of_ble_eq_true rfl) rfl (fun r_118 σ_117 h => ?_)
      refine tz_icmp_eq 1049 C dL_law_558 (by decide) h (fun h => ?_) (fun h => ?_)
      · refine tz_iinc 3 [(0, .ref _), (1, .ref _), (2, .ref _)] 6 C dL_law_1049 (by decide) rfl (Nat.le_of_ble_eq_true rfl) rfl h (fun x3_119 h => ?_)
        refine tz_goto 18 C dL_law_1052 (by decide) ?_
        exact tz_sub (ihag_1 _ _ h) [1, 2, 3, 0] rfl
      · refine tz_iconst 0 (by decide) C dL_law_561 ?_
        exact hret _ _ _ _ dL_law_562 rfl h
    refine tz_swc 15 (530) 563 C dL_law_33 (by decide) (by decide) rfl (by decide) h (fun h => ?_) (fun e15 h => ?_)
    · refine tz_aload_n 1 1 C dL_law_563 rfl rfl ?_
      refine tz_aload_n 0 0 C dL_law_564 rfl rfl ?_
      refine tz_iload_n 3 3 C dL_law_565 rfl rfl ?_
      refine tz_iconst 1 (by decide) C dL_law_566 ?_
      refine tz_iadd C dL_law_567 ?_
      obtain ⟨hin_120, h⟩ := h
      refine tz_sld C hX dL_law_568 hin_120 ?_
      refine tz_calliv C dL_law_569 lk_RL_76 (m_X9_best G hG  h) (by decide) rfl rfl rfl rfl ⟨Nat.le_of_ble_eq_true rfl, Nat.le_of_ble_eq_true rfl⟩ (Nat.le_of_ble_eq_true rfl) rfl (fun r_122 σ_121 h => ?_)
      refine tz_aload_n 2 2 C dL_law_572 rfl rfl ?_
      refine tz_aload_n 0 0 C dL_law_573 rfl rfl ?_
      refine tz_iload_n 3 3 C dL_law_574 rfl rfl ?_
      refine tz_iconst 1 (by decide) C dL_law_575 ?_
      refine tz_iadd C dL_law_576 ?_
      obtain ⟨hin_123, h⟩ := h
      refine tz_sld C hX dL_law_577 hin_123 ?_
      refine tz_calliv C dL_law_578 lk_RL_79 (m_X10_best G hG  h) (by decide) rfl rfl rfl rfl ⟨Nat.le_of_ble_eq_true rfl, Nat.le_of_ble_eq_true rfl⟩ (Nat.le_of_ble_eq_true rfl) rfl (fun r_125 σ_124 h => ?_)
      refine tz_icmp_eq 1049 C dL_law_581 (by decide) h (fun h => ?_) (fun h => ?_)
      · refine tz_iinc 3 [(0, .ref _), (1, .ref _), (2, .ref _)] 6 C dL_law_1049 (by decide) rfl (Nat.le_of_ble_eq_true rfl) rfl h (fun x3_126 h => ?_)
        refine tz_goto 18 C dL_law_1052 (by decide) ?_
        exact tz_sub (ihag_1 _ _ h) [1, 2, 3, 0] rfl
      · refine tz_iconst 0 (by decide) C dL_law_584 ?_
        exact hret _ _ _ _ dL_law_585 rfl h
    refine tz_swc 16 (553) 586 C dL_law_33 (by decide) (by decide) rfl (by decide) h (fun h => ?_) (fun e16 h => ?_)
    · refine tz_aload_n 1 1 C dL_law_586 rfl rfl ?_
      refine tz_aload_n 0 0 C dL_law_587 rfl rfl ?_
      refine tz_iload_n 3 3 C dL_law_588 rfl rfl ?_
      refine tz_iconst 1 (by decide) C dL_law_589 ?_
      refine tz_iadd C dL_law_590 ?_
      obtain ⟨hin_127, h⟩ := h
      refine tz_sld C hX dL_law_591 hin_127 ?_
      refine tz_aload_n 0 0 C dL_law_592 rfl rfl ?_
      refine tz_iload_n 3 3 C dL_law_593 rfl rfl ?_
      refine tz_iconst 2 (by decide) C dL_law_594 ?_
      refine tz_iadd C dL_law_595 ?_
      obtain ⟨hin_128, h⟩ := h
      refine tz_sld C hX dL_law_596 hin_128 ?_
      refine tz_calliv C dL_law_597 lk_RL_80 (m_X9_seam G hG  h) (by decide) rfl rfl rfl rfl ⟨Nat.le_of_ble_eq_true rfl, Nat.le_of_ble_eq_true rfl⟩ (Nat.le_of_ble_eq_true rfl) rfl (fun r_130 σ_129 h => ?_)
      refine tz_aload_n 2 2 C dL_law_600 rfl rfl ?_
      refine tz_aload_n 0 0 C dL_law_601 rfl rfl ?_
      refine tz_iload_n 3 3 C dL_law_602 rfl rfl ?_
      refine tz_iconst 1 (by decide) C dL_law_603 ?_
      refine tz_iadd C dL_law_604 ?_
      obtain ⟨hin_131, h⟩ := h
      refine tz_sld C hX dL_law_605 hin_131 ?_
      refine tz_aload_n 0 0 C dL_law_606 rfl rfl ?_
      refine tz_iload_n 3 3 C dL_law_607 rfl rfl ?_
      refine tz_iconst 2 (by decide) C dL_law_608 ?_
      refine tz_iadd C dL_law_609 ?_
      obtain ⟨hin_132, h⟩ := h
      refine tz_sld C hX dL_law_610 hin_132 ?_
      refine tz_calliv C dL_law_611 lk_RL_83 (m_X10_seam G hG  h) (by decide) rfl rfl rfl rfl ⟨Nat.le_of_ble_eq_true rfl, Nat.le_of_ble_eq_true rfl⟩ (Nat.le_of_ble_eq_true rfl) rfl (fun r_134 σ_133 h => ?_)
      refine tz_icmp_eq 1049 C dL_law_614 (by decide) h (fun h => ?_) (fun h => ?_)
      · refine tz_iinc 3 [(0, .ref _), (1, .ref _), (2, .ref _)] 6 C dL_law_1049 (by decide) rfl (Nat.le_of_ble_eq_true rfl) rfl h (fun x3_135 h => ?_)
        refine tz_goto 18 C dL_law_1052 (by decide) ?_
        exact tz_sub (ihag_1 _ _ h) [1, 2, 3, 0] rfl
      · refine tz_iconst 0 (by decide) C dL_law_617 ?_
        exact hret _ _ _ _ dL_law_618 rfl h
    refine tz_swc 17 (586) 619 C dL_law_33 (by decide) (by decide) rfl (by decide) h (fun h => ?_) (fun e17 h => ?_)
    · refine tz_aload_n 1 1 C dL_law_619 rfl rfl ?_
      refine tz_calliv C dL_law_620 lk_RL_84 (m_X9_bent G hG  h) (by decide) rfl rfl rfl rfl ⟨Nat.le_of_ble_eq_true rfl, Nat.le_of_ble_eq_true rfl⟩ (Nat.le_of_ble_eq_true rfl) rfl (fun r_137 σ_136 h => ?_)
      refine tz_aload_n 2 2 C dL_law_623 rfl rfl ?_
      refine tz_calliv C dL_law_624 lk_RL_87 (m_X10_bent G hG  h) (by decide) rfl rfl rfl rfl ⟨Nat.le_of_ble_eq_true rfl, Nat.le_of_ble_eq_true rfl⟩ (Nat.le_of_ble_eq_true rfl) rfl (fun r_139 σ_138 h => ?_)
      refine tz_icmp_eq 1049 C dL_law_627 (by decide) h (fun h => ?_) (fun h => ?_)
      · refine tz_iinc 3 [(0, .ref _), (1, .ref _), (2, .ref _)] 6 C dL_law_1049 (by decide) rfl (Nat.le_of_ble_eq_true rfl) rfl h (fun x3_140 h => ?_)
        refine tz_goto 18 C dL_law_1052 (by decide) ?_
        exact tz_sub (ihag_1 _ _ h) [1, 2, 3, 0] rfl
      · refine tz_iconst 0 (by decide) C dL_law_630 ?_
        exact hret _ _ _ _ dL_law_631 rfl h
    refine tz_swc 18 (599) 632 C dL_law_33 (by decide) (by decide) rfl (by decide) h (fun h => ?_) (fun e18 h => ?_)
    · refine tz_aload_n 1 1 C dL_law_632 rfl rfl ?_
      refine tz_aload_n 0 0 C dL_law_633 rfl rfl ?_
      refine tz_iload_n 3 3 C dL_law_634 rfl rfl ?_
      refine tz_iconst 1 (by decide) C dL_law_635 ?_
      refine tz_iadd C dL_law_636 ?_
      obtain ⟨hin_141, h⟩ := h
      refine tz_sld C hX dL_law_637 hin_141 ?_
      refine tz_aload_n 0 0 C dL_law_638 rfl rfl ?_
      refine tz_iload_n 3 3 C dL_law_639 rfl rfl ?_
      refine tz_iconst 2 (by decide) C dL_law_640 ?_
      refine tz_iadd C dL_law_641 ?_
      obtain ⟨hin_142, h⟩ := h
      refine tz_sld C hX dL_law_642 hin_142 ?_
      refine tz_calliv C dL_law_643 lk_RL_88 (m_X9_drop G hG  h) (by decide) rfl rfl rfl rfl ⟨Nat.le_of_ble_eq_true rfl, Nat.le_of_ble_eq_true rfl⟩ (Nat.le_of_ble_eq_true rfl) rfl (fun r_144 σ_143 h => ?_)
      refine tz_aload_n 2 2 C dL_law_646 rfl rfl ?_
      refine tz_aload_n 0 0 C dL_law_647 rfl rfl ?_
      refine tz_iload_n 3 3 C dL_law_648 rfl rfl ?_
      refine tz_iconst 1 (by decide) C dL_law_649 ?_
      refine tz_iadd C dL_law_650 ?_
      obtain ⟨hin_145, h⟩ := h
      refine tz_sld C hX dL_law_651 hin_145 ?_
      refine tz_aload_n 0 0 C dL_law_652 rfl rfl ?_
      refine tz_iload_n 3 3 C dL_law_653 rfl rfl ?_
      refine tz_iconst 2 (by decide) C dL_law_654 ?_
      refine tz_iadd C dL_law_655 ?_
      obtain ⟨hin_146, h⟩ := h
      refine tz_sld C hX dL_law_656 hin_146 ?_
      refine tz_calliv C dL_law_657 lk_RL_91 (m_X10_drop G hG  h) (by decide) rfl rfl rfl rfl ⟨Nat.le_of_ble_eq_true rfl, Nat.le_of_ble_eq_true rfl⟩ (Nat.le_of_ble_eq_true rfl) rfl (fun r_148 σ_147 h => ?_)
      refine tz_icmp_eq 1049 C dL_law_660 (by decide) h (fun h => ?_) (fun h => ?_)
      · refine tz_iinc 3 [(0, .ref _), (1, .ref _), (2, .ref _)] 6 C dL_law_1049 (by decide) rfl (Nat.le_of_ble_eq_true rfl) rfl h (fun x3_149 h => ?_)
        refine tz_goto 18 C dL_law_1052 (by decide) ?_
        exact tz_sub (ihag_1 _ _ h) [1, 2, 3, 0] rfl
      · refine tz_iconst 0 (by decide) C dL_law_663 ?_
        exact hret _ _ _ _ dL_law_664 rfl h
    refine tz_swc 19 (632) 665 C dL_law_33 (by decide) (by decide) rfl (by decide) h (fun h => ?_) (fun e19 h => ?_)
    · refine tz_aload_n 1 1 C dL_law_665 rfl rfl ?_
      refine tz_aload_n 0 0 C dL_law_666 rfl rfl ?_
      refine tz_iload_n 3 3 C dL_law_667 rfl rfl ?_
      refine tz_iconst 1 (by decide) C dL_law_668 ?_
      refine tz_iadd C dL_law_669 ?_
      obtain ⟨hin_150, h⟩ := h
      refine tz_sld C hX dL_law_670 hin_150 ?_
      refine tz_aload_n 0 0 C dL_law_671 rfl rfl ?_
      refine tz_iload_n 3 3 C dL_law_672 rfl rfl ?_
      refine tz_iconst 2 (by decide) C dL_law_673 ?_
      refine tz_iadd C dL_law_674 ?_
      obtain ⟨hin_151, h⟩ := h
      refine tz_sld C hX dL_law_675 hin_151 ?_
      refine tz_calliv C dL_law_676 lk_RL_92 (m_X9_gap G hG  h) (by decide) rfl rfl rfl rfl ⟨Nat.le_of_ble_eq_true rfl, Nat.le_of_ble_eq_true rfl⟩ (Nat.le_of_ble_eq_true rfl) rfl (fun r_153 σ_152 h => ?_)
      refine tz_aload_n 2 2 C dL_law_679 rfl rfl ?_
      refine tz_aload_n 0 0 C dL_law_680 rfl rfl ?_
      refine tz_iload_n 3 3 C dL_law_681 rfl rfl ?_
      refine tz_iconst 1 (by decide) C dL_law_682 ?_
      refine tz_iadd C dL_law_683 ?_
      obtain ⟨hin_154, h⟩ := h
      refine tz_sld C hX dL_law_684 hin_154 ?_
      refine tz_aload_n 0 0 C dL_law_685 rfl rfl ?_
      refine tz_iload_n 3 3 C dL_law_686 rfl rfl ?_
      refine tz_iconst 2 (by decide) C dL_law_687 ?_
      refine tz_iadd C dL_law_688 ?_
      obtain ⟨hin_155, h⟩ := h
      refine tz_sld C hX dL_law_689 hin_155 ?_
      refine tz_calliv C dL_law_690 lk_RL_95 (m_X10_gap G hG  h) (by decide) rfl rfl rfl rfl ⟨Nat.le_of_ble_eq_true rfl, Nat.le_of_ble_eq_true rfl⟩ (Nat.le_of_ble_eq_true rfl) rfl (fun r_157 σ_156 h => ?_)
      refine tz_icmp_eq 1049 C dL_law_693 (by decide) h (fun h => ?_) (fun h => ?_)
      · refine tz_iinc 3 [(0, .ref _), (1, .ref _), (2, .ref _)] 6 C dL_law_1049 (by decide) rfl (Nat.le_of_ble_eq_true rfl) rfl h (fun x3_158 h => ?_)
        refine tz_goto 18 C dL_law_1052 (by decide) ?_
        exact tz_sub (ihag_1 _ _ h) [1, 2, 3, 0] rfl
      · refine tz_iconst 0 (by decide) C dL_law_696 ?_
        exact hret _ _ _ _ dL_law_697 rfl h
    refine tz_swc 20 (665) 698 C dL_law_33 (by decide) (by decide) rfl (by decide) h (fun h => ?_) (fun e20 h => ?_)
    · refine tz_aload_n 1 1 C dL_law_698 rfl rfl ?_
      refine tz_aload_n 0 0 C dL_law_699 rfl rfl ?_
      refine tz_iload_n 3 3 C dL_law_700 rfl rfl ?_
      refine tz_iconst 1 (by decide) C dL_law_701 ?_
      refine tz_iadd C dL_law_702 ?_
      obtain ⟨hin_159, h⟩ := h
      refine tz_sld C hX dL_law_703 hin_159 ?_
      refine tz_calliv C dL_law_704 lk_RL_96 (m_X9_deep G hG  h) (by decide) rfl rfl rfl rfl ⟨Nat.le_of_ble_eq_true rfl, Nat.le_of_ble_eq_true rfl⟩ (Nat.le_of_ble_eq_true rfl) rfl (fun r_161 σ_160 h => ?_)
      refine tz_aload_n 2 2 C dL_law_707 rfl rfl ?_
      refine tz_aload_n 0 0 C dL_law_708 rfl rfl ?_
      refine tz_iload_n 3 3 C dL_law_709 rfl rfl ?_
      refine tz_iconst 1 (by decide) C dL_law_710 ?_
      refine tz_iadd C dL_law_711 ?_
      obtain ⟨hin_162, h⟩ := h
      refine tz_sld C hX dL_law_712 hin_162 ?_
      refine tz_calliv C dL_law_713 lk_RL_99 (m_X10_deep G hG  h) (by decide) rfl rfl rfl rfl ⟨Nat.le_of_ble_eq_true rfl, Nat.le_of_ble_eq_true rfl⟩ (Nat.le_of_ble_eq_true rfl) rfl (fun r_164 σ_163 h => ?_)
      refine tz_icmp_eq 1049 C dL_law_716 (by decide) h (fun h => ?_) (fun h => ?_)
      · refine tz_iinc 3 [(0, .ref _), (1, .ref _), (2, .ref _)] 6 C dL_law_1049 (by decide) rfl (Nat.le_of_ble_eq_true rfl) rfl h (fun x3_165 h => ?_)
        refine tz_goto 18 C dL_law_1052 (by decide) ?_
        exact tz_sub (ihag_1 _ _ h) [1, 2, 3, 0] rfl
      · refine tz_iconst 0 (by decide) C dL_law_719 ?_
        exact hret _ _ _ _ dL_law_720 rfl h
    refine tz_swc 21 (688) 721 C dL_law_33 (by decide) (by decide) rfl (by decide) h (fun h => ?_) (fun e21 h => ?_)
    · refine tz_aload_n 1 1 C dL_law_721 rfl rfl ?_
      refine tz_aload_n 0 0 C dL_law_722 rfl rfl ?_
      refine tz_iload_n 3 3 C dL_law_723 rfl rfl ?_
      refine tz_iconst 1 (by decide) C dL_law_724 ?_
      refine tz_iadd C dL_law_725 ?_
      obtain ⟨hin_166, h⟩ := h
      refine tz_sld C hX dL_law_726 hin_166 ?_
      refine tz_aload_n 0 0 C dL_law_727 rfl rfl ?_
      refine tz_iload_n 3 3 C dL_law_728 rfl rfl ?_
      refine tz_iconst 2 (by decide) C dL_law_729 ?_
      refine tz_iadd C dL_law_730 ?_
      obtain ⟨hin_167, h⟩ := h
      refine tz_sld C hX dL_law_731 hin_167 ?_
      refine tz_calliv C dL_law_732 lk_RL_100 (m_X9_apart G hG  h) (by decide) rfl rfl rfl rfl ⟨Nat.le_of_ble_eq_true rfl, Nat.le_of_ble_eq_true rfl⟩ (Nat.le_of_ble_eq_true rfl) rfl (fun r_169 σ_168 h => ?_)
      refine tz_aload_n 2 2 C dL_law_735 rfl rfl ?_
      refine tz_aload_n 0 0 C dL_law_736 rfl rfl ?_
      refine tz_iload_n 3 3 C dL_law_737 rfl rfl ?_
      refine tz_iconst 1 (by decide) C dL_law_738 ?_
      refine tz_iadd C dL_law_739 ?_
      obtain ⟨hin_170, h⟩ := h
      refine tz_sld C hX dL_law_740 hin_170 ?_
      refine tz_aload_n 0 0 C dL_law_741 rfl rfl ?_
      refine tz_iload_n 3 3 C dL_law_742 rfl rfl ?_
      refine tz_iconst 2 (by decide) C dL_law_743 ?_
      refine tz_iadd C dL_law_744 ?_
      obtain ⟨hin_171, h⟩ := h
      refine tz_sld C hX dL_law_745 hin_171 ?_
      refine tz_calliv C dL_law_746 lk_RL_103 (m_X10_apart G hG  h) (by decide) rfl rfl rfl rfl ⟨Nat.le_of_ble_eq_true rfl, Nat.le_of_ble_eq_true rfl⟩ (Nat.le_of_ble_eq_true rfl) rfl (fun r_173 σ_172 h => ?_)
      refine tz_icmp_eq 1049 C dL_law_749 (by decide) h (fun h => ?_) (fun h => ?_)
      · refine tz_iinc 3 [(0, .ref _), (1, .ref _), (2, .ref _)] 6 C dL_law_1049 (by decide) rfl (Nat.le_of_ble_eq_true rfl) rfl h (fun x3_174 h => ?_)
        refine tz_goto 18 C dL_law_1052 (by decide) ?_
        exact tz_sub (ihag_1 _ _ h) [1, 2, 3, 0] rfl
      · refine tz_iconst 0 (by decide) C dL_law_752 ?_
        exact hret _ _ _ _ dL_law_753 rfl h
    refine tz_swc 22 (721) 754 C dL_law_33 (by decide) (by decide) rfl (by decide) h (fun h => ?_) (fun e22 h => ?_)
    · refine tz_aload_n 1 1 C dL_law_754 rfl rfl ?_
      refine tz_aload_n 0 0 C dL_law_755 rfl rfl ?_
      refine tz_iload_n 3 3 C dL_law_756 rfl rfl ?_
      refine tz_iconst 1 (by decide) C dL_law_757 ?_
      refine tz_iadd C dL_law_758 ?_
      obtain ⟨hin_175, h⟩ := h
      refine tz_sld C hX dL_law_759 hin_175 ?_
      refine tz_aload_n 0 0 C dL_law_760 rfl rfl ?_
      refine tz_iload_n 3 3 C dL_law_761 rfl rfl ?_
      refine tz_iconst 2 (by decide) C dL_law_762 ?_
      refine tz_iadd C dL_law_763 ?_
      obtain ⟨hin_176, h⟩ := h
      refine tz_sld C hX dL_law_764 hin_176 ?_
      refine tz_aload_n 0 0 C dL_law_765 rfl rfl ?_
      refine tz_iload_n 3 3 C dL_law_766 rfl rfl ?_
      refine tz_iconst 3 (by decide) C dL_law_767 ?_
      refine tz_iadd C dL_law_768 ?_
      obtain ⟨hin_177, h⟩ := h
      refine tz_sld C hX dL_law_769 hin_177 ?_
      refine tz_calliv C dL_law_770 lk_RL_104 (m_X9_sheet G hG  h) (by decide) rfl rfl rfl rfl ⟨Nat.le_of_ble_eq_true rfl, Nat.le_of_ble_eq_true rfl⟩ (Nat.le_of_ble_eq_true rfl) rfl (fun r_179 σ_178 h => ?_)
      refine tz_aload_n 2 2 C dL_law_773 rfl rfl ?_
      refine tz_aload_n 0 0 C dL_law_774 rfl rfl ?_
      refine tz_iload_n 3 3 C dL_law_775 rfl rfl ?_
      refine tz_iconst 1 (by decide) C dL_law_776 ?_
      refine tz_iadd C dL_law_777 ?_
      obtain ⟨hin_180, h⟩ := h
      refine tz_sld C hX dL_law_778 hin_180 ?_
      refine tz_aload_n 0 0 C dL_law_779 rfl rfl ?_
      refine tz_iload_n 3 3 C dL_law_780 rfl rfl ?_
      refine tz_iconst 2 (by decide) C dL_law_781 ?_
      refine tz_iadd C dL_law_782 ?_
      obtain ⟨hin_181, h⟩ := h
      refine tz_sld C hX dL_law_783 hin_181 ?_
      refine tz_aload_n 0 0 C dL_law_784 rfl rfl ?_
      refine tz_iload_n 3 3 C dL_law_785 rfl rfl ?_
      refine tz_iconst 3 (by decide) C dL_law_786 ?_
      refine tz_iadd C dL_law_787 ?_
      obtain ⟨hin_182, h⟩ := h
      refine tz_sld C hX dL_law_788 hin_182 ?_
      refine tz_calliv C dL_law_789 lk_RL_108 (m_X10_sheet G hG  h) (by decide) rfl rfl rfl rfl ⟨Nat.le_of_ble_eq_true rfl, Nat.le_of_ble_eq_true rfl⟩ (Nat.le_of_ble_eq_true rfl) rfl (fun r_184 σ_183 h => ?_)
      refine tz_icmp_eq 1049 C dL_law_792 (by decide) h (fun h => ?_) (fun h => ?_)
      · refine tz_iinc 3 [(0, .ref _), (1, .ref _), (2, .ref _)] 6 C dL_law_1049 (by decide) rfl (Nat.le_of_ble_eq_true rfl) rfl h (fun x3_185 h => ?_)
        refine tz_goto 18 C dL_law_1052 (by decide) ?_
        exact tz_sub (ihag_1 _ _ h) [1, 2, 3, 0] rfl
      · refine tz_iconst 0 (by decide) C dL_law_795 ?_
        exact hret _ _ _ _ dL_law_796 rfl h
    refine tz_swc 23 (764) 797 C dL_law_33 (by decide) (by decide) rfl (by decide) h (fun h => ?_) (fun e23 h => ?_)
    · refine tz_aload_n 1 1 C dL_law_797 rfl rfl ?_
      refine tz_aload_n 0 0 C dL_law_798 rfl rfl ?_
      refine tz_iload_n 3 3 C dL_law_799 rfl rfl ?_
      refine tz_iconst 1 (by decide) C dL_law_800 ?_
      refine tz_iadd C dL_law_801 ?_
      obtain ⟨hin_186, h⟩ := h
      refine tz_sld C hX dL_law_802 hin_186 ?_
      refine tz_calliv C dL_law_803 lk_RL_109 (m_X9_lose G hG  h) (by decide) rfl rfl rfl rfl ⟨Nat.le_of_ble_eq_true rfl, Nat.le_of_ble_eq_true rfl⟩ (Nat.le_of_ble_eq_true rfl) rfl (fun r_188 σ_187 h => ?_)
      refine tz_aload_n 2 2 C dL_law_806 rfl rfl ?_
      refine tz_aload_n 0 0 C dL_law_807 rfl rfl ?_
      refine tz_iload_n 3 3 C dL_law_808 rfl rfl ?_
      refine tz_iconst 1 (by decide) C dL_law_809 ?_
      refine tz_iadd C dL_law_810 ?_
      obtain ⟨hin_189, h⟩ := h
      refine tz_sld C hX dL_law_811 hin_189 ?_
      refine tz_calliv C dL_law_812 lk_RL_112 (m_X10_lose G hG  h) (by decide) rfl rfl rfl rfl ⟨Nat.le_of_ble_eq_true rfl, Nat.le_of_ble_eq_true rfl⟩ (Nat.le_of_ble_eq_true rfl) rfl (fun r_191 σ_190 h => ?_)
      refine tz_icmp_eq 1049 C dL_law_815 (by decide) h (fun h => ?_) (fun h => ?_)
      · refine tz_iinc 3 [(0, .ref _), (1, .ref _), (2, .ref _)] 6 C dL_law_1049 (by decide) rfl (Nat.le_of_ble_eq_true rfl) rfl h (fun x3_192 h => ?_)
        refine tz_goto 18 C dL_law_1052 (by decide) ?_
        exact tz_sub (ihag_1 _ _ h) [1, 2, 3, 0] rfl
      · refine tz_iconst 0 (by decide) C dL_law_818 ?_
        exact hret _ _ _ _ dL_law_819 rfl h
    refine tz_swc 24 (787) 820 C dL_law_33 (by decide) (by decide) rfl (by decide) h (fun h => ?_) (fun e24 h => ?_)
    · refine tz_aload_n 1 1 C dL_law_820 rfl rfl ?_
      refine tz_aload_n 0 0 C dL_law_821 rfl rfl ?_
      refine tz_iload_n 3 3 C dL_law_822 rfl rfl ?_
      refine tz_iconst 1 (by decide) C dL_law_823 ?_
      refine tz_iadd C dL_law_824 ?_
      obtain ⟨hin_193, h⟩ := h
      refine tz_sld C hX dL_law_825 hin_193 ?_
      refine tz_aload_n 0 0 C dL_law_826 rfl rfl ?_
      refine tz_iload_n 3 3 C dL_law_827 rfl rfl ?_
      refine tz_iconst 2 (by decide) C dL_law_828 ?_
      refine tz_iadd C dL_law_829 ?_
      obtain ⟨hin_194, h⟩ := h
      refine tz_sld C hX dL_law_830 hin_194 ?_
      refine tz_aload_n 0 0 C dL_law_831 rfl rfl ?_
      refine tz_iload_n 3 3 C dL_law_832 rfl rfl ?_
      refine tz_iconst 3 (by decide) C dL_law_833 ?_
      refine tz_iadd C dL_law_834 ?_
      obtain ⟨hin_195, h⟩ := h
      refine tz_sld C hX dL_law_835 hin_195 ?_
      refine tz_aload_n 0 0 C dL_law_836 rfl rfl ?_
      refine tz_iload_n 3 3 C dL_law_837 rfl rfl ?_
      refine tz_iconst 4 (by decide) C dL_law_838 ?_
      refine tz_iadd C dL_law_839 ?_
      obtain ⟨hin_196, h⟩ := h
      refine tz_sld C hX dL_law_840 hin_196 ?_
      refine tz_calliv C dL_law_841 lk_RL_113 (m_X9_put G hG  h) (by decide) rfl rfl rfl rfl ⟨Nat.le_of_ble_eq_true rfl, Nat.le_of_ble_eq_true rfl⟩ (Nat.le_of_ble_eq_true rfl) rfl (fun r_198 σ_197 h => ?_)
      refine tz_aload_n 2 2 C dL_law_844 rfl rfl ?_
      refine tz_aload_n 0 0 C dL_law_845 rfl rfl ?_
      refine tz_iload_n 3 3 C dL_law_846 rfl rfl ?_
      refine tz_iconst 1 (by decide) C dL_law_847 ?_
      refine tz_iadd C dL_law_848 ?_
      obtain ⟨hin_199, h⟩ := h
      refine tz_sld C hX dL_law_849 hin_199 ?_
      refine tz_aload_n 0 0 C dL_law_850 rfl rfl ?_
      refine tz_iload_n 3 3 C dL_law_851 rfl rfl ?_
      refine tz_iconst 2 (by decide) C dL_law_852 ?_
      refine tz_iadd C dL_law_853 ?_
      obtain ⟨hin_200, h⟩ := h
      refine tz_sld C hX dL_law_854 hin_200 ?_
      refine tz_aload_n 0 0 C dL_law_855 rfl rfl ?_
      refine tz_iload_n 3 3 C dL_law_856 rfl rfl ?_
      refine tz_iconst 3 (by decide) C dL_law_857 ?_
      refine tz_iadd C dL_law_858 ?_
      obtain ⟨hin_201, h⟩ := h
      refine tz_sld C hX dL_law_859 hin_201 ?_
      refine tz_aload_n 0 0 C dL_law_860 rfl rfl ?_
      refine tz_iload_n 3 3 C dL_law_861 rfl rfl ?_
      refine tz_iconst 4 (by decide) C dL_law_862 ?_
      refine tz_iadd C dL_law_863 ?_
      obtain ⟨hin_202, h⟩ := h
      refine tz_sld C hX dL_law_864 hin_202 ?_
      refine tz_calliv C dL_law_865 lk_RL_117 (m_X10_put G hG  h) (by decide) rfl rfl rfl rfl ⟨Nat.le_of_ble_eq_true rfl, Nat.le_of_ble_eq_true rfl⟩ (Nat.le_of_ble_eq_true rfl) rfl (fun r_204 σ_203 h => ?_)
      refine tz_icmp_eq 1049 C dL_law_868 (by decide) h (fun h => ?_) (fun h => ?_)
      · refine tz_iinc 3 [(0, .ref _), (1, .ref _), (2, .ref _)] 6 C dL_law_1049 (by decide) rfl (Nat.le_of_ble_eq_true rfl) rfl h (fun x3_205 h => ?_)
        refine tz_goto 18 C dL_law_1052 (by decide) ?_
        exact tz_sub (ihag_1 _ _ h) [1, 2, 3, 0] rfl
      · refine tz_iconst 0 (by decide) C dL_law_871 ?_
        exact hret _ _ _ _ dL_law_872 rfl h
    refine tz_swc 25 (840) 873 C dL_law_33 (by decide) (by decide) rfl (by decide) h (fun h => ?_) (fun e25 h => ?_)
    · refine tz_aload_n 1 1 C dL_law_873 rfl rfl ?_
      refine tz_aload_n 0 0 C dL_law_874 rfl rfl ?_
      refine tz_iload_n 3 3 C dL_law_875 rfl rfl ?_
      refine tz_iconst 1 (by decide) C dL_law_876 ?_
      refine tz_iadd C dL_law_877 ?_
      obtain ⟨hin_206, h⟩ := h
      refine tz_sld C hX dL_law_878 hin_206 ?_
      refine tz_aload_n 0 0 C dL_law_879 rfl rfl ?_
      refine tz_iload_n 3 3 C dL_law_880 rfl rfl ?_
      refine tz_iconst 2 (by decide) C dL_law_881 ?_
      refine tz_iadd C dL_law_882 ?_
      obtain ⟨hin_207, h⟩ := h
      refine tz_sld C hX dL_law_883 hin_207 ?_
      refine tz_aload_n 0 0 C dL_law_884 rfl rfl ?_
      refine tz_iload_n 3 3 C dL_law_885 rfl rfl ?_
      refine tz_iconst 3 (by decide) C dL_law_886 ?_
      refine tz_iadd C dL_law_887 ?_
      obtain ⟨hin_208, h⟩ := h
      refine tz_sld C hX dL_law_888 hin_208 ?_
      refine tz_calliv C dL_law_889 lk_RL_118 (m_X9_get G hG  h) (by decide) rfl rfl rfl rfl ⟨Nat.le_of_ble_eq_true rfl, Nat.le_of_ble_eq_true rfl⟩ (Nat.le_of_ble_eq_true rfl) rfl (fun r_210 σ_209 h => ?_)
      refine tz_aload_n 2 2 C dL_law_892 rfl rfl ?_
      refine tz_aload_n 0 0 C dL_law_893 rfl rfl ?_
      refine tz_iload_n 3 3 C dL_law_894 rfl rfl ?_
      refine tz_iconst 1 (by decide) C dL_law_895 ?_
      refine tz_iadd C dL_law_896 ?_
      obtain ⟨hin_211, h⟩ := h
      refine tz_sld C hX dL_law_897 hin_211 ?_
      refine tz_aload_n 0 0 C dL_law_898 rfl rfl ?_
      refine tz_iload_n 3 3 C dL_law_899 rfl rfl ?_
      refine tz_iconst 2 (by decide) C dL_law_900 ?_
      refine tz_iadd C dL_law_901 ?_
      obtain ⟨hin_212, h⟩ := h
      refine tz_sld C hX dL_law_902 hin_212 ?_
      refine tz_aload_n 0 0 C dL_law_903 rfl rfl ?_
      refine tz_iload_n 3 3 C dL_law_904 rfl rfl ?_
      refine tz_iconst 3 (by decide) C dL_law_905 ?_
      refine tz_iadd C dL_law_906 ?_
      obtain ⟨hin_213, h⟩ := h
      refine tz_sld C hX dL_law_907 hin_213 ?_
      refine tz_calliv C dL_law_908 lk_RL_121 (m_X10_get G hG  h) (by decide) rfl rfl rfl rfl ⟨Nat.le_of_ble_eq_true rfl, Nat.le_of_ble_eq_true rfl⟩ (Nat.le_of_ble_eq_true rfl) rfl (fun r_215 σ_214 h => ?_)
      refine tz_icmp_eq 1049 C dL_law_911 (by decide) h (fun h => ?_) (fun h => ?_)
      · refine tz_iinc 3 [(0, .ref _), (1, .ref _), (2, .ref _)] 6 C dL_law_1049 (by decide) rfl (Nat.le_of_ble_eq_true rfl) rfl h (fun x3_216 h => ?_)
        refine tz_goto 18 C dL_law_1052 (by decide) ?_
        exact tz_sub (ihag_1 _ _ h) [1, 2, 3, 0] rfl
      · refine tz_iconst 0 (by decide) C dL_law_914 ?_
        exact hret _ _ _ _ dL_law_915 rfl h
    refine tz_swc 26 (883) 916 C dL_law_33 (by decide) (by decide) rfl (by decide) h (fun h => ?_) (fun e26 h => ?_)
    · refine tz_aload_n 1 1 C dL_law_916 rfl rfl ?_
      refine tz_aload_n 0 0 C dL_law_917 rfl rfl ?_
      refine tz_iload_n 3 3 C dL_law_918 rfl rfl ?_
      refine tz_iconst 1 (by decide) C dL_law_919 ?_
      refine tz_iadd C dL_law_920 ?_
      obtain ⟨hin_217, h⟩ := h
      refine tz_sld C hX dL_law_921 hin_217 ?_
      refine tz_aload_n 0 0 C dL_law_922 rfl rfl ?_
      refine tz_iload_n 3 3 C dL_law_923 rfl rfl ?_
      refine tz_iconst 2 (by decide) C dL_law_924 ?_
      refine tz_iadd C dL_law_925 ?_
      obtain ⟨hin_218, h⟩ := h
      refine tz_sld C hX dL_law_926 hin_218 ?_
      refine tz_aload_n 0 0 C dL_law_927 rfl rfl ?_
      refine tz_iload_n 3 3 C dL_law_928 rfl rfl ?_
      refine tz_iconst 3 (by decide) C dL_law_929 ?_
      refine tz_iadd C dL_law_930 ?_
      obtain ⟨hin_219, h⟩ := h
      refine tz_sld C hX dL_law_931 hin_219 ?_
      refine tz_aload_n 0 0 C dL_law_932 rfl rfl ?_
      refine tz_iload_n 3 3 C dL_law_933 rfl rfl ?_
      refine tz_iconst 4 (by decide) C dL_law_934 ?_
      refine tz_iadd C dL_law_935 ?_
      obtain ⟨hin_220, h⟩ := h
      refine tz_sld C hX dL_law_936 hin_220 ?_
      refine tz_aload_n 0 0 C dL_law_937 rfl rfl ?_
      refine tz_iload_n 3 3 C dL_law_938 rfl rfl ?_
      refine tz_iconst 5 (by decide) C dL_law_939 ?_
      refine tz_iadd C dL_law_940 ?_
      obtain ⟨hin_221, h⟩ := h
      refine tz_sld C hX dL_law_941 hin_221 ?_
      refine tz_calliv C dL_law_942 lk_RL_122 (m_X9_copy G hG  h) (by decide) rfl rfl rfl rfl ⟨Nat.le_of_ble_eq_true rfl, Nat.le_of_ble_eq_true rfl⟩ (Nat.le_of_ble_eq_true rfl) rfl (fun r_223 σ_222 h => ?_)
      refine tz_aload_n 2 2 C dL_law_945 rfl rfl ?_
      refine tz_aload_n 0 0 C dL_law_946 rfl rfl ?_
      refine tz_iload_n 3 3 C dL_law_947 rfl rfl ?_
      refine tz_iconst 1 (by decide) C dL_law_948 ?_
      refine tz_iadd C dL_law_949 ?_
      obtain ⟨hin_224, h⟩ := h
      refine tz_sld C hX dL_law_950 hin_224 ?_
      refine tz_aload_n 0 0 C dL_law_951 rfl rfl ?_
      refine tz_iload_n 3 3 C dL_law_952 rfl rfl ?_
      refine tz_iconst 2 (by decide) C dL_law_953 ?_
      refine tz_iadd C dL_law_954 ?_
      obtain ⟨hin_225, h⟩ := h
      refine tz_sld C hX dL_law_955 hin_225 ?_
      refine tz_aload_n 0 0 C dL_law_956 rfl rfl ?_
      refine tz_iload_n 3 3 C dL_law_957 rfl rfl ?_
      refine tz_iconst 3 (by decide) C dL_law_958 ?_
      refine tz_iadd C dL_law_959 ?_
      obtain ⟨hin_226, h⟩ := h
      refine tz_sld C hX dL_law_960 hin_226 ?_
      refine tz_aload_n 0 0 C dL_law_961 rfl rfl ?_
      refine tz_iload_n 3 3 C dL_law_962 rfl rfl ?_
      refine tz_iconst 4 (by decide) C dL_law_963 ?_
      refine tz_iadd C dL_law_964 ?_
      obtain ⟨hin_227, h⟩ := h
      refine tz_sld C hX dL_law_965 hin_227 ?_
      refine tz_aload_n 0 0 C dL_law_966 rfl rfl ?_
      refine tz_iload_n 3 3 C dL_law_967 rfl rfl ?_
      refine tz_iconst 5 (by decide) C dL_law_968 ?_
      refine tz_iadd C dL_law_969 ?_
      obtain ⟨hin_228, h⟩ := h
      refine tz_sld C hX dL_law_970 hin_228 ?_
      refine tz_calliv C dL_law_971 lk_RL_126 (m_X10_copy G hG  h) (by decide) rfl rfl rfl rfl ⟨Nat.le_of_ble_eq_true rfl, Nat.le_of_ble_eq_true rfl⟩ (Nat.le_of_ble_eq_true rfl) rfl (fun r_230 σ_229 h => ?_)
      refine tz_icmp_eq 1049 C dL_law_974 (by decide) h (fun h => ?_) (fun h => ?_)
      · refine tz_iinc 3 [(0, .ref _), (1, .ref _), (2, .ref _)] 6 C dL_law_1049 (by decide) rfl (Nat.le_of_ble_eq_true rfl) rfl h (fun x3_231 h => ?_)
        refine tz_goto 18 C dL_law_1052 (by decide) ?_
        exact tz_sub (ihag_1 _ _ h) [1, 2, 3, 0] rfl
      · refine tz_iconst 0 (by decide) C dL_law_977 ?_
        exact hret _ _ _ _ dL_law_978 rfl h
    refine tz_swc 27 (946) 979 C dL_law_33 (by decide) (by decide) rfl (by decide) h (fun h => ?_) (fun e27 h => ?_)
    · refine tz_aload_n 1 1 C dL_law_979 rfl rfl ?_
      refine tz_aload_n 0 0 C dL_law_980 rfl rfl ?_
      refine tz_iload_n 3 3 C dL_law_981 rfl rfl ?_
      refine tz_iconst 1 (by decide) C dL_law_982 ?_
      refine tz_iadd C dL_law_983 ?_
      obtain ⟨hin_232, h⟩ := h
      refine tz_sld C hX dL_law_984 hin_232 ?_
      refine tz_aload_n 0 0 C dL_law_985 rfl rfl ?_
      refine tz_iload_n 3 3 C dL_law_986 rfl rfl ?_
      refine tz_iconst 2 (by decide) C dL_law_987 ?_
      refine tz_iadd C dL_law_988 ?_
      obtain ⟨hin_233, h⟩ := h
      refine tz_sld C hX dL_law_989 hin_233 ?_
      refine tz_calliv C dL_law_990 lk_RL_127 (m_X9_write G hG  h) (by decide) rfl rfl rfl rfl ⟨Nat.le_of_ble_eq_true rfl, Nat.le_of_ble_eq_true rfl⟩ (Nat.le_of_ble_eq_true rfl) rfl (fun r_235 σ_234 h => ?_)
      refine tz_aload_n 2 2 C dL_law_993 rfl rfl ?_
      refine tz_aload_n 0 0 C dL_law_994 rfl rfl ?_
      refine tz_iload_n 3 3 C dL_law_995 rfl rfl ?_
      refine tz_iconst 1 (by decide) C dL_law_996 ?_
      refine tz_iadd C dL_law_997 ?_
      obtain ⟨hin_236, h⟩ := h
      refine tz_sld C hX dL_law_998 hin_236 ?_
      refine tz_aload_n 0 0 C dL_law_999 rfl rfl ?_
      refine tz_iload_n 3 3 C dL_law_1000 rfl rfl ?_
      refine tz_iconst 2 (by decide) C dL_law_1001 ?_
      refine tz_iadd C dL_law_1002 ?_
      obtain ⟨hin_237, h⟩ := h
      refine tz_sld C hX dL_law_1003 hin_237 ?_
      refine tz_calliv C dL_law_1004 lk_RL_130 (m_X10_write G hG  h) (by decide) rfl rfl rfl rfl ⟨Nat.le_of_ble_eq_true rfl, Nat.le_of_ble_eq_true rfl⟩ (Nat.le_of_ble_eq_true rfl) rfl (fun r_239 σ_238 h => ?_)
      refine tz_icmp_eq 1049 C dL_law_1007 (by decide) h (fun h => ?_) (fun h => ?_)
      · refine tz_iinc 3 [(0, .ref _), (1, .ref _), (2, .ref _)] 6 C dL_law_1049 (by decide) rfl (Nat.le_of_ble_eq_true rfl) rfl h (fun x3_240 h => ?_)
        refine tz_goto 18 C dL_law_1052 (by decide) ?_
        exact tz_sub (ihag_1 _ _ h) [1, 2, 3, 0] rfl
      · refine tz_iconst 0 (by decide) C dL_law_1010 ?_
        exact hret _ _ _ _ dL_law_1011 rfl h
    refine tz_swc 28 (979) 1012 C dL_law_33 (by decide) (by decide) rfl (by decide) h (fun h => ?_) (fun e28 h => ?_)
    · refine tz_aload_n 1 1 C dL_law_1012 rfl rfl ?_
      refine tz_aload_n 0 0 C dL_law_1013 rfl rfl ?_
      refine tz_iload_n 3 3 C dL_law_1014 rfl rfl ?_
      refine tz_iconst 1 (by decide) C dL_law_1015 ?_
      refine tz_iadd C dL_law_1016 ?_
      obtain ⟨hin_241, h⟩ := h
      refine tz_sld C hX dL_law_1017 hin_241 ?_
      refine tz_calliv C dL_law_1018 lk_RL_131 (m_X9_count G hG  h) (by decide) rfl rfl rfl rfl ⟨Nat.le_of_ble_eq_true rfl, Nat.le_of_ble_eq_true rfl⟩ (Nat.le_of_ble_eq_true rfl) rfl (fun r_243 σ_242 h => ?_)
      refine tz_aload_n 2 2 C dL_law_1021 rfl rfl ?_
      refine tz_aload_n 0 0 C dL_law_1022 rfl rfl ?_
      refine tz_iload_n 3 3 C dL_law_1023 rfl rfl ?_
      refine tz_iconst 1 (by decide) C dL_law_1024 ?_
      refine tz_iadd C dL_law_1025 ?_
      obtain ⟨hin_244, h⟩ := h
      refine tz_sld C hX dL_law_1026 hin_244 ?_
      refine tz_calliv C dL_law_1027 lk_RL_134 (m_X10_count G hG  h) (by decide) rfl rfl rfl rfl ⟨Nat.le_of_ble_eq_true rfl, Nat.le_of_ble_eq_true rfl⟩ (Nat.le_of_ble_eq_true rfl) rfl (fun r_246 σ_245 h => ?_)
      refine tz_icmp_eq 1049 C dL_law_1030 (by decide) h (fun h => ?_) (fun h => ?_)
      · refine tz_iinc 3 [(0, .ref _), (1, .ref _), (2, .ref _)] 6 C dL_law_1049 (by decide) rfl (Nat.le_of_ble_eq_true rfl) rfl h (fun x3_247 h => ?_)
        refine tz_goto 18 C dL_law_1052 (by decide) ?_
        exact tz_sub (ihag_1 _ _ h) [1, 2, 3, 0] rfl
      · refine tz_iconst 0 (by decide) C dL_law_1033 ?_
        exact hret _ _ _ _ dL_law_1034 rfl h
    refine tz_swc 29 (1002) 1035 C dL_law_33 (by decide) (by decide) rfl (by decide) h (fun h => ?_) (fun e29 h => ?_)
    · refine tz_aload_n 1 1 C dL_law_1035 rfl rfl ?_
      refine tz_calllv C dL_law_1036 lk_RL_135 (m_X9_digest G hG  h) (by decide) rfl rfl rfl rfl ⟨Nat.le_of_ble_eq_true rfl, Nat.le_of_ble_eq_true rfl⟩ (Nat.le_of_ble_eq_true rfl) rfl (fun r_249 σ_248 h => ?_)
      refine tz_aload_n 2 2 C dL_law_1039 rfl rfl ?_
      refine tz_calllv C dL_law_1040 lk_RL_139 (m_X10_digest G hG  h) (by decide) rfl rfl rfl rfl ⟨Nat.le_of_ble_eq_true rfl, Nat.le_of_ble_eq_true rfl⟩ (Nat.le_of_ble_eq_true rfl) rfl (fun r_251 σ_250 h => ?_)
      refine tz_lcmp C dL_law_1043 ?_
      refine tz_if_eq 1049 C dL_law_1044 (by decide) h (fun h => ?_) (fun h => ?_)
      · refine tz_iinc 3 [(0, .ref _), (1, .ref _), (2, .ref _)] 6 C dL_law_1049 (by decide) rfl (Nat.le_of_ble_eq_true rfl) rfl h (fun x3_252 h => ?_)
        refine tz_goto 18 C dL_law_1052 (by decide) ?_
        exact tz_sub (ihag_1 _ _ h) [1, 2, 3, 0] rfl
      · refine tz_iconst 0 (by decide) C dL_law_1047 ?_
        exact hret _ _ _ _ dL_law_1048 rfl h
    replace h := h e0 e1 e2 e3 e4 e5 e6 e7 e8 e9 e10 e11 e12 e13 e14 e15 e16 e17 e18 e19 e20 e21 e22 e23 e24 e25 e26 e27 e28 e29
    refine tz_tabOut 1049 C dL_law_33 (tz_out29 e0 e1 e2 e3 e4 e5 e6 e7 e8 e9 e10 e11 e12 e13 e14 e15 e16 e17 e18 e19 e20 e21 e22 e23 e24 e25 e26 e27 e28 e29) (by decide) ?_
    refine tz_iinc 3 [(0, .ref _), (1, .ref _), (2, .ref _)] 6 C dL_law_1049 (by decide) rfl (Nat.le_of_ble_eq_true rfl) rfl h (fun x3_253 h => ?_)
    refine tz_goto 18 C dL_law_1052 (by decide) ?_
    exact tz_sub (ihag_1 _ _ h) [1, 2, 3, 0] rfl
