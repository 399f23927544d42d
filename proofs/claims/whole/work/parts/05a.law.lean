def vc_law (Ln : Nat) (xs : Nat → Int32) (σ : tzS) (Q : Int32 → tzS → Prop) : Prop :=
  tz_loop1 (fun (x3_3 : Int32) (σ_2 : tzS) (ag_1 : Int32 → tzS → Prop) =>
    (((Int32.ofNat Ln) - 6) < x3_3 →
      Q 1 σ_2) ∧
    (¬ ((Int32.ofNat Ln) - 6) < x3_3 →
      vp_in x3_3 Ln ∧ (
        (((xs x3_3.toNatClampNeg) &&& 31) = 0 →
          vp_in (x3_3 + 1) Ln ∧ (
            vc_X9_type (xs (x3_3 + 1).toNatClampNeg) σ_2 (fun (r_8 : Int32) (σ_7 : tzS) =>
              vc_X10_type (xs (x3_3 + 1).toNatClampNeg) σ_7 (fun (r_10 : Int32) (σ_9 : tzS) =>
                (r_8 = r_10 →
                  ∀ x3_12 : Int32, x3_12 = x3_3 + 6 →
                  ag_1 x3_12 σ_9) ∧
                (¬ r_8 = r_10 →
                  Q 0 σ_9))))) ∧
        (((xs x3_3.toNatClampNeg) &&& 31) = 1 →
          vc_X9_wipe  σ_2 (fun (r_14 : Int32) (σ_13 : tzS) =>
            vc_X10_wipe  σ_13 (fun (r_16 : Int32) (σ_15 : tzS) =>
              (r_14 = r_16 →
                ∀ x3_18 : Int32, x3_18 = x3_3 + 6 →
                ag_1 x3_18 σ_15) ∧
              (¬ r_14 = r_16 →
                Q 0 σ_15)))) ∧
        (((xs x3_3.toNatClampNeg) &&& 31) = 2 →
          vc_X9_undo  σ_2 (fun (r_20 : Int32) (σ_19 : tzS) =>
            vc_X10_undo  σ_19 (fun (r_22 : Int32) (σ_21 : tzS) =>
              (r_20 = r_22 →
                ∀ x3_24 : Int32, x3_24 = x3_3 + 6 →
                ag_1 x3_24 σ_21) ∧
              (¬ r_20 = r_22 →
                Q 0 σ_21)))) ∧
        (((xs x3_3.toNatClampNeg) &&& 31) = 3 →
          vp_in (x3_3 + 1) Ln ∧ (
            vc_X9_fault (xs (x3_3 + 1).toNatClampNeg) σ_2 (fun (r_27 : Int32) (σ_26 : tzS) =>
              vc_X10_fault (xs (x3_3 + 1).toNatClampNeg) σ_26 (fun (r_29 : Int32) (σ_28 : tzS) =>
                (r_27 = r_29 →
                  ∀ x3_31 : Int32, x3_31 = x3_3 + 6 →
                  ag_1 x3_31 σ_28) ∧
                (¬ r_27 = r_29 →
                  Q 0 σ_28))))) ∧
        (((xs x3_3.toNatClampNeg) &&& 31) = 4 →
          vp_in (x3_3 + 1) Ln ∧ (
            vp_in (x3_3 + 2) Ln ∧ (
              vc_X9_set (xs (x3_3 + 1).toNatClampNeg) (xs (x3_3 + 2).toNatClampNeg) σ_2 (fun (r_35 : Int32) (σ_34 : tzS) =>
                vc_X10_set (xs (x3_3 + 1).toNatClampNeg) (xs (x3_3 + 2).toNatClampNeg) σ_34 (fun (r_37 : Int32) (σ_36 : tzS) =>
                  (r_35 = r_37 →
                    ∀ x3_39 : Int32, x3_39 = x3_3 + 6 →
                    ag_1 x3_39 σ_36) ∧
                  (¬ r_35 = r_37 →
                    Q 0 σ_36)))))) ∧
        (((xs x3_3.toNatClampNeg) &&& 31) = 5 →
          vp_in (x3_3 + 1) Ln ∧ (
            vc_X9_tell (xs (x3_3 + 1).toNatClampNeg) σ_2 (fun (r_42 : Int32) (σ_41 : tzS) =>
              vc_X10_tell (xs (x3_3 + 1).toNatClampNeg) σ_41 (fun (r_44 : Int32) (σ_43 : tzS) =>
                (r_42 = r_44 →
                  ∀ x3_46 : Int32, x3_46 = x3_3 + 6 →
                  ag_1 x3_46 σ_43) ∧
                (¬ r_42 = r_44 →
                  Q 0 σ_43))))) ∧
        (((xs x3_3.toNatClampNeg) &&& 31) = 6 →
          vp_in (x3_3 + 1) Ln ∧ (
            vc_X9_read (xs (x3_3 + 1).toNatClampNeg) σ_2 (fun (r_49 : Int32) (σ_48 : tzS) =>
              vc_X10_read (xs (x3_3 + 1).toNatClampNeg) σ_48 (fun (r_51 : Int32) (σ_50 : tzS) =>
                (r_49 = r_51 →
                  ∀ x3_53 : Int32, x3_53 = x3_3 + 6 →
                  ag_1 x3_53 σ_50) ∧
                (¬ r_49 = r_51 →
                  Q 0 σ_50))))) ∧
        (((xs x3_3.toNatClampNeg) &&& 31) = 7 →
          vp_in (x3_3 + 1) Ln ∧ (
            vp_in (x3_3 + 2) Ln ∧ (
              vc_X9_sentence (xs (x3_3 + 1).toNatClampNeg) (xs (x3_3 + 2).toNatClampNeg) σ_2 (fun (r_57 : Int32) (σ_56 : tzS) =>
                vc_X10_sentence (xs (x3_3 + 1).toNatClampNeg) (xs (x3_3 + 2).toNatClampNeg) σ_56 (fun (r_59 : Int32) (σ_58 : tzS) =>
                  (r_57 = r_59 →
                    ∀ x3_61 : Int32, x3_61 = x3_3 + 6 →
                    ag_1 x3_61 σ_58) ∧
                  (¬ r_57 = r_59 →
                    Q 0 σ_58)))))) ∧
        (((xs x3_3.toNatClampNeg) &&& 31) = 8 →
          vp_in (x3_3 + 1) Ln ∧ (
            vp_in (x3_3 + 2) Ln ∧ (
              vc_X9_word (xs (x3_3 + 1).toNatClampNeg) (xs (x3_3 + 2).toNatClampNeg) σ_2 (fun (r_65 : Int32) (σ_64 : tzS) =>
                vc_X10_word (xs (x3_3 + 1).toNatClampNeg) (xs (x3_3 + 2).toNatClampNeg) σ_64 (fun (r_67 : Int32) (σ_66 : tzS) =>
                  (r_65 = r_67 →
                    ∀ x3_69 : Int32, x3_69 = x3_3 + 6 →
                    ag_1 x3_69 σ_66) ∧
                  (¬ r_65 = r_67 →
                    Q 0 σ_66)))))) ∧
        (((xs x3_3.toNatClampNeg) &&& 31) = 9 →
          vp_in (x3_3 + 1) Ln ∧ (
            vp_in (x3_3 + 2) Ln ∧ (
              vc_X9_stem (xs (x3_3 + 1).toNatClampNeg) (xs (x3_3 + 2).toNatClampNeg) σ_2 (fun (r_73 : Int32) (σ_72 : tzS) =>
                vc_X10_stem (xs (x3_3 + 1).toNatClampNeg) (xs (x3_3 + 2).toNatClampNeg) σ_72 (fun (r_75 : Int32) (σ_74 : tzS) =>
                  (r_73 = r_75 →
                    ∀ x3_77 : Int32, x3_77 = x3_3 + 6 →
                    ag_1 x3_77 σ_74) ∧
                  (¬ r_73 = r_75 →
                    Q 0 σ_74)))))) ∧
        (((xs x3_3.toNatClampNeg) &&& 31) = 10 →
          vp_in (x3_3 + 1) Ln ∧ (
            vp_in (x3_3 + 2) Ln ∧ (
              vc_X9_letter (xs (x3_3 + 1).toNatClampNeg) (xs (x3_3 + 2).toNatClampNeg) σ_2 (fun (r_81 : Int32) (σ_80 : tzS) =>
                vc_X10_letter (xs (x3_3 + 1).toNatClampNeg) (xs (x3_3 + 2).toNatClampNeg) σ_80 (fun (r_83 : Int32) (σ_82 : tzS) =>
                  (r_81 = r_83 →
                    ∀ x3_85 : Int32, x3_85 = x3_3 + 6 →
                    ag_1 x3_85 σ_82) ∧
                  (¬ r_81 = r_83 →
                    Q 0 σ_82)))))) ∧
        (((xs x3_3.toNatClampNeg) &&& 31) = 11 →
          vc_X9_chains  σ_2 (fun (r_87 : Int32) (σ_86 : tzS) =>
            vc_X10_chains  σ_86 (fun (r_89 : Int32) (σ_88 : tzS) =>
              (r_87 = r_89 →
                ∀ x3_91 : Int32, x3_91 = x3_3 + 6 →
                ag_1 x3_91 σ_88) ∧
              (¬ r_87 = r_89 →
                Q 0 σ_88)))) ∧
        (((xs x3_3.toNatClampNeg) &&& 31) = 12 →
          vp_in (x3_3 + 1) Ln ∧ (
            vp_in (x3_3 + 2) Ln ∧ (
              vc_X9_chain (xs (x3_3 + 1).toNatClampNeg) (xs (x3_3 + 2).toNatClampNeg) σ_2 (fun (r_95 : Int32) (σ_94 : tzS) =>
                vc_X10_chain (xs (x3_3 + 1).toNatClampNeg) (xs (x3_3 + 2).toNatClampNeg) σ_94 (fun (r_97 : Int32) (σ_96 : tzS) =>
                  (r_95 = r_97 →
                    ∀ x3_99 : Int32, x3_99 = x3_3 + 6 →
                    ag_1 x3_99 σ_96) ∧
                  (¬ r_95 = r_97 →
                    Q 0 σ_96)))))) ∧
        (((xs x3_3.toNatClampNeg) &&& 31) = 13 →
          vp_in (x3_3 + 1) Ln ∧ (
            vp_in (x3_3 + 2) Ln ∧ (
              vc_X9_over (xs (x3_3 + 1).toNatClampNeg) (xs (x3_3 + 2).toNatClampNeg) σ_2 (fun (r_103 : Int32) (σ_102 : tzS) =>
                vc_X10_over (xs (x3_3 + 1).toNatClampNeg) (xs (x3_3 + 2).toNatClampNeg) σ_102 (fun (r_105 : Int32) (σ_104 : tzS) =>
                  (r_103 = r_105 →
                    ∀ x3_107 : Int32, x3_107 = x3_3 + 6 →
                    ag_1 x3_107 σ_104) ∧
                  (¬ r_103 = r_105 →
                    Q 0 σ_104)))))) ∧
        (((xs x3_3.toNatClampNeg) &&& 31) = 14 →
          vp_in (x3_3 + 1) Ln ∧ (
            vp_in (x3_3 + 2) Ln ∧ (
              vc_X9_cost (xs (x3_3 + 1).toNatClampNeg) (xs (x3_3 + 2).toNatClampNeg) σ_2 (fun (r_111 : Int32) (σ_110 : tzS) =>
                vc_X10_cost (xs (x3_3 + 1).toNatClampNeg) (xs (x3_3 + 2).toNatClampNeg) σ_110 (fun (r_113 : Int32) (σ_112 : tzS) =>
                  (r_111 = r_113 →
                    ∀ x3_115 : Int32, x3_115 = x3_3 + 6 →
                    ag_1 x3_115 σ_112) ∧
                  (¬ r_111 = r_113 →
                    Q 0 σ_112)))))) ∧
        (((xs x3_3.toNatClampNeg) &&& 31) = 15 →
          vp_in (x3_3 + 1) Ln ∧ (
            vc_X9_best (xs (x3_3 + 1).toNatClampNeg) σ_2 (fun (r_118 : Int32) (σ_117 : tzS) =>
              vc_X10_best (xs (x3_3 + 1).toNatClampNeg) σ_117 (fun (r_120 : Int32) (σ_119 : tzS) =>
                (r_118 = r_120 →
                  ∀ x3_122 : Int32, x3_122 = x3_3 + 6 →
                  ag_1 x3_122 σ_119) ∧
                (¬ r_118 = r_120 →
                  Q 0 σ_119))))) ∧
        (((xs x3_3.toNatClampNeg) &&& 31) = 16 →
          vp_in (x3_3 + 1) Ln ∧ (
            vp_in (x3_3 + 2) Ln ∧ (
              vc_X9_seam (xs (x3_3 + 1).toNatClampNeg) (xs (x3_3 + 2).toNatClampNeg) σ_2 (fun (r_126 : Int32) (σ_125 : tzS) =>
                vc_X10_seam (xs (x3_3 + 1).toNatClampNeg) (xs (x3_3 + 2).toNatClampNeg) σ_125 (fun (r_128 : Int32) (σ_127 : tzS) =>
                  (r_126 = r_128 →
                    ∀ x3_130 : Int32, x3_130 = x3_3 + 6 →
                    ag_1 x3_130 σ_127) ∧
                  (¬ r_126 = r_128 →
                    Q 0 σ_127)))))) ∧
        (((xs x3_3.toNatClampNeg) &&& 31) = 17 →
          vc_X9_bent  σ_2 (fun (r_132 : Int32) (σ_131 : tzS) =>
            vc_X10_bent  σ_131 (fun (r_134 : Int32) (σ_133 : tzS) =>
              (r_132 = r_134 →
                ∀ x3_136 : Int32, x3_136 = x3_3 + 6 →
                ag_1 x3_136 σ_133) ∧
              (¬ r_132 = r_134 →
                Q 0 σ_133)))) ∧
        (((xs x3_3.toNatClampNeg) &&& 31) = 18 →
          vp_in (x3_3 + 1) Ln ∧ (
            vp_in (x3_3 + 2) Ln ∧ (
              vc_X9_drop (xs (x3_3 + 1).toNatClampNeg) (xs (x3_3 + 2).toNatClampNeg) σ_2 (fun (r_140 : Int32) (σ_139 : tzS) =>
                vc_X10_drop (xs (x3_3 + 1).toNatClampNeg) (xs (x3_3 + 2).toNatClampNeg) σ_139 (fun (r_142 : Int32) (σ_141 : tzS) =>
                  (r_140 = r_142 →
                    ∀ x3_144 : Int32, x3_144 = x3_3 + 6 →
                    ag_1 x3_144 σ_141) ∧
                  (¬ r_140 = r_142 →
                    Q 0 σ_141)))))) ∧
        (((xs x3_3.toNatClampNeg) &&& 31) = 19 →
          vp_in (x3_3 + 1) Ln ∧ (
            vp_in (x3_3 + 2) Ln ∧ (
              vc_X9_gap (xs (x3_3 + 1).toNatClampNeg) (xs (x3_3 + 2).toNatClampNeg) σ_2 (fun (r_148 : Int32) (σ_147 : tzS) =>
                vc_X10_gap (xs (x3_3 + 1).toNatClampNeg) (xs (x3_3 + 2).toNatClampNeg) σ_147 (fun (r_150 : Int32) (σ_149 : tzS) =>
                  (r_148 = r_150 →
                    ∀ x3_152 : Int32, x3_152 = x3_3 + 6 →
                    ag_1 x3_152 σ_149) ∧
                  (¬ r_148 = r_150 →
                    Q 0 σ_149)))))) ∧
        (((xs x3_3.toNatClampNeg) &&& 31) = 20 →
          vp_in (x3_3 + 1) Ln ∧ (
            vc_X9_deep (xs (x3_3 + 1).toNatClampNeg) σ_2 (fun (r_155 : Int32) (σ_154 : tzS) =>
              vc_X10_deep (xs (x3_3 + 1).toNatClampNeg) σ_154 (fun (r_157 : Int32) (σ_156 : tzS) =>
                (r_155 = r_157 →
                  ∀ x3_159 : Int32, x3_159 = x3_3 + 6 →
                  ag_1 x3_159 σ_156) ∧
                (¬ r_155 = r_157 →
                  Q 0 σ_156))))) ∧
        (((xs x3_3.toNatClampNeg) &&& 31) = 21 →
          vp_in (x3_3 + 1) Ln ∧ (
            vp_in (x3_3 + 2) Ln ∧ (
              vc_X9_apart (xs (x3_3 + 1).toNatClampNeg) (xs (x3_3 + 2).toNatClampNeg) σ_2 (fun (r_163 : Int32) (σ_162 : tzS) =>
                vc_X10_apart (xs (x3_3 + 1).toNatClampNeg) (xs (x3_3 + 2).toNatClampNeg) σ_162 (fun (r_165 : Int32) (σ_164 : tzS) =>
                  (r_163 = r_165 →
                    ∀ x3_167 : Int32, x3_167 = x3_3 + 6 →
                    ag_1 x3_167 σ_164) ∧
                  (¬ r_163 = r_165 →
                    Q 0 σ_164)))))) ∧
        (((xs x3_3.toNatClampNeg) &&& 31) = 22 →
          vp_in (x3_3 + 1) Ln ∧ (
            vp_in (x3_3 + 2) Ln ∧ (
              vp_in (x3_3 + 3) Ln ∧ (
                vc_X9_sheet (xs (x3_3 + 1).toNatClampNeg) (xs (x3_3 + 2).toNatClampNeg) (xs (x3_3 + 3).toNatClampNeg) σ_2 (fun (r_172 : Int32) (σ_171 : tzS) =>
                  vc_X10_sheet (xs (x3_3 + 1).toNatClampNeg) (xs (x3_3 + 2).toNatClampNeg) (xs (x3_3 + 3).toNatClampNeg) σ_171 (fun (r_174 : Int32) (σ_173 : tzS) =>
                    (r_172 = r_174 →
                      ∀ x3_176 : Int32, x3_176 = x3_3 + 6 →
                      ag_1 x3_176 σ_173) ∧
                    (¬ r_172 = r_174 →
                      Q 0 σ_173))))))) ∧
        (((xs x3_3.toNatClampNeg) &&& 31) = 23 →
          vp_in (x3_3 + 1) Ln ∧ (
            vc_X9_lose (xs (x3_3 + 1).toNatClampNeg) σ_2 (fun (r_179 : Int32) (σ_178 : tzS) =>
              vc_X10_lose (xs (x3_3 + 1).toNatClampNeg) σ_178 (fun (r_181 : Int32) (σ_180 : tzS) =>
                (r_179 = r_181 →
                  ∀ x3_183 : Int32, x3_183 = x3_3 + 6 →
                  ag_1 x3_183 σ_180) ∧
                (¬ r_179 = r_181 →
                  Q 0 σ_180))))) ∧
        (((xs x3_3.toNatClampNeg) &&& 31) = 24 →
          vp_in (x3_3 + 1) Ln ∧ (
            vp_in (x3_3 + 2) Ln ∧ (
              vp_in (x3_3 + 3) Ln ∧ (
                vp_in (x3_3 + 4) Ln ∧ (
                  vc_X9_put (xs (x3_3 + 1).toNatClampNeg) (xs (x3_3 + 2).toNatClampNeg) (xs (x3_3 + 3).toNatClampNeg) (xs (x3_3 + 4).toNatClampNeg) σ_2 (fun (r_189 : Int32) (σ_188 : tzS) =>
                    vc_X10_put (xs (x3_3 + 1).toNatClampNeg) (xs (x3_3 + 2).toNatClampNeg) (xs (x3_3 + 3).toNatClampNeg) (xs (x3_3 + 4).toNatClampNeg) σ_188 (fun (r_191 : Int32) (σ_190 : tzS) =>
                      (r_189 = r_191 →
                        ∀ x3_193 : Int32, x3_193 = x3_3 + 6 →
                        ag_1 x3_193 σ_190) ∧
                      (¬ r_189 = r_191 →
                        Q 0 σ_190)))))))) ∧
        (((xs x3_3.toNatClampNeg) &&& 31) = 25 →
          vp_in (x3_3 + 1) Ln ∧ (
            vp_in (x3_3 + 2) Ln ∧ (
              vp_in (x3_3 + 3) Ln ∧ (
                vc_X9_get (xs (x3_3 + 1).toNatClampNeg) (xs (x3_3 + 2).toNatClampNeg) (xs (x3_3 + 3).toNatClampNeg) σ_2 (fun (r_198 : Int32) (σ_197 : tzS) =>
                  vc_X10_get (xs (x3_3 + 1).toNatClampNeg) (xs (x3_3 + 2).toNatClampNeg) (xs (x3_3 + 3).toNatClampNeg) σ_197 (fun (r_200 : Int32) (σ_199 : tzS) =>
                    (r_198 = r_200 →
                      ∀ x3_202 : Int32, x3_202 = x3_3 + 6 →
                      ag_1 x3_202 σ_199) ∧
                    (¬ r_198 = r_200 →
                      Q 0 σ_199))))))) ∧
        (((xs x3_3.toNatClampNeg) &&& 31) = 26 →
          vp_in (x3_3 + 1) Ln ∧ (
            vp_in (x3_3 + 2) Ln ∧ (
              vp_in (x3_3 + 3) Ln ∧ (
                vp_in (x3_3 + 4) Ln ∧ (
                  vp_in (x3_3 + 5) Ln ∧ (
                    vc_X9_copy (xs (x3_3 + 1).toNatClampNeg) (xs (x3_3 + 2).toNatClampNeg) (xs (x3_3 + 3).toNatClampNeg) (xs (x3_3 + 4).toNatClampNeg) (xs (x3_3 + 5).toNatClampNeg) σ_2 (fun (r_209 : Int32) (σ_208 : tzS) =>
                      vc_X10_copy (xs (x3_3 + 1).toNatClampNeg) (xs (x3_3 + 2).toNatClampNeg) (xs (x3_3 + 3).toNatClampNeg) (xs (x3_3 + 4).toNatClampNeg) (xs (x3_3 + 5).toNatClampNeg) σ_208 (fun (r_211 : Int32) (σ_210 : tzS) =>
                        (r_209 = r_211 →
                          ∀ x3_213 : Int32, x3_213 = x3_3 + 6 →
                          ag_1 x3_213 σ_210) ∧
                        (¬ r_209 = r_211 →
                          Q 0 σ_210))))))))) ∧
        (((xs x3_3.toNatClampNeg) &&& 31) = 27 →
          vp_in (x3_3 + 1) Ln ∧ (
            vp_in (x3_3 + 2) Ln ∧ (
              vc_X9_write (xs (x3_3 + 1).toNatClampNeg) (xs (x3_3 + 2).toNatClampNeg) σ_2 (fun (r_217 : Int32) (σ_216 : tzS) =>
                vc_X10_write (xs (x3_3 + 1).toNatClampNeg) (xs (x3_3 + 2).toNatClampNeg) σ_216 (fun (r_219 : Int32) (σ_218 : tzS) =>
                  (r_217 = r_219 →
                    ∀ x3_221 : Int32, x3_221 = x3_3 + 6 →
                    ag_1 x3_221 σ_218) ∧
                  (¬ r_217 = r_219 →
                    Q 0 σ_218)))))) ∧
        (((xs x3_3.toNatClampNeg) &&& 31) = 28 →
          vp_in (x3_3 + 1) Ln ∧ (
            vc_X9_count (xs (x3_3 + 1).toNatClampNeg) σ_2 (fun (r_224 : Int32) (σ_223 : tzS) =>
              vc_X10_count (xs (x3_3 + 1).toNatClampNeg) σ_223 (fun (r_226 : Int32) (σ_225 : tzS) =>
                (r_224 = r_226 →
                  ∀ x3_228 : Int32, x3_228 = x3_3 + 6 →
                  ag_1 x3_228 σ_225) ∧
                (¬ r_224 = r_226 →
                  Q 0 σ_225))))) ∧
        (((xs x3_3.toNatClampNeg) &&& 31) = 29 →
          vc_X9_digest  σ_2 (fun (r_230 : Int64) (σ_229 : tzS) =>
            vc_X10_digest  σ_229 (fun (r_232 : Int64) (σ_231 : tzS) =>
              ((lg_cmp r_230 r_232) = 0 →
                ∀ x3_234 : Int32, x3_234 = x3_3 + 6 →
                ag_1 x3_234 σ_231) ∧
              (¬ (lg_cmp r_230 r_232) = 0 →
                Q 0 σ_231)))) ∧
        (¬ ((xs x3_3.toNatClampNeg) &&& 31) = 0 → ¬ ((xs x3_3.toNatClampNeg) &&& 31) = 1 → ¬ ((xs x3_3.toNatClampNeg) &&& 31) = 2 → ¬ ((xs x3_3.toNatClampNeg) &&& 31) = 3 → ¬ ((xs x3_3.toNatClampNeg) &&& 31) = 4 → ¬ ((xs x3_3.toNatClampNeg) &&& 31) = 5 → ¬ ((xs x3_3.toNatClampNeg) &&& 31) = 6 → ¬ ((xs x3_3.toNatClampNeg) &&& 31) = 7 → ¬ ((xs x3_3.toNatClampNeg) &&& 31) = 8 → ¬ ((xs x3_3.toNatClampNeg) &&& 31) = 9 → ¬ ((xs x3_3.toNatClampNeg) &&& 31) = 10 → ¬ ((xs x3_3.toNatClampNeg) &&& 31) = 11 → ¬ ((xs x3_3.toNatClampNeg) &&& 31) = 12 → ¬ ((xs x3_3.toNatClampNeg) &&& 31) = 13 → ¬ ((xs x3_3.toNatClampNeg) &&& 31) = 14 → ¬ ((xs x3_3.toNatClampNeg) &&& 31) = 15 → ¬ ((xs x3_3.toNatClampNeg) &&& 31) = 16 → ¬ ((xs x3_3.toNatClampNeg) &&& 31) = 17 → ¬ ((xs x3_3.toNatClampNeg) &&& 31) = 18 → ¬ ((xs x3_3.toNatClampNeg) &&& 31) = 19 → ¬ ((xs x3_3.toNatClampNeg) &&& 31) = 20 → ¬ ((xs x3_3.toNatClampNeg) &&& 31) = 21 → ¬ ((xs x3_3.toNatClampNeg) &&& 31) = 22 → ¬ ((xs x3_3.toNatClampNeg) &&& 31) = 23 → ¬ ((xs x3_3.toNatClampNeg) &&& 31) = 24 → ¬ ((xs x3_3.toNatClampNeg) &&& 31) = 25 → ¬ ((xs x3_3.toNatClampNeg) &&& 31) = 26 → ¬ ((xs x3_3.toNatClampNeg) &&& 31) = 27 → ¬ ((xs x3_3.toNatClampNeg) &&& 31) = 28 → ¬ ((xs x3_3.toNatClampNeg) &&& 31) = 29 →
          ∀ x3_235 : Int32, x3_235 = x3_3 + 6 →
          ag_1 x3_235 σ_2)))) (0 : Int32) σ
set_option maxRecDepth 20000 in
set_option maxHeartbeats 4000000 in
theorem m_law (G : tzG) (hG : tz_ok G) {E : tzE} (C : tz_C G E cL_law RL 4 9 219) {Ln : Nat} {xs : Nat → Int32} (hX : tz_X G E Ln xs) {σ : tzS} {Q : Int32 → tzS → Prop} (hret : ∀ (pc : Nat) (L : List (Nat × Value)) (r : Int32) (σ : tzS), decode cL_law pc = .ok (.ireturn, 1) → narrow .boolean (.int r) = .int r → Q r σ → tz_V G E pc L [.int r] σ) (h : vc_law Ln xs σ Q) : tz_V G E 16 [(0, .ref 1002), (1, .ref 0), (2, .ref 133)] [] σ := by
  unfold vc_law at h
  refine tz_iconst 0 (by decide) C dL_law_16 ?_
  refine tz_istore_n_k 3 [(0, .ref 1002), (1, .ref 0), (2, .ref 133)] C dL_law_17 rfl (Nat.le_of_ble_eq_true rfl) rfl ?_
  refine tz_sub (L := [(0, .ref 1002), (1, .ref 0), (2, .ref 133), (3, .int 0)]) ?_ [1, 2, 3, 0] rfl
  refine tz_loop1_w (V := fun (x3_3 : Int32) (σ_2 : tzS) => tz_V G E 18 [(0, .ref 1002), (1, .ref 0), (2, .ref 133), (3, .int x3_3)] [] σ_2) h (fun ag_1 ihag_1 x3_3 σ_2 h => ?_)
  refine tz_iload_n 3 3 C dL_law_18 rfl rfl ?_
  refine tz_aload_n 0 0 C dL_law_19 rfl rfl ?_
  refine tz_slen C hX dL_law_20 ?_
  refine tz_bipush 6 (by decide) C dL_law_21 ?_
  refine tz_isub C dL_law_23 ?_
  refine tz_icmp_gt 1055 C dL_law_24 (by decide) h (fun c_4 h => ?_) (fun c_4 h => ?_)
  · refine tz_iconst 1 (by decide) C dL_law_1055 ?_
    exact hret _ _ _ _ dL_law_1056 rfl h
  · refine tz_aload_n 0 0 C dL_law_27 rfl rfl ?_
    refine tz_iload_n 3 3 C dL_law_28 rfl rfl ?_
    obtain ⟨hin_5, h⟩ := h
    refine tz_sld C hX dL_law_29 hin_5 ?_
    refine tz_bipush 31 (by decide) C dL_law_30 ?_
    refine tz_iand C dL_law_32 ?_
    refine tz_swc 0 (135) 168 C dL_law_33 (by decide) (by decide) rfl (by decide) h (fun h => ?_) (fun e0 h => ?_)
    · refine tz_aload_n 1 1 C dL_law_168 rfl rfl ?_
      refine tz_aload_n 0 0 C dL_law_169 rfl rfl ?_
      refine tz_iload_n 3 3 C dL_law_170 rfl rfl ?_
      refine tz_iconst 1 (by decide) C dL_law_171 ?_
      refine tz_iadd C dL_law_172 ?_
      obtain ⟨hin_6, h⟩ := h
      refine tz_sld C hX dL_law_173 hin_6 ?_
      refine tz_calliv C dL_law_174 lk_RL_13 (m_X9_type G hG  h) (by decide) rfl rfl rfl rfl ⟨Nat.le_of_ble_eq_true rfl, Nat.le_of_ble_eq_true rfl⟩ (Nat.le_of_ble_eq_true rfl) rfl (fun r_8 σ_7 h => ?_)
      refine tz_aload_n 2 2 C dL_law_177 rfl rfl ?_
      refine tz_aload_n 0 0 C dL_law_178 rfl rfl ?_
      refine tz_iload_n 3 3 C dL_law_179 rfl rfl ?_
      refine tz_iconst 1 (by decide) C dL_law_180 ?_
      refine tz_iadd C dL_law_181 ?_
      refine tz_sld C hX dL_law_182 hin_6 ?_
      refine tz_calliv C dL_law_183 lk_RL_17 (m_X10_type G hG  h) (by decide) rfl rfl rfl rfl ⟨Nat.le_of_ble_eq_true rfl, Nat.le_of_ble_eq_true rfl⟩ (Nat.le_of_ble_eq_true rfl) rfl (fun r_10 σ_9 h => ?_)
      refine tz_icmp_eq 1049 C dL_law_186 (by decide) h (fun c_11 h => ?_) (fun c_11 h => ?_)
      · refine tz_iinc 3 [(0, .ref 1002), (1, .ref 0), (2, .ref 133)] 6 C dL_law_1049 (by decide) rfl (Nat.le_of_ble_eq_true rfl) rfl h (fun x3_12 h => ?_)
        refine tz_goto 18 C dL_law_1052 (by decide) ?_
        exact tz_sub (ihag_1 _ _ h) [1, 2, 3, 0] rfl
      · refine tz_iconst 0 (by decide) C dL_law_189 ?_
        exact hret _ _ _ _ dL_law_190 rfl h
    refine tz_swc 1 (158) 191 C dL_law_33 (by decide) (by decide) rfl (by decide) h (fun h => ?_) (fun e1 h => ?_)
    · refine tz_aload_n 1 1 C dL_law_191 rfl rfl ?_
      refine tz_calliv C dL_law_192 lk_RL_18 (m_X9_wipe G hG  h) (by decide) rfl rfl rfl rfl ⟨Nat.le_of_ble_eq_true rfl, Nat.le_of_ble_eq_true rfl⟩ (Nat.le_of_ble_eq_true rfl) rfl (fun r_14 σ_13 h => ?_)
      refine tz_aload_n 2 2 C dL_law_195 rfl rfl ?_
      refine tz_calliv C dL_law_196 lk_RL_22 (m_X10_wipe G hG  h) (by decide) rfl rfl rfl rfl ⟨Nat.le_of_ble_eq_true rfl, Nat.le_of_ble_eq_true rfl⟩ (Nat.le_of_ble_eq_true rfl) rfl (fun r_16 σ_15 h => ?_)
      refine tz_icmp_eq 1049 C dL_law_199 (by decide) h (fun c_17 h => ?_) (fun c_17 h => ?_)
      · refine tz_iinc 3 [(0, .ref 1002), (1, .ref 0), (2, .ref 133)] 6 C dL_law_1049 (by decide) rfl (Nat.le_of_ble_eq_true rfl) rfl h (fun x3_18 h => ?_)
        refine tz_goto 18 C dL_law_1052 (by decide) ?_
        exact tz_sub (ihag_1 _ _ h) [1, 2, 3, 0] rfl
      · refine tz_iconst 0 (by decide) C dL_law_202 ?_
        exact hret _ _ _ _ dL_law_203 rfl h
    refine tz_swc 2 (171) 204 C dL_law_33 (by decide) (by decide) rfl (by decide) h (fun h => ?_) (fun e2 h => ?_)
    · refine tz_aload_n 1 1 C dL_law_204 rfl rfl ?_
      refine tz_calliv C dL_law_205 lk_RL_23 (m_X9_undo G hG  h) (by decide) rfl rfl rfl rfl ⟨Nat.le_of_ble_eq_true rfl, Nat.le_of_ble_eq_true rfl⟩ (Nat.le_of_ble_eq_true rfl) rfl (fun r_20 σ_19 h => ?_)
      refine tz_aload_n 2 2 C dL_law_208 rfl rfl ?_
      refine tz_calliv C dL_law_209 lk_RL_26 (m_X10_undo G hG  h) (by decide) rfl rfl rfl rfl ⟨Nat.le_of_ble_eq_true rfl, Nat.le_of_ble_eq_true rfl⟩ (Nat.le_of_ble_eq_true rfl) rfl (fun r_22 σ_21 h => ?_)
      refine tz_icmp_eq 1049 C dL_law_212 (by decide) h (fun c_23 h => ?_) (fun c_23 h => ?_)
      · refine tz_iinc 3 [(0, .ref 1002), (1, .ref 0), (2, .ref 133)] 6 C dL_law_1049 (by decide) rfl (Nat.le_of_ble_eq_true rfl) rfl h (fun x3_24 h => ?_)
        refine tz_goto 18 C dL_law_1052 (by decide) ?_
        exact tz_sub (ihag_1 _ _ h) [1, 2, 3, 0] rfl
      · refine tz_iconst 0 (by decide) C dL_law_215 ?_
        exact hret _ _ _ _ dL_law_216 rfl h
    refine tz_swc 3 (184) 217 C dL_law_33 (by decide) (by decide) rfl (by decide) h (fun h => ?_) (fun e3 h => ?_)
    · refine tz_aload_n 1 1 C dL_law_217 rfl rfl ?_
      refine tz_aload_n 0 0 C dL_law_218 rfl rfl ?_
      refine tz_iload_n 3 3 C dL_law_219 rfl rfl ?_
      refine tz_iconst 1 (by decide) C dL_law_220 ?_
      refine tz_iadd C dL_law_221 ?_
      obtain ⟨hin_25, h⟩ := h
      refine tz_sld C hX dL_law_222 hin_25 ?_
      refine tz_calliv C dL_law_223 lk_RL_27 (m_X9_fault G hG  h) (by decide) rfl rfl rfl rfl ⟨Nat.le_of_ble_eq_true rfl, Nat.le_of_ble_eq_true rfl⟩ (Nat.le_of_ble_eq_true rfl) rfl (fun r_27 σ_26 h => ?_)
      refine tz_aload_n 2 2 C dL_law_226 rfl rfl ?_
      refine tz_aload_n 0 0 C dL_law_227 rfl rfl ?_
      refine tz_iload_n 3 3 C dL_law_228 rfl rfl ?_
      refine tz_iconst 1 (by decide) C dL_law_229 ?_
      refine tz_iadd C dL_law_230 ?_
      refine tz_sld C hX dL_law_231 hin_25 ?_
      refine tz_calliv C dL_law_232 lk_RL_30 (m_X10_fault G hG  h) (by decide) rfl rfl rfl rfl ⟨Nat.le_of_ble_eq_true rfl, Nat.le_of_ble_eq_true rfl⟩ (Nat.le_of_ble_eq_true rfl) rfl (fun r_29 σ_28 h => ?_)
      refine tz_icmp_eq 1049 C dL_law_235 (by decide) h (fun c_30 h => ?_) (fun c_30 h => ?_)
      · refine tz_iinc 3 [(0, .ref 1002), (1, .ref 0), (2, .ref 133)] 6 C dL_law_1049 (by decide) rfl (Nat.le_of_ble_eq_true rfl) rfl h (fun x3_31 h => ?_)
        refine tz_goto 18 C dL_law_1052 (by decide) ?_
        exact tz_sub (ihag_1 _ _ h) [1, 2, 3, 0] rfl
      · refine tz_iconst 0 (by decide) C dL_law_238 ?_
        exact hret _ _ _ _ dL_law_239 rfl h
    refine tz_swc 4 (207) 240 C dL_law_33 (by decide) (by decide) rfl (by decide) h (fun h => ?_) (fun e4 h => ?_)
    · refine tz_aload_n 1 1 C dL_law_240 rfl rfl ?_
      refine tz_aload_n 0 0 C dL_law_241 rfl rfl ?_
      refine tz_iload_n 3 3 C dL_law_242 rfl rfl ?_
      refine tz_iconst 1 (by decide) C dL_law_243 ?_
      refine tz_iadd C dL_law_244 ?_
      obtain ⟨hin_32, h⟩ := h
      refine tz_sld C hX dL_law_245 hin_32 ?_
      refine tz_aload_n 0 0 C dL_law_246 rfl rfl ?_
      refine tz_iload_n 3 3 C dL_law_247 rfl rfl ?_
      refine tz_iconst 2 (by decide) C dL_law_248 ?_
      refine tz_iadd C dL_law_249 ?_
      obtain ⟨hin_33, h⟩ := h
      refine tz_sld C hX dL_law_250 hin_33 ?_
      refine tz_calliv C dL_law_251 lk_RL_31 (m_X9_set G hG  h) (by decide) rfl rfl rfl rfl ⟨Nat.le_of_ble_eq_true rfl, Nat.le_of_ble_eq_true rfl⟩ (Nat.le_of_ble_eq_true rfl) rfl (fun r_35 σ_34 h => ?_)
      refine tz_aload_n 2 2 C dL_law_254 rfl rfl ?_
      refine tz_aload_n 0 0 C dL_law_255 rfl rfl ?_
      refine tz_iload_n 3 3 C dL_law_256 rfl rfl ?_
      refine tz_iconst 1 (by decide) C dL_law_257 ?_
      refine tz_iadd C dL_law_258 ?_
      refine tz_sld C hX dL_law_259 hin_32 ?_
      refine tz_aload_n 0 0 C dL_law_260 rfl rfl ?_
      refine tz_iload_n 3 3 C dL_law_261 rfl rfl ?_
      refine tz_iconst 2 (by decide) C dL_law_262 ?_
      refine tz_iadd C dL_law_263 ?_
      refine tz_sld C hX dL_law_264 hin_33 ?_
      refine tz_calliv C dL_law_265 lk_RL_35 (m_X10_set G hG  h) (by decide) rfl rfl rfl rfl ⟨Nat.le_of_ble_eq_true rfl, Nat.le_of_ble_eq_true rfl⟩ (Nat.le_of_ble_eq_true rfl) rfl (fun r_37 σ_36 h => ?_)
      refine tz_icmp_eq 1049 C dL_law_268 (by decide) h (fun c_38 h => ?_) (fun c_38 h => ?_)
      · refine tz_iinc 3 [(0, .ref 1002), (1, .ref 0), (2, .ref 133)] 6 C dL_law_1049 (by decide) rfl (Nat.le_of_ble_eq_true rfl) rfl h (fun x3_39 h => ?_)
        refine tz_goto 18 C dL_law_1052 (by decide) ?_
        exact tz_sub (ihag_1 _ _ h) [1, 2, 3, 0] rfl
      · refine tz_iconst 0 (by decide) C dL_law_271 ?_
        exact hret _ _ _ _ dL_law_272 rfl h
    refine tz_swc 5 (240) 273 C dL_law_33 (by decide) (by decide) rfl (by decide) h (fun h => ?_) (fun e5 h => ?_)
    · refine tz_aload_n 1 1 C dL_law_273 rfl rfl ?_
      refine tz_aload_n 0 0 C dL_law_274 rfl rfl ?_
      refine tz_iload_n 3 3 C dL_law_275 rfl rfl ?_
      refine tz_iconst 1 (by decide) C dL_law_276 ?_
      refine tz_iadd C dL_law_277 ?_
      obtain ⟨hin_40, h⟩ := h
      refine tz_sld C hX dL_law_278 hin_40 ?_
      refine tz_calliv C dL_law_279 lk_RL_36 (m_X9_tell G hG  h) (by decide) rfl rfl rfl rfl ⟨Nat.le_of_ble_eq_true rfl, Nat.le_of_ble_eq_true rfl⟩ (Nat.le_of_ble_eq_true rfl) rfl (fun r_42 σ_41 h => ?_)
      refine tz_aload_n 2 2 C dL_law_282 rfl rfl ?_
      refine tz_aload_n 0 0 C dL_law_283 rfl rfl ?_
      refine tz_iload_n 3 3 C dL_law_284 rfl rfl ?_
      refine tz_iconst 1 (by decide) C dL_law_285 ?_
      refine tz_iadd C dL_law_286 ?_
      refine tz_sld C hX dL_law_287 hin_40 ?_
      refine tz_calliv C dL_law_288 lk_RL_39 (m_X10_tell G hG  h) (by decide) rfl rfl rfl rfl ⟨Nat.le_of_ble_eq_true rfl, Nat.le_of_ble_eq_true rfl⟩ (Nat.le_of_ble_eq_true rfl) rfl (fun r_44 σ_43 h => ?_)
      refine tz_icmp_eq 1049 C dL_law_291 (by decide) h (fun c_45 h => ?_) (fun c_45 h => ?_)
      · refine tz_iinc 3 [(0, .ref 1002), (1, .ref 0), (2, .ref 133)] 6 C dL_law_1049 (by decide) rfl (Nat.le_of_ble_eq_true rfl) rfl h (fun x3_46 h => ?_)
        refine tz_goto 18 C dL_law_1052 (by decide) ?_
        exact tz_sub (ihag_1 _ _ h) [1, 2, 3, 0] rfl
      · refine tz_iconst 0 (by decide) C dL_law_294 ?_
        exact hret _ _ _ _ dL_law_295 rfl h
    refine tz_swc 6 (263) 296 C dL_law_33 (by decide) (by decide) rfl (by decide) h (fun h => ?_) (fun e6 h => ?_)
    · refine tz_aload_n 1 1 C dL_law_296 rfl rfl ?_
      refine tz_aload_n 0 0 C dL_law_297 rfl rfl ?_
      refine tz_iload_n 3 3 C dL_law_298 rfl rfl ?_
      refine tz_iconst 1 (by decide) C dL_law_299 ?_
      refine tz_iadd C dL_law_300 ?_
      obtain ⟨hin_47, h⟩ := h
      refine tz_sld C hX dL_law_301 hin_47 ?_
      refine tz_calliv C dL_law_302 lk_RL_40 (m_X9_read G hG  h) (by decide) rfl rfl rfl rfl ⟨Nat.le_of_ble_eq_true rfl, Nat.le_of_ble_eq_true rfl⟩ (Nat.le_of_ble_eq_true rfl) rfl (fun r_49 σ_48 h => ?_)
      refine tz_aload_n 2 2 C dL_law_305 rfl rfl ?_
      refine tz_aload_n 0 0 C dL_law_306 rfl rfl ?_
      refine tz_iload_n 3 3 C dL_law_307 rfl rfl ?_
      refine tz_iconst 1 (by decide) C dL_law_308 ?_
      refine tz_iadd C dL_law_309 ?_
      refine tz_sld C hX dL_law_310 hin_47 ?_
      refine tz_calliv C dL_law_311 lk_RL_43 (m_X10_read G hG  h) (by decide) rfl rfl rfl rfl ⟨Nat.le_of_ble_eq_true rfl, Nat.le_of_ble_eq_true rfl⟩ (Nat.le_of_ble_eq_true rfl) rfl (fun r_51 σ_50 h => ?_)
      refine tz_icmp_eq 1049 C dL_law_314 (by decide) h (fun c_52 h => ?_) (fun c_52 h => ?_)
      · refine tz_iinc 3 [(0, .ref 1002), (1, .ref 0), (2, .ref 133)] 6 C dL_law_1049 (by decide) rfl (Nat.le_of_ble_eq_true rfl) rfl h (fun x3_53 h => ?_)
        refine tz_goto 18 C dL_law_1052 (by decide) ?_
        exact tz_sub (ihag_1 _ _ h) [1, 2, 3, 0] rfl
      · refine tz_iconst 0 (by decide) C dL_law_317 ?_
        exact hret _ _ _ _ dL_law_318 rfl h
    refine tz_swc 7 (286) 319 C dL_law_33 (by decide) (by decide) rfl (by decide) h (fun h => ?_) (fun e7 h => ?_)
    · refine tz_aload_n 1 1 C dL_law_319 rfl rfl ?_
      refine tz_aload_n 0 0 C dL_law_320 rfl rfl ?_
      refine tz_iload_n 3 3 C dL_law_321 rfl rfl ?_
      refine tz_iconst 1 (by decide) C dL_law_322 ?_
      refine tz_iadd C dL_law_323 ?_
      obtain ⟨hin_54, h⟩ := h
      refine tz_sld C hX dL_law_324 hin_54 ?_
      refine tz_aload_n 0 0 C dL_law_325 rfl rfl ?_
      refine tz_iload_n 3 3 C dL_law_326 rfl rfl ?_
      refine tz_iconst 2 (by decide) C dL_law_327 ?_
      refine tz_iadd C dL_law_328 ?_
      obtain ⟨hin_55, h⟩ := h
      refine tz_sld C hX dL_law_329 hin_55 ?_
      refine tz_calliv C dL_law_330 lk_RL_44 (m_X9_sentence G hG  h) (by decide) rfl rfl rfl rfl ⟨Nat.le_of_ble_eq_true rfl, Nat.le_of_ble_eq_true rfl⟩ (Nat.le_of_ble_eq_true rfl) rfl (fun r_57 σ_56 h => ?_)
      refine tz_aload_n 2 2 C dL_law_333 rfl rfl ?_
      refine tz_aload_n 0 0 C dL_law_334 rfl rfl ?_
      refine tz_iload_n 3 3 C dL_law_335 rfl rfl ?_
      refine tz_iconst 1 (by decide) C dL_law_336 ?_
      refine tz_iadd C dL_law_337 ?_
      refine tz_sld C hX dL_law_338 hin_54 ?_
      refine tz_aload_n 0 0 C dL_law_339 rfl rfl ?_
      refine tz_iload_n 3 3 C dL_law_340 rfl rfl ?_
      refine tz_iconst 2 (by decide) C dL_law_341 ?_
      refine tz_iadd C dL_law_342 ?_
      refine tz_sld C hX dL_law_343 hin_55 ?_
      refine tz_calliv C dL_law_344 lk_RL_47 (m_X10_sentence G hG  h) (by decide) rfl rfl rfl rfl ⟨Nat.le_of_ble_eq_true rfl, Nat.le_of_ble_eq_true rfl⟩ (Nat.le_of_ble_eq_true rfl) rfl (fun r_59 σ_58 h => ?_)
      refine tz_icmp_eq 1049 C dL_law_347 (by decide) h (fun c_60 h => ?_) (fun c_60 h => ?_)
      · refine tz_iinc 3 [(0, .ref 1002), (1, .ref 0), (2, .ref 133)] 6 C dL_law_1049 (by decide) rfl (Nat.le_of_ble_eq_true rfl) rfl h (fun x3_61 h => ?_)
        refine tz_goto 18 C dL_law_1052 (by decide) ?_
        exact tz_sub (ihag_1 _ _ h) [1, 2, 3, 0] rfl
      · refine tz_iconst 0 (by decide) C dL_law_350 ?_
        exact hret _ _ _ _ dL_law_351 rfl h
    refine tz_swc 8 (319) 352 C dL_law_33 (by decide) (by decide) rfl (by decide) h (fun h => ?_) (fun e8 h => ?_)
    · refine tz_aload_n 1 1 C dL_law_352 rfl rfl ?_
      refine tz_aload_n 0 0 C dL_law_353 rfl rfl ?_
      refine tz_iload_n 3 3 C dL_law_354 rfl rfl ?_
      refine tz_iconst 1 (by decide) C dL_law_355 ?_
      refine tz_iadd C dL_law_356 ?_
      obtain ⟨hin_62, h⟩ := h
      refine tz_sld C hX dL_law_357 hin_62 ?_
      refine tz_aload_n 0 0 C dL_law_358 rfl rfl ?_
      refine tz_iload_n 3 3 C dL_law_359 rfl rfl ?_
      refine tz_iconst 2 (by decide) C dL_law_360 ?_
      refine tz_iadd C dL_law_361 ?_
      obtain ⟨hin_63, h⟩ := h
      refine tz_sld C hX dL_law_362 hin_63 ?_
      refine tz_calliv C dL_law_363 lk_RL_48 (m_X9_word G hG  h) (by decide) rfl rfl rfl rfl ⟨Nat.le_of_ble_eq_true rfl, Nat.le_of_ble_eq_true rfl⟩ (Nat.le_of_ble_eq_true rfl) rfl (fun r_65 σ_64 h => ?_)
      refine tz_aload_n 2 2 C dL_law_366 rfl rfl ?_
      refine tz_aload_n 0 0 C dL_law_367 rfl rfl ?_
      refine tz_iload_n 3 3 C dL_law_368 rfl rfl ?_
      refine tz_iconst 1 (by decide) C dL_law_369 ?_
      refine tz_iadd C dL_law_370 ?_
      refine tz_sld C hX dL_law_371 hin_62 ?_
      refine tz_aload_n 0 0 C dL_law_372 rfl rfl ?_
      refine tz_iload_n 3 3 C dL_law_373 rfl rfl ?_
      refine tz_iconst 2 (by decide) C dL_law_374 ?_
      refine tz_iadd C dL_law_375 ?_
      refine tz_sld C hX dL_law_376 hin_63 ?_
      refine tz_calliv C dL_law_377 lk_RL_51 (m_X10_word G hG  h) (by decide) rfl rfl rfl rfl ⟨Nat.le_of_ble_eq_true rfl, Nat.le_of_ble_eq_true rfl⟩ (Nat.le_of_ble_eq_true rfl) rfl (fun r_67 σ_66 h => ?_)
      refine tz_icmp_eq 1049 C dL_law_380 (by decide) h (fun c_68 h => ?_) (fun c_68 h => ?_)
      · refine tz_iinc 3 [(0, .ref 1002), (1, .ref 0), (2, .ref 133)] 6 C dL_law_1049 (by decide) rfl (Nat.le_of_ble_eq_true rfl) rfl h (fun x3_69 h => ?_)
        refine tz_goto 18 C dL_law_1052 (by decide) ?_
        exact tz_sub (ihag_1 _ _ h) [1, 2, 3, 0] rfl
      · refine tz_iconst 0 (by decide) C dL_law_383 ?_
        exact hret _ _ _ _ dL_law_384 rfl h
    refine tz_swc 9 (352) 385 C dL_law_33 (by decide) (by decide) rfl (by decide) h (fun h => ?_) (fun e9 h => ?_)
    · refine tz_aload_n 1 1 C dL_law_385 rfl rfl ?_
      refine tz_aload_n 0 0 C dL_law_386 rfl rfl ?_
      refine tz_iload_n 3 3 C dL_law_387 rfl rfl ?_
      refine tz_iconst 1 (by decide) C dL_law_388 ?_
      refine tz_iadd C dL_law_389 ?_
      obtain ⟨hin_70, h⟩ := h
      refine tz_sld C hX dL_law_390 hin_70 ?_
      refine tz_aload_n 0 0 C dL_law_391 rfl rfl ?_
      refine tz_iload_n 3 3 C dL_law_392 rfl rfl ?_
      refine tz_iconst 2 (by decide) C dL_law_393 ?_
      refine tz_iadd C dL_law_394 ?_
      obtain ⟨hin_71, h⟩ := h
      refine tz_sld C hX dL_law_395 hin_71 ?_
      refine tz_calliv C dL_law_396 lk_RL_52 (m_X9_stem G hG  h) (by decide) rfl rfl rfl rfl ⟨Nat.le_of_ble_eq_true rfl, Nat.le_of_ble_eq_true rfl⟩ (Nat.le_of_ble_eq_true rfl) rfl (fun r_73 σ_72 h => ?_)
      refine tz_aload_n 2 2 C dL_law_399 rfl rfl ?_
      refine tz_aload_n 0 0 C dL_law_400 rfl rfl ?_
      refine tz_iload_n 3 3 C dL_law_401 rfl rfl ?_
      refine tz_iconst 1 (by decide) C dL_law_402 ?_
      refine tz_iadd C dL_law_403 ?_
      refine tz_sld C hX dL_law_404 hin_70 ?_
      refine tz_aload_n 0 0 C dL_law_405 rfl rfl ?_
      refine tz_iload_n 3 3 C dL_law_406 rfl rfl ?_
      refine tz_iconst 2 (by decide) C dL_law_407 ?_
      refine tz_iadd C dL_law_408 ?_
      refine tz_sld C hX dL_law_409 hin_71 ?_
      refine tz_calliv C dL_law_410 lk_RL_55 (m_X10_stem G hG  h) (by decide) rfl rfl rfl rfl ⟨Nat.le_of_ble_eq_true rfl, Nat.le_of_ble_eq_true rfl⟩ (Nat.le_of_ble_eq_true rfl) rfl (fun r_75 σ_74 h => ?_)
      refine tz_icmp_eq 1049 C dL_law_413 (by decide) h (fun c_76 h => ?_) (fun c_76 h => ?_)
      · refine tz_iinc 3 [(0, .ref 1002), (1, .ref 0), (2, .ref 133)] 6 C dL_law_1049 (by decide) rfl (Nat.le_of_ble_eq_true rfl) rfl h (fun x3_77 h => ?_)
        refine tz_goto 18 C dL_law_1052 (by decide) ?_
        exact tz_sub (ihag_1 _ _ h) [1, 2, 3, 0] rfl
      · refine tz_iconst 0 (by decide) C dL_law_416 ?_
        exact hret _ _ _ _ dL_law_417 rfl h
    refine tz_swc 10 (385) 418 C dL_law_33 (by decide) (by decide) rfl (by decide) h (fun h => ?_) (fun e10 h => ?_)
    · refine tz_aload_n 1 1 C dL_law_418 rfl rfl ?_
      refine tz_aload_n 0 0 C dL_law_419 rfl rfl ?_
      refine tz_iload_n 3 3 C dL_law_420 rfl rfl ?_
      refine tz_iconst 1 (by decide) C dL_law_421 ?_
      refine tz_iadd C dL_law_422 ?_
      obtain ⟨hin_78, h⟩ := h
      refine tz_sld C hX dL_law_423 hin_78 ?_
      refine tz_aload_n 0 0 C dL_law_424 rfl rfl ?_
      refine tz_iload_n 3 3 C dL_law_425 rfl rfl ?_
      refine tz_iconst 2 (by decide) C dL_law_426 ?_
      refine tz_iadd C dL_law_427 ?_
      obtain ⟨hin_79, h⟩ := h
      refine tz_sld C hX dL_law_428 hin_79 ?_
      refine tz_calliv C dL_law_429 lk_RL_56 (m_X9_letter G hG  h) (by decide) rfl rfl rfl rfl ⟨Nat.le_of_ble_eq_true rfl, Nat.le_of_ble_eq_true rfl⟩ (Nat.le_of_ble_eq_true rfl) rfl (fun r_81 σ_80 h => ?_)
      refine tz_aload_n 2 2 C dL_law_432 rfl rfl ?_
      refine tz_aload_n 0 0 C dL_law_433 rfl rfl ?_
      refine tz_iload_n 3 3 C dL_law_434 rfl rfl ?_
      refine tz_iconst 1 (by decide) C dL_law_435 ?_
      refine tz_iadd C dL_law_436 ?_
      refine tz_sld C hX dL_law_437 hin_78 ?_
      refine tz_aload_n 0 0 C dL_law_438 rfl rfl ?_
      refine tz_iload_n 3 3 C dL_law_439 rfl rfl ?_
      refine tz_iconst 2 (by decide) C dL_law_440 ?_
      refine tz_iadd C dL_law_441 ?_
      refine tz_sld C hX dL_law_442 hin_79 ?_
      refine tz_calliv C dL_law_443 lk_RL_59 (m_X10_letter G hG  h) (by decide) rfl rfl rfl rfl ⟨Nat.le_of_ble_eq_true rfl, Nat.le_of_ble_eq_true rfl⟩ (Nat.le_of_ble_eq_true rfl) rfl (fun r_83 σ_82 h => ?_)
      refine tz_icmp_eq 1049 C dL_law_446 (by decide) h (fun c_84 h => ?_) (fun c_84 h => ?_)
      · refine tz_iinc 3 [(0, .ref 1002), (1, .ref 0), (2, .ref 133)] 6 C dL_law_1049 (by decide) rfl (Nat.le_of_ble_eq_true rfl) rfl h (fun x3_85 h => ?_)
        refine tz_goto 18 C dL_law_1052 (by decide) ?_
        exact tz_sub (ihag_1 _ _ h) [1, 2, 3, 0] rfl
      · refine tz_iconst 0 (by decide) C dL_law_449 ?_
        exact hret _ _ _ _ dL_law_450 rfl h
    refine tz_swc 11 (418) 451 C dL_law_33 (by decide) (by decide) rfl (by decide) h (fun h => ?_) (fun e11 h => ?_)
    · refine tz_aload_n 1 1 C dL_law_451 rfl rfl ?_
      refine tz_calliv C dL_law_452 lk_RL_60 (m_X9_chains G hG  h) (by decide) rfl rfl rfl rfl ⟨Nat.le_of_ble_eq_true rfl, Nat.le_of_ble_eq_true rfl⟩ (Nat.le_of_ble_eq_true rfl) rfl (fun r_87 σ_86 h => ?_)
      refine tz_aload_n 2 2 C dL_law_455 rfl rfl ?_
      refine tz_calliv C dL_law_456 lk_RL_63 (m_X10_chains G hG  h) (by decide) rfl rfl rfl rfl ⟨Nat.le_of_ble_eq_true rfl, Nat.le_of_ble_eq_true rfl⟩ (Nat.le_of_ble_eq_true rfl) rfl (fun r_89 σ_88 h => ?_)
      refine tz_icmp_eq 1049 C dL_law_459 (by decide) h (fun c_90 h => ?_) (fun c_90 h => ?_)
      · refine tz_iinc 3 [(0, .ref 1002), (1, .ref 0), (2, .ref 133)] 6 C dL_law_1049 (by decide) rfl (Nat.le_of_ble_eq_true rfl) rfl h (fun x3_91 h => ?_)
        refine tz_goto 18 C dL_law_1052 (by decide) ?_
        exact tz_sub (ihag_1 _ _ h) [1, 2, 3, 0] rfl
      · refine tz_iconst 0 (by decide) C dL_law_462 ?_
        exact hret _ _ _ _ dL_law_463 rfl h
    refine tz_swc 12 (431) 464 C dL_law_33 (by decide) (by decide) rfl (by decide) h (fun h => ?_) (fun e12 h => ?_)
    · refine tz_aload_n 1 1 C dL_law_464 rfl rfl ?_
      refine tz_aload_n 0 0 C dL_law_465 rfl rfl ?_
      refine tz_iload_n 3 3 C dL_law_466 rfl rfl ?_
      refine tz_iconst 1 (by decide) C dL_law_467 ?_
      refine tz_iadd C dL_law_468 ?_
      obtain ⟨hin_92, h⟩ := h
      refine tz_sld C hX dL_law_469 hin_92 ?_
      refine tz_aload_n 0 0 C dL_law_470 rfl rfl ?_
      refine tz_iload_n 3 3 C dL_law_471 rfl rfl ?_
      refine tz_iconst 2 (by decide) C dL_law_472 ?_
      refine tz_iadd C dL_law_473 ?_
      obtain ⟨hin_93, h⟩ := h
      refine tz_sld C hX dL_law_474 hin_93 ?_
      refine tz_calliv C dL_law_475 lk_RL_64 (m_X9_chain G hG  h) (by decide) rfl rfl rfl rfl ⟨Nat.le_of_ble_eq_true rfl, Nat.le_of_ble_eq_true rfl⟩ (Nat.le_of_ble_eq_true rfl) rfl (fun r_95 σ_94 h => ?_)
      refine tz_aload_n 2 2 C dL_law_478 rfl rfl ?_
      refine tz_aload_n 0 0 C dL_law_479 rfl rfl ?_
      refine tz_iload_n 3 3 C dL_law_480 rfl rfl ?_
      refine tz_iconst 1 (by decide) C dL_law_481 ?_
      refine tz_iadd C dL_law_482 ?_
      refine tz_sld C hX dL_law_483 hin_92 ?_
      refine tz_aload_n 0 0 C dL_law_484 rfl rfl ?_
      refine tz_iload_n 3 3 C dL_law_485 rfl rfl ?_
      refine tz_iconst 2 (by decide) C dL_law_486 ?_
      refine tz_iadd C dL_law_487 ?_
      refine tz_sld C hX dL_law_488 hin_93 ?_
      refine tz_calliv C dL_law_489 lk_RL_67 (m_X10_chain G hG  h) (by decide) rfl rfl rfl rfl ⟨Nat.le_of_ble_eq_true rfl, Nat.le_of_ble_eq_true rfl⟩ (Nat.le_of_ble_eq_true rfl) rfl (fun r_97 σ_96 h => ?_)
      refine tz_icmp_eq 1049 C dL_law_492 (by decide) h (fun c_98 h => ?_) (fun c_98 h => ?_)
      · refine tz_iinc 3 [(0, .ref 1002), (1, .ref 0), (2, .ref 133)] 6 C dL_law_1049 (by decide) rfl (Nat.le_of_ble_eq_true rfl) rfl h (fun x3_99 h => ?_)
        refine tz_goto 18 C dL_law_1052 (by decide) ?_
        exact tz_sub (ihag_1 _ _ h) [1, 2, 3, 0] rfl
      · refine tz_iconst 0 (by decide) C dL_law_495 ?_
        exact hret _ _ _ _ dL_law_496 rfl h
    refine tz_swc 13 (464) 497 C dL_law_33 (by decide) (by decide) rfl (by decide) h (fun h => ?_) (fun e13 h => ?_)
    · refine tz_aload_n 1 1 C dL_law_497 rfl rfl ?_
      refine tz_aload_n 0 0 C dL_law_498 rfl rfl ?_
      refine tz_iload_n 3 3 C dL_law_499 rfl rfl ?_
      refine tz_iconst 1 (by decide) C dL_law_500 ?_
      refine tz_iadd C dL_law_501 ?_
      obtain ⟨hin_100, h⟩ := h
      refine tz_sld C hX dL_law_502 hin_100 ?_
      refine tz_aload_n 0 0 C dL_law_503 rfl rfl ?_
      refine tz_iload_n 3 3 C dL_law_504 rfl rfl ?_
      refine tz_iconst 2 (by decide) C dL_law_505 ?_
      refine tz_iadd C dL_law_506 ?_
      obtain ⟨hin_101, h⟩ := h
      refine tz_sld C hX dL_law_507 hin_101 ?_
      refine tz_calliv C dL_law_508 lk_RL_68 (m_X9_over G hG  h) (by decide) rfl rfl rfl rfl ⟨Nat.le_of_ble_eq_true rfl, Nat.le_of_ble_eq_true rfl⟩ (Nat.le_of_ble_eq_true rfl) rfl (fun r_103 σ_102 h => ?_)
      refine tz_aload_n 2 2 C dL_law_511 rfl rfl ?_
      refine tz_aload_n 0 0 C dL_law_512 rfl rfl ?_
      refine tz_iload_n 3 3 C dL_law_513 rfl rfl ?_
      refine tz_iconst 1 (by decide) C dL_law_514 ?_
      refine tz_iadd C dL_law_515 ?_
      refine tz_sld C hX dL_law_516 hin_100 ?_
      refine tz_aload_n 0 0 C dL_law_517 rfl rfl ?_
      refine tz_iload_n 3 3 C dL_law_518 rfl rfl ?_
      refine tz_iconst 2 (by decide) C dL_law_519 ?_
      refine tz_iadd C dL_law_520 ?_
      refine tz_sld C hX dL_law_521 hin_101 ?_
      refine tz_calliv C dL_law_522 lk_RL_71 (m_X10_over G hG  h) (by decide) rfl rfl rfl rfl ⟨Nat.le_of_ble_eq_true rfl, Nat.le_of_ble_eq_true rfl⟩ (Nat.le_of_ble_eq_true rfl) rfl (fun r_105 σ_104 h => ?_)
      refine tz_icmp_eq 1049 C dL_law_525 (by decide) h (fun c_106 h => ?_) (fun c_106 h => ?_)
      · refine tz_iinc 3 [(0, .ref 1002), (1, .ref 0), (2, .ref 133)] 6 C dL_law_1049 (by decide) rfl (Nat.le_of_ble_eq_true rfl) rfl h (fun x3_107 h => ?_)
        refine tz_goto 18 C dL_law_1052 (by decide) ?_
        exact tz_sub (ihag_1 _ _ h) [1, 2, 3, 0] rfl
      · refine tz_iconst 0 (by decide) C dL_law_528 ?_
        exact hret _ _ _ _ dL_law_529 rfl h
    refine tz_swc 14 (497) 530 C dL_law_33 (by decide) (by decide) rfl (by decide) h (fun h => ?_) (fun e14 h => ?_)
    · refine tz_aload_n 1 1 C dL_law_530 rfl rfl ?_
      refine tz_aload_n 0 0 C dL_law_531 rfl rfl ?_
      refine tz_iload_n 3 3 C dL_law_532 rfl rfl ?_
      refine tz_iconst 1 (by decide) C dL_law_533 ?_
      refine tz_iadd C dL_law_534 ?_
      obtain ⟨hin_108, h⟩ := h
      refine tz_sld C hX dL_law_535 hin_108 ?_
      refine tz_aload_n 0 0 C dL_law_536 rfl rfl ?_
      refine tz_iload_n 3 3 C dL_law_537 rfl rfl ?_
      refine tz_iconst 2 (by decide) C dL_law_538 ?_
      refine tz_iadd C dL_law_539 ?_
      obtain ⟨hin_109, h⟩ := h
      refine tz_sld C hX dL_law_540 hin_109 ?_
      refine tz_calliv C dL_law_541 lk_RL_72 (m_X9_cost G hG  h) (by decide) rfl rfl rfl rfl ⟨Nat.le_of_ble_eq_true rfl, Nat.le_of_ble_eq_true rfl⟩ (Nat.le_of_ble_eq_true rfl) rfl (fun r_111 σ_110 h => ?_)
      refine tz_aload_n 2 2 C dL_law_544 rfl rfl ?_
      refine tz_aload_n 0 0 C dL_law_545 rfl rfl ?_
      refine tz_iload_n 3 3 C dL_law_546 rfl rfl ?_
      refine tz_iconst 1 (by decide) C dL_law_547 ?_
      refine tz_iadd C dL_law_548 ?_
      refine tz_sld C hX dL_law_549 hin_108 ?_
      refine tz_aload_n 0 0 C dL_law_550 rfl rfl ?_
      refine tz_iload_n 3 3 C dL_law_551 rfl rfl ?_
      refine tz_iconst 2 (by decide) C dL_law_552 ?_
      refine tz_iadd C dL_law_553 ?_
      refine tz_sld C hX dL_law_554 hin_109 ?_
      refine tz_calliv C dL_law_555 lk_RL_75 (m_X10_cost G hG  h) (by decide) rfl rfl rfl rfl ⟨Nat.le_of_ble_eq_true rfl, Nat.le_of_ble_eq_true rfl⟩ (Nat.le_of_ble_eq_true rfl) rfl (fun r_113 σ_112 h => ?_)
      refine tz_icmp_eq 1049 C dL_law_558 (by decide) h (fun c_114 h => ?_) (fun c_114 h => ?_)
      · refine tz_iinc 3 [(0, .ref 1002), (1, .ref 0), (2, .ref 133)] 6 C dL_law_1049 (by decide) rfl (Nat.le_of_ble_eq_true rfl) rfl h (fun x3_115 h => ?_)
        refine tz_goto 18 C dL_law_1052 (by decide) ?_
        exact tz_sub (ihag_1 _ _ h) [1, 2, 3, 0] rfl
      · refine tz_iconst 0 (by decide) C dL_law_561 ?_
        exact hret _ _ _ _ dL_law_562 rfl h
    refine tz_swc 15 (530) 563 C dL_law_33 (by decide) (by decide) rfl (by decide) h (fun h => ?_) (fun e15 h => ?_)
    · refine tz_aload_n 1 1 C dL_law_563 rfl rfl ?_
      refine tz_aload_n 0 0 C dL_law_564 rfl rfl ?_
      refine tz_iload_n 3 3 C dL_law_565 rfl rfl ?_
      refine tz_iconst 1 (by decide) C dL_law_566 ?_
      refine tz_iadd C dL_law_567 ?_
      obtain ⟨hin_116, h⟩ := h
      refine tz_sld C hX dL_law_568 hin_116 ?_
      refine tz_calliv C dL_law_569 lk_RL_76 (m_X9_best G hG  h) (by decide) rfl rfl rfl rfl ⟨Nat.le_of_ble_eq_true rfl, Nat.le_of_ble_eq_true rfl⟩ (Nat.le_of_ble_eq_true rfl) rfl (fun r_118 σ_117 h => ?_)
      refine tz_aload_n 2 2 C dL_law_572 rfl rfl ?_
      refine tz_aload_n 0 0 C dL_law_573 rfl rfl ?_
      refine tz_iload_n 3 3 C dL_law_574 rfl rfl ?_
      refine tz_iconst 1 (by decide) C dL_law_575 ?_
      refine tz_iadd C dL_law_576 ?_
      refine tz_sld C hX dL_law_577 hin_116 ?_
      refine tz_calliv C dL_law_578 lk_RL_79 (m_X10_best G hG  h) (by decide) rfl rfl rfl rfl ⟨Nat.le_of_ble_eq_true rfl, Nat.le_of_ble_eq_true rfl⟩ (Nat.le_of_ble_eq_true rfl) rfl (fun r_120 σ_119 h => ?_)
      refine tz_icmp_eq 1049 C dL_law_581 (by decide) h (fun c_121 h => ?_) (fun c_121 h => ?_)
      · refine tz_iinc 3 [(0, .ref 1002), (1, .ref 0), (2, .ref 133)] 6 C dL_law_1049 (by decide) rfl (Nat.le_of_ble_eq_true rfl) rfl h (fun x3_122 h => ?_)
        refine tz_goto 18 C dL_law_1052 (by decide) ?_
        exact tz_sub (ihag_1 _ _ h) [1, 2, 3, 0] rfl
      · refine tz_iconst 0 (by decide) C dL_law_584 ?_
        exact hret _ _ _ _ dL_law_585 rfl h
    refine tz_swc 16 (553) 586 C dL_law_33 (by decide) (by decide) rfl (by decide) h (fun h => ?_) (fun e16 h => ?_)
    · refine tz_aload_n 1 1 C dL_law_586 rfl rfl ?_
      refine tz_aload_n 0 0 C dL_law_587 rfl rfl ?_
      refine tz_iload_n 3 3 C dL_law_588 rfl rfl ?_
      refine tz_iconst 1 (by decide) C dL_law_589 ?_
      refine tz_iadd C dL_law_590 ?_
      obtain ⟨hin_123, h⟩ := h
      refine tz_sld C hX dL_law_591 hin_123 ?_
      refine tz_aload_n 0 0 C dL_law_592 rfl rfl ?_
      refine tz_iload_n 3 3 C dL_law_593 rfl rfl ?_
      refine tz_iconst 2 (by decide) C dL_law_594 ?_
      refine tz_iadd C dL_law_595 ?_
      obtain ⟨hin_124, h⟩ := h
      refine tz_sld C hX dL_law_596 hin_124 ?_
      refine tz_calliv C dL_law_597 lk_RL_80 (m_X9_seam G hG  h) (by decide) rfl rfl rfl rfl ⟨Nat.le_of_ble_eq_true rfl, Nat.le_of_ble_eq_true rfl⟩ (Nat.le_of_ble_eq_true rfl) rfl (fun r_126 σ_125 h => ?_)
      refine tz_aload_n 2 2 C dL_law_600 rfl rfl ?_
      refine tz_aload_n 0 0 C dL_law_601 rfl rfl ?_
      refine tz_iload_n 3 3 C dL_law_602 rfl rfl ?_
      refine tz_iconst 1 (by decide) C dL_law_603 ?_
      refine tz_iadd C dL_law_604 ?_
      refine tz_sld C hX dL_law_605 hin_123 ?_
      refine tz_aload_n 0 0 C dL_law_606 rfl rfl ?_
      refine tz_iload_n 3 3 C dL_law_607 rfl rfl ?_
      refine tz_iconst 2 (by decide) C dL_law_608 ?_
      refine tz_iadd C dL_law_609 ?_
      refine tz_sld C hX dL_law_610 hin_124 ?_
      refine tz_calliv C dL_law_611 lk_RL_83 (m_X10_seam G hG  h) (by decide) rfl rfl rfl rfl ⟨Nat.le_of_ble_eq_true rfl, Nat.le_of_ble_eq_true rfl⟩ (Nat.le_of_ble_eq_true rfl) rfl (fun r_128 σ_127 h => ?_)
      refine tz_icmp_eq 1049 C dL_law_614 (by decide) h (fun c_129 h => ?_) (fun c_129 h => ?_)
      · refine tz_iinc 3 [(0, .ref 1002), (1, .ref 0), (2, .ref 133)] 6 C dL_law_1049 (by decide) rfl (Nat.le_of_ble_eq_true rfl) rfl h (fun x3_130 h => ?_)
        refine tz_goto 18 C dL_law_1052 (by decide) ?_
        exact tz_sub (ihag_1 _ _ h) [1, 2, 3, 0] rfl
      · refine tz_iconst 0 (by decide) C dL_law_617 ?_
        exact hret _ _ _ _ dL_law_618 rfl h
    refine tz_swc 17 (586) 619 C dL_law_33 (by decide) (by decide) rfl (by decide) h (fun h => ?_) (fun e17 h => ?_)
    · refine tz_aload_n 1 1 C dL_law_619 rfl rfl ?_
      refine tz_calliv C dL_law_620 lk_RL_84 (m_X9_bent G hG  h) (by decide) rfl rfl rfl rfl ⟨Nat.le_of_ble_eq_true rfl, Nat.le_of_ble_eq_true rfl⟩ (Nat.le_of_ble_eq_true rfl) rfl (fun r_132 σ_131 h => ?_)
      refine tz_aload_n 2 2 C dL_law_623 rfl rfl ?_
      refine tz_calliv C dL_law_624 lk_RL_87 (m_X10_bent G hG  h) (by decide) rfl rfl rfl rfl ⟨Nat.le_of_ble_eq_true rfl, Nat.le_of_ble_eq_true rfl⟩ (Nat.le_of_ble_eq_true rfl) rfl (fun r_134 σ_133 h => ?_)
      refine tz_icmp_eq 1049 C dL_law_627 (by decide) h (fun c_135 h => ?_) (fun c_135 h => ?_)
      · refine tz_iinc 3 [(0, .ref 1002), (1, .ref 0), (2, .ref 133)] 6 C dL_law_1049 (by decide) rfl (Nat.le_of_ble_eq_true rfl) rfl h (fun x3_136 h => ?_)
        refine tz_goto 18 C dL_law_1052 (by decide) ?_
        exact tz_sub (ihag_1 _ _ h) [1, 2, 3, 0] rfl
      · refine tz_iconst 0 (by decide) C dL_law_630 ?_
        exact hret _ _ _ _ dL_law_631 rfl h
    refine tz_swc 18 (599) 632 C dL_law_33 (by decide) (by decide) rfl (by decide) h (fun h => ?_) (fun e18 h => ?_)
    · refine tz_aload_n 1 1 C dL_law_632 rfl rfl ?_
      refine tz_aload_n 0 0 C dL_law_633 rfl rfl ?_
      refine tz_iload_n 3 3 C dL_law_634 rfl rfl ?_
      refine tz_iconst 1 (by decide) C dL_law_635 ?_
      refine tz_iadd C dL_law_636 ?_
      obtain ⟨hin_137, h⟩ := h
      refine tz_sld C hX dL_law_637 hin_137 ?_
      refine tz_aload_n 0 0 C dL_law_638 rfl rfl ?_
      refine tz_iload_n 3 3 C dL_law_639 rfl rfl ?_
      refine tz_iconst 2 (by decide) C dL_law_640 ?_
      refine tz_iadd C dL_law_641 ?_
      obtain ⟨hin_138, h⟩ := h
      refine tz_sld C hX dL_law_642 hin_138 ?_
      refine tz_calliv C dL_law_643 lk_RL_88 (m_X9_drop G hG  h) (by decide) rfl rfl rfl rfl ⟨Nat.le_of_ble_eq_true rfl, Nat.le_of_ble_eq_true rfl⟩ (Nat.le_of_ble_eq_true rfl) rfl (fun r_140 σ_139 h => ?_)
      refine tz_aload_n 2 2 C dL_law_646 rfl rfl ?_
      refine tz_aload_n 0 0 C dL_law_647 rfl rfl ?_
      refine tz_iload_n 3 3 C dL_law_648 rfl rfl ?_
      refine tz_iconst 1 (by decide) C dL_law_649 ?_
      refine tz_iadd C dL_law_650 ?_
      refine tz_sld C hX dL_law_651 hin_137 ?_
      refine tz_aload_n 0 0 C dL_law_652 rfl rfl ?_
      refine tz_iload_n 3 3 C dL_law_653 rfl rfl ?_
      refine tz_iconst 2 (by decide) C dL_law_654 ?_
      refine tz_iadd C dL_law_655 ?_
      refine tz_sld C hX dL_law_656 hin_138 ?_
      refine tz_calliv C dL_law_657 lk_RL_91 (m_X10_drop G hG  h) (by decide) rfl rfl rfl rfl ⟨Nat.le_of_ble_eq_true rfl, Nat.le_of_ble_eq_true rfl⟩ (Nat.le_of_ble_eq_true rfl) rfl (fun r_142 σ_141 h => ?_)
      refine tz_icmp_eq 1049 C dL_law_660 (by decide) h (fun c_143 h => ?_) (fun c_143 h => ?_)
      · refine tz_iinc 3 [(0, .ref 1002), (1, .ref 0), (2, .ref 133)] 6 C dL_law_1049 (by decide) rfl (Nat.le_of_ble_eq_true rfl) rfl h (fun x3_144 h => ?_)
        refine tz_goto 18 C dL_law_1052 (by decide) ?_
        exact tz_sub (ihag_1 _ _ h) [1, 2, 3, 0] rfl
      · refine tz_iconst 0 (by decide) C dL_law_663 ?_
        exact hret _ _ _ _ dL_law_664 rfl h
    refine tz_swc 19 (632) 665 C dL_law_33 (by decide) (by decide) rfl (by decide) h (fun h => ?_) (fun e19 h => ?_)
    · refine tz_aload_n 1 1 C dL_law_665 rfl rfl ?_
      refine tz_aload_n 0 0 C dL_law_666 rfl rfl ?_
      refine tz_iload_n 3 3 C dL_law_667 rfl rfl ?_
      refine tz_iconst 1 (by decide) C dL_law_668 ?_
      refine tz_iadd C dL_law_669 ?_
      obtain ⟨hin_145, h⟩ := h
      refine tz_sld C hX dL_law_670 hin_145 ?_
      refine tz_aload_n 0 0 C dL_law_671 rfl rfl ?_
      refine tz_iload_n 3 3 C dL_law_672 rfl rfl ?_
      refine tz_iconst 2 (by decide) C dL_law_673 ?_
      refine tz_iadd C dL_law_674 ?_
      obtain ⟨hin_146, h⟩ := h
      refine tz_sld C hX dL_law_675 hin_146 ?_
      refine tz_calliv C dL_law_676 lk_RL_92 (m_X9_gap G hG  h) (by decide) rfl rfl rfl rfl ⟨Nat.le_of_ble_eq_true rfl, Nat.le_of_ble_eq_true rfl⟩ (Nat.le_of_ble_eq_true rfl) rfl (fun r_148 σ_147 h => ?_)
      refine tz_aload_n 2 2 C dL_law_679 rfl rfl ?_
      refine tz_aload_n 0 0 C dL_law_680 rfl rfl ?_
      refine tz_iload_n 3 3 C dL_law_681 rfl rfl ?_
      refine tz_iconst 1 (by decide) C dL_law_682 ?_
      refine tz_iadd C dL_law_683 ?_
      refine tz_sld C hX dL_law_684 hin_145 ?_
      refine tz_aload_n 0 0 C dL_law_685 rfl rfl ?_
      refine tz_iload_n 3 3 C dL_law_686 rfl rfl ?_
      refine tz_iconst 2 (by decide) C dL_law_687 ?_
      refine tz_iadd C dL_law_688 ?_
      refine tz_sld C hX dL_law_689 hin_146 ?_
      refine tz_calliv C dL_law_690 lk_RL_95 (m_X10_gap G hG  h) (by decide) rfl rfl rfl rfl ⟨Nat.le_of_ble_eq_true rfl, Nat.le_of_ble_eq_true rfl⟩ (Nat.le_of_ble_eq_true rfl) rfl (fun r_150 σ_149 h => ?_)
      refine tz_icmp_eq 1049 C dL_law_693 (by decide) h (fun c_151 h => ?_) (fun c_151 h => ?_)
      · refine tz_iinc 3 [(0, .ref 1002), (1, .ref 0), (2, .ref 133)] 6 C dL_law_1049 (by decide) rfl (Nat.le_of_ble_eq_true rfl) rfl h (fun x3_152 h => ?_)
        refine tz_goto 18 C dL_law_1052 (by decide) ?_
        exact tz_sub (ihag_1 _ _ h) [1, 2, 3, 0] rfl
      · refine tz_iconst 0 (by decide) C dL_law_696 ?_
        exact hret _ _ _ _ dL_law_697 rfl h
    refine tz_swc 20 (665) 698 C dL_law_33 (by decide) (by decide) rfl (by decide) h (fun h => ?_) (fun e20 h => ?_)
    · refine tz_aload_n 1 1 C dL_law_698 rfl rfl ?_
      refine tz_aload_n 0 0 C dL_law_699 rfl rfl ?_
      refine tz_iload_n 3 3 C dL_law_700 rfl rfl ?_
      refine tz_iconst 1 (by decide) C dL_law_701 ?_
      refine tz_iadd C dL_law_702 ?_
      obtain ⟨hin_153, h⟩ := h
      refine tz_sld C hX dL_law_703 hin_153 ?_
      refine tz_calliv C dL_law_704 lk_RL_96 (m_X9_deep G hG  h) (by decide) rfl rfl rfl rfl ⟨Nat.le_of_ble_eq_true rfl, Nat.le_of_ble_eq_true rfl⟩ (Nat.le_of_ble_eq_true rfl) rfl (fun r_155 σ_154 h => ?_)
      refine tz_aload_n 2 2 C dL_law_707 rfl rfl ?_
      refine tz_aload_n 0 0 C dL_law_708 rfl rfl ?_
      refine tz_iload_n 3 3 C dL_law_709 rfl rfl ?_
      refine tz_iconst 1 (by decide) C dL_law_710 ?_
      refine tz_iadd C dL_law_711 ?_
      refine tz_sld C hX dL_law_712 hin_153 ?_
      refine tz_calliv C dL_law_713 lk_RL_99 (m_X10_deep G hG  h) (by decide) rfl rfl rfl rfl ⟨Nat.le_of_ble_eq_true rfl, Nat.le_of_ble_eq_true rfl⟩ (Nat.le_of_ble_eq_true rfl) rfl (fun r_157 σ_156 h => ?_)
      refine tz_icmp_eq 1049 C dL_law_716 (by decide) h (fun c_158 h => ?_) (fun c_158 h => ?_)
      · refine tz_iinc 3 [(0, .ref 1002), (1, .ref 0), (2, .ref 133)] 6 C dL_law_1049 (by decide) rfl (Nat.le_of_ble_eq_true rfl) rfl h (fun x3_159 h => ?_)
        refine tz_goto 18 C dL_law_1052 (by decide) ?_
        exact tz_sub (ihag_1 _ _ h) [1, 2, 3, 0] rfl
      · refine tz_iconst 0 (by decide) C dL_law_719 ?_
        exact hret _ _ _ _ dL_law_720 rfl h
    refine tz_swc 21 (688) 721 C dL_law_33 (by decide) (by decide) rfl (by decide) h (fun h => ?_) (fun e21 h => ?_)
    · refine tz_aload_n 1 1 C dL_law_721 rfl rfl ?_
      refine tz_aload_n 0 0 C dL_law_722 rfl rfl ?_
      refine tz_iload_n 3 3 C dL_law_723 rfl rfl ?_
      refine tz_iconst 1 (by decide) C dL_law_724 ?_
      refine tz_iadd C dL_law_725 ?_
      obtain ⟨hin_160, h⟩ := h
      refine tz_sld C hX dL_law_726 hin_160 ?_
      refine tz_aload_n 0 0 C dL_law_727 rfl rfl ?_
      refine tz_iload_n 3 3 C dL_law_728 rfl rfl ?_
      refine tz_iconst 2 (by decide) C dL_law_729 ?_
      refine tz_iadd C dL_law_730 ?_
      obtain ⟨hin_161, h⟩ := h
      refine tz_sld C hX dL_law_731 hin_161 ?_
      refine tz_calliv C dL_law_732 lk_RL_100 (m_X9_apart G hG  h) (by decide) rfl rfl rfl rfl ⟨Nat.le_of_ble_eq_true rfl, Nat.le_of_ble_eq_true rfl⟩ (Nat.le_of_ble_eq_true rfl) rfl (fun r_163 σ_162 h => ?_)
      refine tz_aload_n 2 2 C dL_law_735 rfl rfl ?_
      refine tz_aload_n 0 0 C dL_law_736 rfl rfl ?_
      refine tz_iload_n 3 3 C dL_law_737 rfl rfl ?_
      refine tz_iconst 1 (by decide) C dL_law_738 ?_
      refine tz_iadd C dL_law_739 ?_
      refine tz_sld C hX dL_law_740 hin_160 ?_
      refine tz_aload_n 0 0 C dL_law_741 rfl rfl ?_
      refine tz_iload_n 3 3 C dL_law_742 rfl rfl ?_
      refine tz_iconst 2 (by decide) C dL_law_743 ?_
      refine tz_iadd C dL_law_744 ?_
      refine tz_sld C hX dL_law_745 hin_161 ?_
      refine tz_calliv C dL_law_746 lk_RL_103 (m_X10_apart G hG  h) (by decide) rfl rfl rfl rfl ⟨Nat.le_of_ble_eq_true rfl, Nat.le_of_ble_eq_true rfl⟩ (Nat.le_of_ble_eq_true rfl) rfl (fun r_165 σ_164 h => ?_)
      refine tz_icmp_eq 1049 C dL_law_749 (by decide) h (fun c_166 h => ?_) (fun c_166 h => ?_)
      · refine tz_iinc 3 [(0, .ref 1002), (1, .ref 0), (2, .ref 133)] 6 C dL_law_1049 (by decide) rfl (Nat.le_of_ble_eq_true rfl) rfl h (fun x3_167 h => ?_)
        refine tz_goto 18 C dL_law_1052 (by decide) ?_
        exact tz_sub (ihag_1 _ _ h) [1, 2, 3, 0] rfl
      · refine tz_iconst 0 (by decide) C dL_law_752 ?_
        exact hret _ _ _ _ dL_law_753 rfl h
    refine tz_swc 22 (721) 754 C dL_law_33 (by decide) (by decide) rfl (by decide) h (fun h => ?_) (fun e22 h => ?_)
    · refine tz_aload_n 1 1 C dL_law_754 rfl rfl ?_
      refine tz_aload_n 0 0 C dL_law_755 rfl rfl ?_
      refine tz_iload_n 3 3 C dL_law_756 rfl rfl ?_
      refine tz_iconst 1 (by decide) C dL_law_757 ?_
      refine tz_iadd C dL_law_758 ?_
      obtain ⟨hin_168, h⟩ := h
      refine tz_sld C hX dL_law_759 hin_168 ?_
      refine tz_aload_n 0 0 C dL_law_760 rfl rfl ?_
      refine tz_iload_n 3 3 C dL_law_761 rfl rfl ?_
      refine tz_iconst 2 (by decide) C dL_law_762 ?_
      refine tz_iadd C dL_law_763 ?_
      obtain ⟨hin_169, h⟩ := h
      refine tz_sld C hX dL_law_764 hin_169 ?_
      refine tz_aload_n 0 0 C dL_law_765 rfl rfl ?_
      refine tz_iload_n 3 3 C dL_law_766 rfl rfl ?_
      refine tz_iconst 3 (by decide) C dL_law_767 ?_
      refine tz_iadd C dL_law_768 ?_
      obtain ⟨hin_170, h⟩ := h
      refine tz_sld C hX dL_law_769 hin_170 ?_
      refine tz_calliv C dL_law_770 lk_RL_104 (m_X9_sheet G hG  h) (by decide) rfl rfl rfl rfl ⟨Nat.le_of_ble_eq_true rfl, Nat.le_of_ble_eq_true rfl⟩ (Nat.le_of_ble_eq_true rfl) rfl (fun r_172 σ_171 h => ?_)
      refine tz_aload_n 2 2 C dL_law_773 rfl rfl ?_
      refine tz_aload_n 0 0 C dL_law_774 rfl rfl ?_
      refine tz_iload_n 3 3 C dL_law_775 rfl rfl ?_
      refine tz_iconst 1 (by decide) C dL_law_776 ?_
      refine tz_iadd C dL_law_777 ?_
      refine tz_sld C hX dL_law_778 hin_168 ?_
      refine tz_aload_n 0 0 C dL_law_779 rfl rfl ?_
      refine tz_iload_n 3 3 C dL_law_780 rfl rfl ?_
      refine tz_iconst 2 (by decide) C dL_law_781 ?_
      refine tz_iadd C dL_law_782 ?_
      refine tz_sld C hX dL_law_783 hin_169 ?_
      refine tz_aload_n 0 0 C dL_law_784 rfl rfl ?_
      refine tz_iload_n 3 3 C dL_law_785 rfl rfl ?_
      refine tz_iconst 3 (by decide) C dL_law_786 ?_
      refine tz_iadd C dL_law_787 ?_
      refine tz_sld C hX dL_law_788 hin_170 ?_
      refine tz_calliv C dL_law_789 lk_RL_108 (m_X10_sheet G hG  h) (by decide) rfl rfl rfl rfl ⟨Nat.le_of_ble_eq_true rfl, Nat.le_of_ble_eq_true rfl⟩ (Nat.le_of_ble_eq_true rfl) rfl (fun r_174 σ_173 h => ?_)
      refine tz_icmp_eq 1049 C dL_law_792 (by decide) h (fun c_175 h => ?_) (fun c_175 h => ?_)
      · refine tz_iinc 3 [(0, .ref 1002), (1, .ref 0), (2, .ref 133)] 6 C dL_law_1049 (by decide) rfl (Nat.le_of_ble_eq_true rfl) rfl h (fun x3_176 h => ?_)
        refine tz_goto 18 C dL_law_1052 (by decide) ?_
        exact tz_sub (ihag_1 _ _ h) [1, 2, 3, 0] rfl
      · refine tz_iconst 0 (by decide) C dL_law_795 ?_
        exact hret _ _ _ _ dL_law_796 rfl h
    refine tz_swc 23 (764) 797 C dL_law_33 (by decide) (by decide) rfl (by decide) h (fun h => ?_) (fun e23 h => ?_)
    · refine tz_aload_n 1 1 C dL_law_797 rfl rfl ?_
      refine tz_aload_n 0 0 C dL_law_798 rfl rfl ?_
      refine tz_iload_n 3 3 C dL_law_799 rfl rfl ?_
      refine tz_iconst 1 (by decide) C dL_law_800 ?_
      refine tz_iadd C dL_law_801 ?_
      obtain ⟨hin_177, h⟩ := h
      refine tz_sld C hX dL_law_802 hin_177 ?_
      refine tz_calliv C dL_law_803 lk_RL_109 (m_X9_lose G hG  h) (by decide) rfl rfl rfl rfl ⟨Nat.le_of_ble_eq_true rfl, Nat.le_of_ble_eq_true rfl⟩ (Nat.le_of_ble_eq_true rfl) rfl (fun r_179 σ_178 h => ?_)
      refine tz_aload_n 2 2 C dL_law_806 rfl rfl ?_
      refine tz_aload_n 0 0 C dL_law_807 rfl rfl ?_
      refine tz_iload_n 3 3 C dL_law_808 rfl rfl ?_
      refine tz_iconst 1 (by decide) C dL_law_809 ?_
      refine tz_iadd C dL_law_810 ?_
      refine tz_sld C hX dL_law_811 hin_177 ?_
      refine tz_calliv C dL_law_812 lk_RL_112 (m_X10_lose G hG  h) (by decide) rfl rfl rfl rfl ⟨Nat.le_of_ble_eq_true rfl, Nat.le_of_ble_eq_true rfl⟩ (Nat.le_of_ble_eq_true rfl) rfl (fun r_181 σ_180 h => ?_)
      refine tz_icmp_eq 1049 C dL_law_815 (by decide) h (fun c_182 h => ?_) (fun c_182 h => ?_)
      · refine tz_iinc 3 [(0, .ref 1002), (1, .ref 0), (2, .ref 133)] 6 C dL_law_1049 (by decide) rfl (Nat.le_of_ble_eq_true rfl) rfl h (fun x3_183 h => ?_)
        refine tz_goto 18 C dL_law_1052 (by decide) ?_
        exact tz_sub (ihag_1 _ _ h) [1, 2, 3, 0] rfl
      · refine tz_iconst 0 (by decide) C dL_law_818 ?_
        exact hret _ _ _ _ dL_law_819 rfl h
    refine tz_swc 24 (787) 820 C dL_law_33 (by decide) (by decide) rfl (by decide) h (fun h => ?_) (fun e24 h => ?_)
    · refine tz_aload_n 1 1 C dL_law_820 rfl rfl ?_
      refine tz_aload_n 0 0 C dL_law_821 rfl rfl ?_
      refine tz_iload_n 3 3 C dL_law_822 rfl rfl ?_
      refine tz_iconst 1 (by decide) C dL_law_823 ?_
      refine tz_iadd C dL_law_824 ?_
      obtain ⟨hin_184, h⟩ := h
      refine tz_sld C hX dL_law_825 hin_184 ?_
      refine tz_aload_n 0 0 C dL_law_826 rfl rfl ?_
      refine tz_iload_n 3 3 C dL_law_827 rfl rfl ?_
      refine tz_iconst 2 (by decide) C dL_law_828 ?_
      refine tz_iadd C dL_law_829 ?_
      obtain ⟨hin_185, h⟩ := h
      refine tz_sld C hX dL_law_830 hin_185 ?_
      refine tz_aload_n 0 0 C dL_law_831 rfl rfl ?_
      refine tz_iload_n 3 3 C dL_law_832 rfl rfl ?_
      refine tz_iconst 3 (by decide) C dL_law_833 ?_
      refine tz_iadd C dL_law_834 ?_
      obtain ⟨hin_186, h⟩ := h
      refine tz_sld C hX dL_law_835 hin_186 ?_
      refine tz_aload_n 0 0 C dL_law_836 rfl rfl ?_
      refine tz_iload_n 3 3 C dL_law_837 rfl rfl ?_
      refine tz_iconst 4 (by decide) C dL_law_838 ?_
      refine tz_iadd C dL_law_839 ?_
      obtain ⟨hin_187, h⟩ := h
      refine tz_sld C hX dL_law_840 hin_187 ?_
      refine tz_calliv C dL_law_841 lk_RL_113 (m_X9_put G hG  h) (by decide) rfl rfl rfl rfl ⟨Nat.le_of_ble_eq_true rfl, Nat.le_of_ble_eq_true rfl⟩ (Nat.le_of_ble_eq_true rfl) rfl (fun r_189 σ_188 h => ?_)
      refine tz_aload_n 2 2 C dL_law_844 rfl rfl ?_
      refine tz_aload_n 0 0 C dL_law_845 rfl rfl ?_
      refine tz_iload_n 3 3 C dL_law_846 rfl rfl ?_
      refine tz_iconst 1 (by decide) C dL_law_847 ?_
      refine tz_iadd C dL_law_848 ?_
      refine tz_sld C hX dL_law_849 hin_184 ?_
      refine tz_aload_n 0 0 C dL_law_850 rfl rfl ?_
      refine tz_iload_n 3 3 C dL_law_851 rfl rfl ?_
      refine tz_iconst 2 (by decide) C dL_law_852 ?_
      refine tz_iadd C dL_law_853 ?_
      refine tz_sld C hX dL_law_854 hin_185 ?_
      refine tz_aload_n 0 0 C dL_law_855 rfl rfl ?_
      refine tz_iload_n 3 3 C dL_law_856 rfl rfl ?_
      refine tz_iconst 3 (by decide) C dL_law_857 ?_
      refine tz_iadd C dL_law_858 ?_
      refine tz_sld C hX dL_law_859 hin_186 ?_
      refine tz_aload_n 0 0 C dL_law_860 rfl rfl ?_
      refine tz_iload_n 3 3 C dL_law_861 rfl rfl ?_
      refine tz_iconst 4 (by decide) C dL_law_862 ?_
      refine tz_iadd C dL_law_863 ?_
      refine tz_sld C hX dL_law_864 hin_187 ?_
      refine tz_calliv C dL_law_865 lk_RL_117 (m_X10_put G hG  h) (by decide) rfl rfl rfl rfl ⟨Nat.le_of_ble_eq_true rfl, Nat.le_of_ble_eq_true rfl⟩ (Nat.le_of_ble_eq_true rfl) rfl (fun r_191 σ_190 h => ?_)
      refine tz_icmp_eq 1049 C dL_law_868 (by decide) h (fun c_192 h => ?_) (fun c_192 h => ?_)
      · refine tz_iinc 3 [(0, .ref 1002), (1, .ref 0), (2, .ref 133)] 6 C dL_law_1049 (by decide) rfl (Nat.le_of_ble_eq_true rfl) rfl h (fun x3_193 h => ?_)
        refine tz_goto 18 C dL_law_1052 (by decide) ?_
        exact tz_sub (ihag_1 _ _ h) [1, 2, 3, 0] rfl
      · refine tz_iconst 0 (by decide) C dL_law_871 ?_
        exact hret _ _ _ _ dL_law_872 rfl h
    refine tz_swc 25 (840) 873 C dL_law_33 (by decide) (by decide) rfl (by decide) h (fun h => ?_) (fun e25 h => ?_)
    · refine tz_aload_n 1 1 C dL_law_873 rfl rfl ?_
      refine tz_aload_n 0 0 C dL_law_874 rfl rfl ?_
      refine tz_iload_n 3 3 C dL_law_875 rfl rfl ?_
      refine tz_iconst 1 (by decide) C dL_law_876 ?_
      refine tz_iadd C dL_law_877 ?_
      obtain ⟨hin_194, h⟩ := h
      refine tz_sld C hX dL_law_878 hin_194 ?_
      refine tz_aload_n 0 0 C dL_law_879 rfl rfl ?_
      refine tz_iload_n 3 3 C dL_law_880 rfl rfl ?_
      refine tz_iconst 2 (by decide) C dL_law_881 ?_
      refine tz_iadd C dL_law_882 ?_
      obtain ⟨hin_195, h⟩ := h
      refine tz_sld C hX dL_law_883 hin_195 ?_
      refine tz_aload_n 0 0 C dL_law_884 rfl rfl ?_
      refine tz_iload_n 3 3 C dL_law_885 rfl rfl ?_
      refine tz_iconst 3 (by decide) C dL_law_886 ?_
      refine tz_iadd C dL_law_887 ?_
      obtain ⟨hin_196, h⟩ := h
      refine tz_sld C hX dL_law_888 hin_196 ?_
      refine tz_calliv C dL_law_889 lk_RL_118 (m_X9_get G hG  h) (by decide) rfl rfl rfl rfl ⟨Nat.le_of_ble_eq_true rfl, Nat.le_of_ble_eq_true rfl⟩ (Nat.le_of_ble_eq_true rfl) rfl (fun r_198 σ_197 h => ?_)
      refine tz_aload_n 2 2 C dL_law_892 rfl rfl ?_
      refine tz_aload_n 0 0 C dL_law_893 rfl rfl ?_
      refine tz_iload_n 3 3 C dL_law_894 rfl rfl ?_
      refine tz_iconst 1 (by decide) C dL_law_895 ?_
      refine tz_iadd C dL_law_896 ?_
      refine tz_sld C hX dL_law_897 hin_194 ?_
      refine tz_aload_n 0 0 C dL_law_898 rfl rfl ?_
      refine tz_iload_n 3 3 C dL_law_899 rfl rfl ?_
      refine tz_iconst 2 (by decide) C dL_law_900 ?_
      refine tz_iadd C dL_law_901 ?_
      refine tz_sld C hX dL_law_902 hin_195 ?_
      refine tz_aload_n 0 0 C dL_law_903 rfl rfl ?_
      refine tz_iload_n 3 3 C dL_law_904 rfl rfl ?_
      refine tz_iconst 3 (by decide) C dL_law_905 ?_
      refine tz_iadd C dL_law_906 ?_
      refine tz_sld C hX dL_law_907 hin_196 ?_
      refine tz_calliv C dL_law_908 lk_RL_121 (m_X10_get G hG  h) (by decide) rfl rfl rfl rfl ⟨Nat.le_of_ble_eq_true rfl, Nat.le_of_ble_eq_true rfl⟩ (Nat.le_of_ble_eq_true rfl) rfl (fun r_200 σ_199 h => ?_)
      refine tz_icmp_eq 1049 C dL_law_911 (by decide) h (fun c_201 h => ?_) (fun c_201 h => ?_)
      · refine tz_iinc 3 [(0, .ref 1002), (1, .ref 0), (2, .ref 133)] 6 C dL_law_1049 (by decide) rfl (Nat.le_of_ble_eq_true rfl) rfl h (fun x3_202 h => ?_)
        refine tz_goto 18 C dL_law_1052 (by decide) ?_
        exact tz_sub (ihag_1 _ _ h) [1, 2, 3, 0] rfl
      · refine tz_iconst 0 (by decide) C dL_law_914 ?_
        exact hret _ _ _ _ dL_law_915 rfl h
    refine tz_swc 26 (883) 916 C dL_law_33 (by decide) (by decide) rfl (by decide) h (fun h => ?_) (fun e26 h => ?_)
    · refine tz_aload_n 1 1 C dL_law_916 rfl rfl ?_
      refine tz_aload_n 0 0 C dL_law_917 rfl rfl ?_
      refine tz_iload_n 3 3 C dL_law_918 rfl rfl ?_
      refine tz_iconst 1 (by decide) C dL_law_919 ?_
      refine tz_iadd C dL_law_920 ?_
      obtain ⟨hin_203, h⟩ := h
      refine tz_sld C hX dL_law_921 hin_203 ?_
      refine tz_aload_n 0 0 C dL_law_922 rfl rfl ?_
      refine tz_iload_n 3 3 C dL_law_923 rfl rfl ?_
      refine tz_iconst 2 (by decide) C dL_law_924 ?_
      refine tz_iadd C dL_law_925 ?_
      obtain ⟨hin_204, h⟩ := h
      refine tz_sld C hX dL_law_926 hin_204 ?_
      refine tz_aload_n 0 0 C dL_law_927 rfl rfl ?_
      refine tz_iload_n 3 3 C dL_law_928 rfl rfl ?_
      refine tz_iconst 3 (by decide) C dL_law_929 ?_
      refine tz_iadd C dL_law_930 ?_
      obtain ⟨hin_205, h⟩ := h
      refine tz_sld C hX dL_law_931 hin_205 ?_
      refine tz_aload_n 0 0 C dL_law_932 rfl rfl ?_
      refine tz_iload_n 3 3 C dL_law_933 rfl rfl ?_
      refine tz_iconst 4 (by decide) C dL_law_934 ?_
      refine tz_iadd C dL_law_935 ?_
      obtain ⟨hin_206, h⟩ := h
      refine tz_sld C hX dL_law_936 hin_206 ?_
      refine tz_aload_n 0 0 C dL_law_937 rfl rfl ?_
      refine tz_iload_n 3 3 C dL_law_938 rfl rfl ?_
      refine tz_iconst 5 (by decide) C dL_law_939 ?_
      refine tz_iadd C dL_law_940 ?_
      obtain ⟨hin_207, h⟩ := h
      refine tz_sld C hX dL_law_941 hin_207 ?_
      refine tz_calliv C dL_law_942 lk_RL_122 (m_X9_copy G hG  h) (by decide) rfl rfl rfl rfl ⟨Nat.le_of_ble_eq_true rfl, Nat.le_of_ble_eq_true rfl⟩ (Nat.le_of_ble_eq_true rfl) rfl (fun r_209 σ_208 h => ?_)
      refine tz_aload_n 2 2 C dL_law_945 rfl rfl ?_
      refine tz_aload_n 0 0 C dL_law_946 rfl rfl ?_
      refine tz_iload_n 3 3 C dL_law_947 rfl rfl ?_
      refine tz_iconst 1 (by decide) C dL_law_948 ?_
      refine tz_iadd C dL_law_949 ?_
      refine tz_sld C hX dL_law_950 hin_203 ?_
      refine tz_aload_n 0 0 C dL_law_951 rfl rfl ?_
      refine tz_iload_n 3 3 C dL_law_952 rfl rfl ?_
      refine tz_iconst 2 (by decide) C dL_law_953 ?_
      refine tz_iadd C dL_law_954 ?_
      refine tz_sld C hX dL_law_955 hin_204 ?_
      refine tz_aload_n 0 0 C dL_law_956 rfl rfl ?_
      refine tz_iload_n 3 3 C dL_law_957 rfl rfl ?_
      refine tz_iconst 3 (by decide) C dL_law_958 ?_
      refine tz_iadd C dL_law_959 ?_
      refine tz_sld C hX dL_law_960 hin_205 ?_
      refine tz_aload_n 0 0 C dL_law_961 rfl rfl ?_
      refine tz_iload_n 3 3 C dL_law_962 rfl rfl ?_
      refine tz_iconst 4 (by decide) C dL_law_963 ?_
      refine tz_iadd C dL_law_964 ?_
      refine tz_sld C hX dL_law_965 hin_206 ?_
      refine tz_aload_n 0 0 C dL_law_966 rfl rfl ?_
      refine tz_iload_n 3 3 C dL_law_967 rfl rfl ?_
      refine tz_iconst 5 (by decide) C dL_law_968 ?_
      refine tz_iadd C dL_law_969 ?_
      refine tz_sld C hX dL_law_970 hin_207 ?_
      refine tz_calliv C dL_law_971 lk_RL_126 (m_X10_copy G hG  h) (by decide) rfl rfl rfl rfl ⟨Nat.le_of_ble_eq_true rfl, Nat.le_of_ble_eq_true rfl⟩ (Nat.le_of_ble_eq_true rfl) rfl (fun r_211 σ_210 h => ?_)
      refine tz_icmp_eq 1049 C dL_law_974 (by decide) h (fun c_212 h => ?_) (fun c_212 h => ?_)
      · refine tz_iinc 3 [(0, .ref 1002), (1, .ref 0), (2, .ref 133)] 6 C dL_law_1049 (by decide) rfl (Nat.le_of_ble_eq_true rfl) rfl h (fun x3_213 h => ?_)
        refine tz_goto 18 C dL_law_1052 (by decide) ?_
        exact tz_sub (ihag_1 _ _ h) [1, 2, 3, 0] rfl
      · refine tz_iconst 0 (by decide) C dL_law_977 ?_
        exact hret _ _ _ _ dL_law_978 rfl h
    refine tz_swc 27 (946) 979 C dL_law_33 (by decide) (by decide) rfl (by decide) h (fun h => ?_) (fun e27 h => ?_)
    · refine tz_aload_n 1 1 C dL_law_979 rfl rfl ?_
      refine tz_aload_n 0 0 C dL_law_980 rfl rfl ?_
      refine tz_iload_n 3 3 C dL_law_981 rfl rfl ?_
      refine tz_iconst 1 (by decide) C dL_law_982 ?_
      refine tz_iadd C dL_law_983 ?_
      obtain ⟨hin_214, h⟩ := h
      refine tz_sld C hX dL_law_984 hin_214 ?_
      refine tz_aload_n 0 0 C dL_law_985 rfl rfl ?_
      refine tz_iload_n 3 3 C dL_law_986 rfl rfl ?_
      refine tz_iconst 2 (by decide) C dL_law_987 ?_
      refine tz_iadd C dL_law_988 ?_
      obtain ⟨hin_215, h⟩ := h
      refine tz_sld C hX dL_law_989 hin_215 ?_
      refine tz_calliv C dL_law_990 lk_RL_127 (m_X9_write G hG  h) (by decide) rfl rfl rfl rfl ⟨Nat.le_of_ble_eq_true rfl, Nat.le_of_ble_eq_true rfl⟩ (Nat.le_of_ble_eq_true rfl) rfl (fun r_217 σ_216 h => ?_)
      refine tz_aload_n 2 2 C dL_law_993 rfl rfl ?_
      refine tz_aload_n 0 0 C dL_law_994 rfl rfl ?_
      refine tz_iload_n 3 3 C dL_law_995 rfl rfl ?_
      refine tz_iconst 1 (by decide) C dL_law_996 ?_
      refine tz_iadd C dL_law_997 ?_
      refine tz_sld C hX dL_law_998 hin_214 ?_
      refine tz_aload_n 0 0 C dL_law_999 rfl rfl ?_
      refine tz_iload_n 3 3 C dL_law_1000 rfl rfl ?_
      refine tz_iconst 2 (by decide) C dL_law_1001 ?_
      refine tz_iadd C dL_law_1002 ?_
      refine tz_sld C hX dL_law_1003 hin_215 ?_
      refine tz_calliv C dL_law_1004 lk_RL_130 (m_X10_write G hG  h) (by decide) rfl rfl rfl rfl ⟨Nat.le_of_ble_eq_true rfl, Nat.le_of_ble_eq_true rfl⟩ (Nat.le_of_ble_eq_true rfl) rfl (fun r_219 σ_218 h => ?_)
      refine tz_icmp_eq 1049 C dL_law_1007 (by decide) h (fun c_220 h => ?_) (fun c_220 h => ?_)
      · refine tz_iinc 3 [(0, .ref 1002), (1, .ref 0), (2, .ref 133)] 6 C dL_law_1049 (by decide) rfl (Nat.le_of_ble_eq_true rfl) rfl h (fun x3_221 h => ?_)
        refine tz_goto 18 C dL_law_1052 (by decide) ?_
        exact tz_sub (ihag_1 _ _ h) [1, 2, 3, 0] rfl
      · refine tz_iconst 0 (by decide) C dL_law_1010 ?_
        exact hret _ _ _ _ dL_law_1011 rfl h
    refine tz_swc 28 (979) 1012 C dL_law_33 (by decide) (by decide) rfl (by decide) h (fun h => ?_) (fun e28 h => ?_)
    · refine tz_aload_n 1 1 C dL_law_1012 rfl rfl ?_
      refine tz_aload_n 0 0 C dL_law_1013 rfl rfl ?_
      refine tz_iload_n 3 3 C dL_law_1014 rfl rfl ?_
      refine tz_iconst 1 (by decide) C dL_law_1015 ?_
      refine tz_iadd C dL_law_1016 ?_
      obtain ⟨hin_222, h⟩ := h
      refine tz_sld C hX dL_law_1017 hin_222 ?_
      refine tz_calliv C dL_law_1018 lk_RL_131 (m_X9_count G hG  h) (by decide) rfl rfl rfl rfl ⟨Nat.le_of_ble_eq_true rfl, Nat.le_of_ble_eq_true rfl⟩ (Nat.le_of_ble_eq_true rfl) rfl (fun r_224 σ_223 h => ?_)
      refine tz_aload_n 2 2 C dL_law_1021 rfl rfl ?_
      refine tz_aload_n 0 0 C dL_law_1022 rfl rfl ?_
      refine tz_iload_n 3 3 C dL_law_1023 rfl rfl ?_
      refine tz_iconst 1 (by decide) C dL_law_1024 ?_
      refine tz_iadd C dL_law_1025 ?_
      refine tz_sld C hX dL_law_1026 hin_222 ?_
      refine tz_calliv C dL_law_1027 lk_RL_134 (m_X10_count G hG  h) (by decide) rfl rfl rfl rfl ⟨Nat.le_of_ble_eq_true rfl, Nat.le_of_ble_eq_true rfl⟩ (Nat.le_of_ble_eq_true rfl) rfl (fun r_226 σ_225 h => ?_)
      refine tz_icmp_eq 1049 C dL_law_1030 (by decide) h (fun c_227 h => ?_) (fun c_227 h => ?_)
      · refine tz_iinc 3 [(0, .ref 1002), (1, .ref 0), (2, .ref 133)] 6 C dL_law_1049 (by decide) rfl (Nat.le_of_ble_eq_true rfl) rfl h (fun x3_228 h => ?_)
        refine tz_goto 18 C dL_law_1052 (by decide) ?_
        exact tz_sub (ihag_1 _ _ h) [1, 2, 3, 0] rfl
      · refine tz_iconst 0 (by decide) C dL_law_1033 ?_
        exact hret _ _ _ _ dL_law_1034 rfl h
    refine tz_swc 29 (1002) 1035 C dL_law_33 (by decide) (by decide) rfl (by decide) h (fun h => ?_) (fun e29 h => ?_)
    · refine tz_aload_n 1 1 C dL_law_1035 rfl rfl ?_
      refine tz_calllv C dL_law_1036 lk_RL_135 (m_X9_digest G hG  h) (by decide) rfl rfl rfl rfl ⟨Nat.le_of_ble_eq_true rfl, Nat.le_of_ble_eq_true rfl⟩ (Nat.le_of_ble_eq_true rfl) rfl (fun r_230 σ_229 h => ?_)
      refine tz_aload_n 2 2 C dL_law_1039 rfl rfl ?_
      refine tz_calllv C dL_law_1040 lk_RL_139 (m_X10_digest G hG  h) (by decide) rfl rfl rfl rfl ⟨Nat.le_of_ble_eq_true rfl, Nat.le_of_ble_eq_true rfl⟩ (Nat.le_of_ble_eq_true rfl) rfl (fun r_232 σ_231 h => ?_)
      refine tz_lcmp C dL_law_1043 ?_
      refine tz_if_eq 1049 C dL_law_1044 (by decide) h (fun c_233 h => ?_) (fun c_233 h => ?_)
      · refine tz_iinc 3 [(0, .ref 1002), (1, .ref 0), (2, .ref 133)] 6 C dL_law_1049 (by decide) rfl (Nat.le_of_ble_eq_true rfl) rfl h (fun x3_234 h => ?_)
        refine tz_goto 18 C dL_law_1052 (by decide) ?_
        exact tz_sub (ihag_1 _ _ h) [1, 2, 3, 0] rfl
      · refine tz_iconst 0 (by decide) C dL_law_1047 ?_
        exact hret _ _ _ _ dL_law_1048 rfl h
    replace h := h e0 e1 e2 e3 e4 e5 e6 e7 e8 e9 e10 e11 e12 e13 e14 e15 e16 e17 e18 e19 e20 e21 e22 e23 e24 e25 e26 e27 e28 e29
    refine tz_tabOut 1049 C dL_law_33 (tz_out29 e0 e1 e2 e3 e4 e5 e6 e7 e8 e9 e10 e11 e12 e13 e14 e15 e16 e17 e18 e19 e20 e21 e22 e23 e24 e25 e26 e27 e28 e29) (by decide) ?_
    refine tz_iinc 3 [(0, .ref 1002), (1, .ref 0), (2, .ref 133)] 6 C dL_law_1049 (by decide) rfl (Nat.le_of_ble_eq_true rfl) rfl h (fun x3_235 h => ?_)
    refine tz_goto 18 C dL_law_1052 (by decide) ?_
    exact tz_sub (ihag_1 _ _ h) [1, 2, 3, 0] rfl
