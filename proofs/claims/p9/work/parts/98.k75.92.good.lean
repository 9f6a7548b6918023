/-! ALL METHODS are right -/
set_option maxRecDepth 20000 in
theorem sg_0 {K : sm_H} (hK : sc_KOk K) : ∀ i M, sb_all0[i]? = some M → sm_okM sc_Ts sc_sx sc_zx sc_oc K sc_cl sc_Y (0 + i) M :=
  sm_lst (sk_0 hK) (sm_lst (sk_1 hK) (sm_lst (sk_2 hK) (sm_lst (sk_3 hK) (sm_lst (sk_4 hK) (sm_lst (sk_5 hK) (sm_lst (sk_6 hK) (sm_lst (sk_7 hK) (sm_lst (sk_8 hK) (sm_lst (sk_9 hK) (sm_lst (sk_10 hK) (sm_lst (sk_11 hK) (sm_lst (sk_12 hK) (sm_lst (sk_13 hK) (sm_lst (sk_14 hK) (sm_lst (sk_15 hK) (sm_lst (sk_16 hK) (sm_lst (sk_17 hK) (sm_lst (sk_18 hK) (sm_lst (sk_19 hK) (sm_lst (sk_20 hK) (sm_lst (sk_21 hK) (sm_lst (sk_22 hK) (sm_lst (sk_23 hK) (sm_lst (sk_24 hK) (sm_lst (sk_25 hK) (sm_lst (sk_26 hK) (sm_lst (sk_27 hK) (sm_lst (sk_28 hK) (sm_lst (sk_29 hK) (sm_lst (sk_30 hK) (sm_lst (sk_31 hK) (sm_lst (sk_32 hK) (sm_lst (sk_33 hK) (sm_lst (sk_34 hK) (sm_lst (sk_35 hK) (sm_lst (sk_36 hK) (sm_lst (sk_37 hK) (sm_lst (sk_38 hK) (sm_lst (sk_39 hK) (sm_lst0))))))))))))))))))))))))))))))))))))))))
set_option maxRecDepth 20000 in
theorem sg_1 {K : sm_H} (hK : sc_KOk K) : ∀ i M, sb_all1[i]? = some M → sm_okM sc_Ts sc_sx sc_zx sc_oc K sc_cl sc_Y (40 + i) M :=
  sm_lst (sk_40 hK) (sm_lst (sk_41 hK) (sm_lst (sk_42 hK) (sm_lst (sk_43 hK) (sm_lst (sk_44 hK) (sm_lst (sk_45 hK) (sm_lst (sk_46 hK) (sm_lst (sk_47 hK) (sm_lst (sk_48 hK) (sm_lst (sk_49 hK) (sm_lst (sk_50 hK) (sm_lst (sk_51 hK) (sm_lst (sk_52 hK) (sm_lst (sk_53 hK) (sm_lst (sk_54 hK) (sm_lst (sk_55 hK) (sm_lst (sk_56 hK) (sm_lst (sk_57 hK) (sm_lst (sk_58 hK) (sm_lst (sk_59 hK) (sm_lst (sk_60 hK) (sm_lst (sk_61 hK) (sm_lst (sk_62 hK) (sm_lst (sk_63 hK) (sm_lst (sk_64 hK) (sm_lst (sk_65 hK) (sm_lst (sk_66 hK) (sm_lst (sk_67 hK) (sm_lst (sk_68 hK) (sm_lst (sk_69 hK) (sm_lst (sk_70 hK) (sm_lst (sk_71 hK) (sm_lst (sk_72 hK) (sm_lst (sk_73 hK) (sm_lst (sk_74 hK) (sm_lst (sk_75 hK) (sm_lst (sk_76 hK) (sm_lst (sk_77 hK) (sm_lst (sk_78 hK) (sm_lst (sk_79 hK) (sm_lst0))))))))))))))))))))))))))))))))))))))))
set_option maxRecDepth 20000 in
theorem sg_2 {K : sm_H} (hK : sc_KOk K) : ∀ i M, sb_all2[i]? = some M → sm_okM sc_Ts sc_sx sc_zx sc_oc K sc_cl sc_Y (80 + i) M :=
  sm_lst (sk_80 hK) (sm_lst (sk_81 hK) (sm_lst (sk_82 hK) (sm_lst (sk_83 hK) (sm_lst (sk_84 hK) (sm_lst (sk_85 hK) (sm_lst (sk_86 hK) (sm_lst (sk_87 hK) (sm_lst (sk_88 hK) (sm_lst (sk_89 hK) (sm_lst (sk_90 hK) (sm_lst (sk_91 hK) (sm_lst (sk_92 hK) (sm_lst (sk_93 hK) (sm_lst (sk_94 hK) (sm_lst (sk_95 hK) (sm_lst (sk_96 hK) (sm_lst (sk_97 hK) (sm_lst (sk_98 hK) (sm_lst (sk_99 hK) (sm_lst (sk_100 hK) (sm_lst (sk_101 hK) (sm_lst (sk_102 hK) (sm_lst (sk_103 hK) (sm_lst (sk_104 hK) (sm_lst (sk_105 hK) (sm_lst (sk_106 hK) (sm_lst (sk_107 hK) (sm_lst (sk_108 hK) (sm_lst (sk_109 hK) (sm_lst (sk_110 hK) (sm_lst (sk_111 hK) (sm_lst (sk_112 hK) (sm_lst (sk_113 hK) (sm_lst (sk_114 hK) (sm_lst (sk_115 hK) (sm_lst (sk_116 hK) (sm_lst (sk_117 hK) (sm_lst (sk_118 hK) (sm_lst (sk_119 hK) (sm_lst0))))))))))))))))))))))))))))))))))))))))
set_option maxRecDepth 20000 in
theorem sg_3 {K : sm_H} (hK : sc_KOk K) : ∀ i M, sb_all3[i]? = some M → sm_okM sc_Ts sc_sx sc_zx sc_oc K sc_cl sc_Y (120 + i) M :=
  sm_lst (sk_120 hK) (sm_lst (sk_121 hK) (sm_lst (sk_122 hK) (sm_lst (sk_123 hK) (sm_lst (sk_124 hK) (sm_lst (sk_125 hK) (sm_lst (sk_126 hK) (sm_lst (sk_127 hK) (sm_lst (sk_128 hK) (sm_lst (sk_129 hK) (sm_lst (sk_130 hK) (sm_lst (sk_131 hK) (sm_lst (sk_132 hK) (sm_lst (sk_133 hK) (sm_lst (sk_134 hK) (sm_lst (sk_135 hK) (sm_lst (sk_136 hK) (sm_lst (sk_137 hK) (sm_lst (sk_138 hK) (sm_lst (sk_139 hK) (sm_lst (sk_140 hK) (sm_lst (sk_141 hK) (sm_lst (sk_142 hK) (sm_lst (sk_143 hK) (sm_lst (sk_144 hK) (sm_lst (sk_145 hK) (sm_lst (sk_146 hK) (sm_lst (sk_147 hK) (sm_lst (sk_148 hK) (sm_lst (sk_149 hK) (sm_lst (sk_150 hK) (sm_lst (sk_151 hK) (sm_lst (sk_152 hK) (sm_lst (sk_153 hK) (sm_lst (sk_154 hK) (sm_lst (sk_155 hK) (sm_lst (sk_156 hK) (sm_lst (sk_157 hK) (sm_lst (sk_158 hK) (sm_lst (sk_159 hK) (sm_lst0))))))))))))))))))))))))))))))))))))))))
set_option maxRecDepth 20000 in
theorem sg_4 {K : sm_H} (hK : sc_KOk K) : ∀ i M, sb_all4[i]? = some M → sm_okM sc_Ts sc_sx sc_zx sc_oc K sc_cl sc_Y (160 + i) M :=
  sm_lst (sk_160 hK) (sm_lst (sk_161 hK) (sm_lst (sk_162 hK) (sm_lst (sk_163 hK) (sm_lst (sk_164 hK) (sm_lst (sk_165 hK) (sm_lst (sk_166 hK) (sm_lst (sk_167 hK) (sm_lst (sk_168 hK) (sm_lst (sk_169 hK) (sm_lst (sk_170 hK) (sm_lst (sk_171 hK) (sm_lst (sk_172 hK) (sm_lst (sk_173 hK) (sm_lst (sk_174 hK) (sm_lst (sk_175 hK) (sm_lst (sk_176 hK) (sm_lst (sk_177 hK) (sm_lst (sk_178 hK) (sm_lst (sk_179 hK) (sm_lst (sk_180 hK) (sm_lst (sk_181 hK) (sm_lst (sk_182 hK) (sm_lst (sk_183 hK) (sm_lst (sk_184 hK) (sm_lst (sk_185 hK) (sm_lst (sk_186 hK) (sm_lst (sk_187 hK) (sm_lst (sk_188 hK) (sm_lst (sk_189 hK) (sm_lst (sk_190 hK) (sm_lst (sk_191 hK) (sm_lst (sk_192 hK) (sm_lst (sk_193 hK) (sm_lst (sk_194 hK) (sm_lst (sk_195 hK) (sm_lst (sk_196 hK) (sm_lst (sk_197 hK) (sm_lst (sk_198 hK) (sm_lst (sk_199 hK) (sm_lst0))))))))))))))))))))))))))))))))))))))))
set_option maxRecDepth 20000 in
theorem sg_5 {K : sm_H} (hK : sc_KOk K) : ∀ i M, sb_all5[i]? = some M → sm_okM sc_Ts sc_sx sc_zx sc_oc K sc_cl sc_Y (200 + i) M :=
  sm_lst (sk_200 hK) (sm_lst (sk_201 hK) (sm_lst (sk_202 hK) (sm_lst (sk_203 hK) (sm_lst (sk_204 hK) (sm_lst (sk_205 hK) (sm_lst (sk_206 hK) (sm_lst (sk_207 hK) (sm_lst (sk_208 hK) (sm_lst (sk_209 hK) (sm_lst (sk_210 hK) (sm_lst (sk_211 hK) (sm_lst (sk_212 hK) (sm_lst (sk_213 hK) (sm_lst (sk_214 hK) (sm_lst (sk_215 hK) (sm_lst (sk_216 hK) (sm_lst (sk_217 hK) (sm_lst (sk_218 hK) (sm_lst (sk_219 hK) (sm_lst (sk_220 hK) (sm_lst (sk_221 hK) (sm_lst (sk_222 hK) (sm_lst (sk_223 hK) (sm_lst (sk_224 hK) (sm_lst (sk_225 hK) (sm_lst (sk_226 hK) (sm_lst (sk_227 hK) (sm_lst (sk_228 hK) (sm_lst (sk_229 hK) (sm_lst (sk_230 hK) (sm_lst (sk_231 hK) (sm_lst (sk_232 hK) (sm_lst (sk_233 hK) (sm_lst (sk_234 hK) (sm_lst (sk_235 hK) (sm_lst (sk_236 hK) (sm_lst (sk_237 hK) (sm_lst (sk_238 hK) (sm_lst (sk_239 hK) (sm_lst0))))))))))))))))))))))))))))))))))))))))
set_option maxRecDepth 20000 in
theorem sg_6 {K : sm_H} (hK : sc_KOk K) : ∀ i M, sb_all6[i]? = some M → sm_okM sc_Ts sc_sx sc_zx sc_oc K sc_cl sc_Y (240 + i) M :=
  sm_lst (sk_240 hK) (sm_lst (sk_241 hK) (sm_lst0))
theorem sc_good {K : sm_H} (hK : sc_KOk K) : sm_Good sc_Ts sc_sx sc_zx sc_oc K sc_cl sc_Y sc_P := by
  intro mi M h
  obtain ⟨l, hl, hm⟩ := sc_Pinv h
  have hj : mi / 40 < 7 := (List.getElem?_eq_some_iff.mp hl).1
  rcases (show mi / 40 = 0 ∨ mi / 40 = 1 ∨ mi / 40 = 2 ∨ mi / 40 = 3 ∨ mi / 40 = 4 ∨ mi / 40 = 5 ∨ mi / 40 = 6 by omega) with e | e | e | e | e | e | e
  · rw [e] at hl
    cases hl
    have := sg_0 hK _ M hm
    rwa [show 0 + mi % 40 = mi by omega] at this
  · rw [e] at hl
    cases hl
    have := sg_1 hK _ M hm
    rwa [show 40 + mi % 40 = mi by omega] at this
  · rw [e] at hl
    cases hl
    have := sg_2 hK _ M hm
    rwa [show 80 + mi % 40 = mi by omega] at this
  · rw [e] at hl
    cases hl
    have := sg_3 hK _ M hm
    rwa [show 120 + mi % 40 = mi by omega] at this
  · rw [e] at hl
    cases hl
    have := sg_4 hK _ M hm
    rwa [show 160 + mi % 40 = mi by omega] at this
  · rw [e] at hl
    cases hl
    have := sg_5 hK _ M hm
    rwa [show 200 + mi % 40 = mi by omega] at this
  · rw [e] at hl
    cases hl
    have := sg_6 hK _ M hm
    rwa [show 240 + mi % 40 = mi by omega] at this
