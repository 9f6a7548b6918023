set_option maxRecDepth 20000 in
theorem sk_215 {K : sm_H} (hK : sc_KOk K) : sm_okM sc_Ts sc_sx sc_zx sc_oc K sc_cl sc_Y 215 (6, 0, sb_215) :=
  sm_okM_of (pool := sp_27) (⟨"TwoWayGrammarModel", "grown", "(I)V"⟩, prog_14_method_54_code, none) (by rfl) (sm_memf 2074 rfl rfl) (by decide +kernel) ⟨by decide, by decide⟩ (by decide) (Or.inl ⟨rfl, rfl⟩) (by decide +kernel) (sp_ok_27 hK _)
set_option maxRecDepth 20000 in
theorem sk_216 {K : sm_H} (hK : sc_KOk K) : sm_okM sc_Ts sc_sx sc_zx sc_oc K sc_cl sc_Y 216 (4, 1, sb_216) :=
  sm_okM_of (pool := sp_27) (⟨"TwoWayGrammarModel", "keywordOf", "(J)I"⟩, prog_14_method_38_code, (some (.int))) (by rfl) (sm_memf 2078 rfl rfl) (by decide +kernel) ⟨by decide, by decide⟩ (by decide) (Or.inr (Or.inl ⟨rfl, rfl⟩)) (by decide +kernel) (sp_ok_27 hK _)
set_option maxRecDepth 20000 in
theorem sk_217 {K : sm_H} (hK : sc_KOk K) : sm_okM sc_Ts sc_sx sc_zx sc_oc K sc_cl sc_Y 217 (7, 0, sb_217) :=
  sm_okM_of (pool := sp_27) (⟨"TwoWayGrammarModel", "shown", "(I)V"⟩, prog_14_method_60_code, none) (by rfl) (sm_memf 2083 rfl rfl) (by decide +kernel) ⟨by decide, by decide⟩ (by decide) (Or.inl ⟨rfl, rfl⟩) (by decide +kernel) (sp_ok_27 hK _)
set_option maxRecDepth 20000 in
theorem sk_218 {K : sm_H} (hK : sc_KOk K) : sm_okM sc_Ts sc_sx sc_zx sc_oc K sc_cl sc_Y 218 (5, 0, sb_218) :=
  sm_okM_of (pool := sp_27) (⟨"TwoWayGrammarModel", "letters2", "(J)V"⟩, prog_14_method_59_code, none) (by rfl) (sm_memf 2087 rfl rfl) (by decide +kernel) ⟨by decide, by decide⟩ (by decide) (Or.inl ⟨rfl, rfl⟩) (by decide +kernel) (sp_ok_27 hK _)
set_option maxRecDepth 20000 in
theorem sk_219 {K : sm_H} (hK : sc_KOk K) : sm_okM sc_Ts sc_sx sc_zx sc_oc K sc_cl sc_Y 219 (3, 0, sb_219) :=
  sm_okM_of (pool := sp_27) (⟨"TwoWayGrammarModel", "between", "(I)V"⟩, prog_14_method_58_code, none) (by rfl) (sm_memf 2092 rfl rfl) (by decide +kernel) ⟨by decide, by decide⟩ (by decide) (Or.inl ⟨rfl, rfl⟩) (by decide +kernel) (sp_ok_27 hK _)
set_option maxRecDepth 20000 in
theorem sk_220 {K : sm_H} (hK : sc_KOk K) : sm_okM sc_Ts sc_sx sc_zx sc_oc K sc_cl sc_Y 220 (2, 0, sb_220) :=
  sm_okM_of (pool := sp_27) (⟨"TwoWayGrammarModel", "write", "(I)V"⟩, prog_14_method_56_code, none) (by rfl) (sm_memf 2096 rfl rfl) (by decide +kernel) ⟨by decide, by decide⟩ (by decide) (Or.inl ⟨rfl, rfl⟩) (by decide +kernel) (sp_ok_27 hK _)
set_option maxRecDepth 20000 in
theorem sk_221 {K : sm_H} (hK : sc_KOk K) : sm_okM sc_Ts sc_sx sc_zx sc_oc K sc_cl sc_Y 221 (1, 4, sb_221) :=
  sm_okM_of (pool := sp_27) (⟨"TwoWayGrammarModel", "isWordy", "(I)Z"⟩, prog_14_method_57_code, (some (.boolean))) (by rfl) (sm_memf 2099 rfl rfl) (by decide +kernel) ⟨by decide, by decide⟩ (by decide) (Or.inr (Or.inr (Or.inr (Or.inr (Or.inl ⟨rfl, rfl⟩))))) (by decide +kernel) (sp_ok_27 hK _)
set_option maxRecDepth 20000 in
theorem sk_222 {K : sm_H} (hK : sc_KOk K) : sm_okM sc_Ts sc_sx sc_zx sc_oc K sc_cl sc_Y 222 (2, 0, sb_222) :=
  sm_okM_of (pool := sp_27) (⟨"TwoWayGrammarModel", "layout", "(I)V"⟩, prog_14_method_55_code, none) (by rfl) (sm_memf 2103 rfl rfl) (by decide +kernel) ⟨by decide, by decide⟩ (by decide) (Or.inl ⟨rfl, rfl⟩) (by decide +kernel) (sp_ok_27 hK _)
set_option maxRecDepth 20000 in
theorem sk_223 {K : sm_H} (hK : sc_KOk K) : sm_okM sc_Ts sc_sx sc_zx sc_oc K sc_cl sc_Y 223 (6, 0, sb_223) :=
  sm_okM_of (pool := sp_27) (⟨"TwoWayGrammarModel", "choose", "(I)V"⟩, prog_14_method_46_code, none) (by rfl) (sm_memf 2107 rfl rfl) (by decide +kernel) ⟨by decide, by decide⟩ (by decide) (Or.inl ⟨rfl, rfl⟩) (by decide +kernel) (sp_ok_27 hK _)
set_option maxRecDepth 20000 in
theorem sk_224 {K : sm_H} (hK : sc_KOk K) : sm_okM sc_Ts sc_sx sc_zx sc_oc K sc_cl sc_Y 224 (4, 1, sb_224) :=
  sm_okM_of (pool := sp_27) (⟨"TwoWayGrammarModel", "directed", "(I)I"⟩, prog_14_method_47_code, (some (.int))) (by rfl) (sm_memf 2111 rfl rfl) (by decide +kernel) ⟨by decide, by decide⟩ (by decide) (Or.inr (Or.inl ⟨rfl, rfl⟩)) (by decide +kernel) (sp_ok_27 hK _)
set_option maxRecDepth 20000 in
theorem sk_225 {K : sm_H} (hK : sc_KOk K) : sm_okM sc_Ts sc_sx sc_zx sc_oc K sc_cl sc_Y 225 (6, 1, sb_225) :=
  sm_okM_of (pool := sp_27) (⟨"TwoWayGrammarModel", "lowest", "(I)I"⟩, prog_14_method_48_code, (some (.int))) (by rfl) (sm_memf 2115 rfl rfl) (by decide +kernel) ⟨by decide, by decide⟩ (by decide) (Or.inr (Or.inl ⟨rfl, rfl⟩)) (by decide +kernel) (sp_ok_27 hK _)
set_option maxRecDepth 20000 in
theorem sk_226 {K : sm_H} (hK : sc_KOk K) : sm_okM sc_Ts sc_sx sc_zx sc_oc K sc_cl sc_Y 226 (5, 0, sb_226) :=
  sm_okM_of (pool := sp_27) (⟨"TwoWayGrammarModel", "swap", "()V"⟩, prog_14_method_49_code, none) (by rfl) (sm_memf 2119 rfl rfl) (by decide +kernel) ⟨by decide, by decide⟩ (by decide) (Or.inl ⟨rfl, rfl⟩) (by decide +kernel) (sp_ok_27 hK _)
set_option maxRecDepth 20000 in
theorem sk_227 {K : sm_H} (hK : sc_KOk K) : sm_okM sc_Ts sc_sx sc_zx sc_oc K sc_cl sc_Y 227 (4, 0, sb_227) :=
  sm_okM_of (pool := sp_27) (⟨"TwoWayGrammarModel", "again", "(II)V"⟩, prog_14_method_51_code, none) (by rfl) (sm_memf 2123 rfl rfl) (by decide +kernel) ⟨by decide, by decide⟩ (by decide) (Or.inl ⟨rfl, rfl⟩) (by decide +kernel) (sp_ok_27 hK _)
set_option maxRecDepth 20000 in
theorem sk_228 {K : sm_H} (hK : sc_KOk K) : sm_okM sc_Ts sc_sx sc_zx sc_oc K sc_cl sc_Y 228 (1, 1, sb_228) :=
  sm_okM_of (pool := sp_27) (⟨"TwoWayGrammarModel", "parse", "()I"⟩, prog_14_method_63_code, (some (.int))) (by rfl) (sm_memf 2127 rfl rfl) (by decide +kernel) ⟨by decide, by decide⟩ (by decide) (Or.inr (Or.inl ⟨rfl, rfl⟩)) (by decide +kernel) (sp_ok_27 hK _)
set_option maxRecDepth 20000 in
theorem sk_229 {K : sm_H} (hK : sc_KOk K) : sm_okM sc_Ts sc_sx sc_zx sc_oc K sc_cl sc_Y 229 (8, 0, sb_229) :=
  sm_okM_of (pool := sp_27) (⟨"TwoWayGrammarModel", "tokenize", "()V"⟩, prog_14_method_37_code, none) (by rfl) (sm_memf 2131 rfl rfl) (by decide +kernel) ⟨by decide, by decide⟩ (by decide) (Or.inl ⟨rfl, rfl⟩) (by decide +kernel) (sp_ok_27 hK _)
set_option maxRecDepth 20000 in
theorem sk_230 {K : sm_H} (hK : sc_KOk K) : sm_okM sc_Ts sc_sx sc_zx sc_oc K sc_cl sc_Y 230 (3, 1, sb_230) :=
  sm_okM_of (pool := sp_27) (⟨"TwoWayGrammarModel", "signOf", "(I)I"⟩, prog_14_method_39_code, (some (.int))) (by rfl) (sm_memf 2137 rfl rfl) (by decide +kernel) ⟨by decide, by decide⟩ (by decide) (Or.inr (Or.inl ⟨rfl, rfl⟩)) (by decide +kernel) (sp_ok_27 hK _)
set_option maxRecDepth 20000 in
theorem sk_231 {K : sm_H} (hK : sc_KOk K) : sm_okM sc_Ts sc_sx sc_zx sc_oc K sc_cl sc_Y 231 (2, 1, sb_231) :=
  sm_okM_of (pool := sp_27) (⟨"TwoWayGrammarModel", "take", "()I"⟩, prog_14_method_62_code, (some (.int))) (by rfl) (sm_memf 2141 rfl rfl) (by decide +kernel) ⟨by decide, by decide⟩ (by decide) (Or.inr (Or.inl ⟨rfl, rfl⟩)) (by decide +kernel) (sp_ok_27 hK _)
set_option maxRecDepth 20000 in
theorem sk_232 {K : sm_H} (hK : sc_KOk K) : sm_okM sc_Ts sc_sx sc_zx sc_oc K sc_cl sc_Y 232 (4, 1, sb_232) :=
  sm_okM_of (pool := sp_27) (⟨"TwoWayGrammarModel", "grow", "(JI)I"⟩, prog_14_method_64_code, (some (.int))) (by rfl) (sm_memf 2145 rfl rfl) (by decide +kernel) ⟨by decide, by decide⟩ (by decide) (Or.inr (Or.inl ⟨rfl, rfl⟩)) (by decide +kernel) (sp_ok_27 hK _)
set_option maxRecDepth 20000 in
theorem sk_233 {K : sm_H} (hK : sc_KOk K) : sm_okM sc_Ts sc_sx sc_zx sc_oc K sc_cl sc_Y 233 (4, 2, sb_233) :=
  sm_okM_of (pool := sp_27) (⟨"TwoWayGrammarModel", "node", "(II)J"⟩, prog_14_method_66_code, (some (.long))) (by rfl) (sm_memf 2149 rfl rfl) (by decide +kernel) ⟨by decide, by decide⟩ (by decide) (Or.inr (Or.inr (Or.inl ⟨rfl, rfl⟩))) (by decide +kernel) (sp_ok_27 hK _)
set_option maxRecDepth 20000 in
theorem sk_234 {K : sm_H} (hK : sc_KOk K) : sm_okM sc_Ts sc_sx sc_zx sc_oc K sc_cl sc_Y 234 (2, 1, sb_234) :=
  sm_okM_of (pool := sp_27) (⟨"TwoWayGrammarModel", "levelOf", "(I)I"⟩, prog_14_method_65_code, (some (.int))) (by rfl) (sm_memf 2153 rfl rfl) (by decide +kernel) ⟨by decide, by decide⟩ (by decide) (Or.inr (Or.inl ⟨rfl, rfl⟩)) (by decide +kernel) (sp_ok_27 hK _)
set_option maxRecDepth 20000 in
theorem sk_235 {K : sm_H} (hK : sc_KOk K) : sm_okM sc_Ts sc_sx sc_zx sc_oc K sc_cl sc_Y 235 (6, 4, sb_235) :=
  sm_okM_of (pool := sp_27) (⟨"TwoWayGrammarModel", "set", "(IJ)Z"⟩, prog_14_method_67_code, (some (.boolean))) (by rfl) (sm_memf 2157 rfl rfl) (by decide +kernel) ⟨by decide, by decide⟩ (by decide) (Or.inr (Or.inr (Or.inr (Or.inr (Or.inl ⟨rfl, rfl⟩))))) (by decide +kernel) (sp_ok_27 hK _)
set_option maxRecDepth 20000 in
theorem sk_236 {K : sm_H} (hK : sc_KOk K) : sm_okM sc_Ts sc_sx sc_zx sc_oc K sc_cl sc_Y 236 (5, 4, sb_236) :=
  sm_okM_of (pool := sp_27) (⟨"TwoWayGrammarModel", "isName", "(J)Z"⟩, prog_14_method_68_code, (some (.boolean))) (by rfl) (sm_memf 2162 rfl rfl) (by decide +kernel) ⟨by decide, by decide⟩ (by decide) (Or.inr (Or.inr (Or.inr (Or.inr (Or.inl ⟨rfl, rfl⟩))))) (by decide +kernel) (sp_ok_27 hK _)
set_option maxRecDepth 20000 in
theorem sk_237 {K : sm_H} (hK : sc_KOk K) : sm_okM sc_Ts sc_sx sc_zx sc_oc K sc_cl sc_Y 237 (2, 5, sb_237) :=
  sm_okM_of (pool := sp_27) (⟨"TwoWayGrammarModel", "output", "(I)C"⟩, prog_14_method_69_code, (some (.char))) (by rfl) (sm_memf 2167 rfl rfl) (by decide +kernel) ⟨by decide, by decide⟩ (by decide) (Or.inr (Or.inr (Or.inr (Or.inr (Or.inr (Or.inl ⟨rfl, rfl⟩)))))) (by decide +kernel) (sp_ok_27 hK _)
set_option maxRecDepth 20000 in
theorem sk_238 {K : sm_H} (hK : sc_KOk K) : sm_okM sc_Ts sc_sx sc_zx sc_oc K sc_cl sc_Y 238 (2, 1, sb_238) :=
  sm_okM_of (pool := sp_27) (⟨"TwoWayGrammarModel", "carry", "()I"⟩, prog_14_method_70_code, (some (.int))) (by rfl) (sm_memf 2171 rfl rfl) (by decide +kernel) ⟨by decide, by decide⟩ (by decide) (Or.inr (Or.inl ⟨rfl, rfl⟩)) (by decide +kernel) (sp_ok_27 hK _)
set_option maxRecDepth 20000 in
theorem sk_239 {K : sm_H} (hK : sc_KOk K) : sm_okM sc_Ts sc_sx sc_zx sc_oc K sc_cl sc_Y 239 (2, 4, sb_239) :=
  sm_okM_of (pool := sp_27) (⟨"TwoWayGrammarModel", "keep", "()Z"⟩, prog_14_method_71_code, (some (.boolean))) (by rfl) (sm_memf 2175 rfl rfl) (by decide +kernel) ⟨by decide, by decide⟩ (by decide) (Or.inr (Or.inr (Or.inr (Or.inr (Or.inl ⟨rfl, rfl⟩))))) (by decide +kernel) (sp_ok_27 hK _)
set_option maxRecDepth 20000 in
theorem sk_240 {K : sm_H} (hK : sc_KOk K) : sm_okM sc_Ts sc_sx sc_zx sc_oc K sc_cl sc_Y 240 (5, 1, sb_240) :=
  sm_okM_of (pool := sp_27) (⟨"TwoWayGrammarModel", "compare", "()I"⟩, prog_14_method_72_code, (some (.int))) (by rfl) (sm_memf 2179 rfl rfl) (by decide +kernel) ⟨by decide, by decide⟩ (by decide) (Or.inr (Or.inl ⟨rfl, rfl⟩)) (by decide +kernel) (sp_ok_27 hK _)
