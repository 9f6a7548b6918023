set_option maxRecDepth 20000 in
theorem sk_176 {K : sm_H} (hK : sc_KOk K) : sm_okM sc_Ts sc_sx sc_zx sc_oc K sc_cl sc_Y 176 (3, 0, sb_176) :=
  sm_okM_of (pool := sp_27) (⟨"TwoWayGrammarModel", "read", "()V"⟩, prog_14_method_23_code, none) (by rfl) (sm_memf 1909 rfl rfl) (by decide +kernel) ⟨by decide, by decide⟩ (by decide) (Or.inl ⟨rfl, rfl⟩) (by decide +kernel) (sp_ok_27 hK _)
set_option maxRecDepth 20000 in
theorem sk_177 {K : sm_H} (hK : sc_KOk K) : sm_okM sc_Ts sc_sx sc_zx sc_oc K sc_cl sc_Y 177 (4, 0, sb_177) :=
  sm_okM_of (pool := sp_27) (⟨"TwoWayGrammarModel", "scan", "()V"⟩, prog_14_method_11_code, none) (by rfl) (sm_memf 1913 rfl rfl) (by decide +kernel) ⟨by decide, by decide⟩ (by decide) (Or.inl ⟨rfl, rfl⟩) (by decide +kernel) (sp_ok_27 hK _)
set_option maxRecDepth 20000 in
theorem sk_178 {K : sm_H} (hK : sc_KOk K) : sm_okM sc_Ts sc_sx sc_zx sc_oc K sc_cl sc_Y 178 (1, 4, sb_178) :=
  sm_okM_of (pool := sp_27) (⟨"TwoWayGrammarModel", "isBlank", "(I)Z"⟩, prog_14_method_9_code, (some (.boolean))) (by rfl) (sm_memf 1916 rfl rfl) (by decide +kernel) ⟨by decide, by decide⟩ (by decide) (Or.inr (Or.inr (Or.inr (Or.inr (Or.inl ⟨rfl, rfl⟩))))) (by decide +kernel) (sp_ok_27 hK _)
set_option maxRecDepth 20000 in
theorem sk_179 {K : sm_H} (hK : sc_KOk K) : sm_okM sc_Ts sc_sx sc_zx sc_oc K sc_cl sc_Y 179 (2, 1, sb_179) :=
  sm_okM_of (pool := sp_27) (⟨"TwoWayGrammarModel", "charAt", "(I)I"⟩, prog_14_method_10_code, (some (.int))) (by rfl) (sm_memf 1920 rfl rfl) (by decide +kernel) ⟨by decide, by decide⟩ (by decide) (Or.inr (Or.inl ⟨rfl, rfl⟩)) (by decide +kernel) (sp_ok_27 hK _)
set_option maxRecDepth 20000 in
theorem sk_180 {K : sm_H} (hK : sc_KOk K) : sm_okM sc_Ts sc_sx sc_zx sc_oc K sc_cl sc_Y 180 (1, 4, sb_180) :=
  sm_okM_of (pool := sp_27) (⟨"TwoWayGrammarModel", "isLow", "(I)Z"⟩, prog_14_method_7_code, (some (.boolean))) (by rfl) (sm_memf 1923 rfl rfl) (by decide +kernel) ⟨by decide, by decide⟩ (by decide) (Or.inr (Or.inr (Or.inr (Or.inr (Or.inl ⟨rfl, rfl⟩))))) (by decide +kernel) (sp_ok_27 hK _)
set_option maxRecDepth 20000 in
theorem sk_181 {K : sm_H} (hK : sc_KOk K) : sm_okM sc_Ts sc_sx sc_zx sc_oc K sc_cl sc_Y 181 (4, 1, sb_181) :=
  sm_okM_of (pool := sp_27) (⟨"TwoWayGrammarModel", "letters", "(I)I"⟩, prog_14_method_12_code, (some (.int))) (by rfl) (sm_memf 1927 rfl rfl) (by decide +kernel) ⟨by decide, by decide⟩ (by decide) (Or.inr (Or.inl ⟨rfl, rfl⟩)) (by decide +kernel) (sp_ok_27 hK _)
set_option maxRecDepth 20000 in
theorem sk_182 {K : sm_H} (hK : sc_KOk K) : sm_okM sc_Ts sc_sx sc_zx sc_oc K sc_cl sc_Y 182 (1, 4, sb_182) :=
  sm_okM_of (pool := sp_27) (⟨"TwoWayGrammarModel", "isDigit", "(I)Z"⟩, prog_14_method_8_code, (some (.boolean))) (by rfl) (sm_memf 1932 rfl rfl) (by decide +kernel) ⟨by decide, by decide⟩ (by decide) (Or.inr (Or.inr (Or.inr (Or.inr (Or.inl ⟨rfl, rfl⟩))))) (by decide +kernel) (sp_ok_27 hK _)
set_option maxRecDepth 20000 in
theorem sk_183 {K : sm_H} (hK : sc_KOk K) : sm_okM sc_Ts sc_sx sc_zx sc_oc K sc_cl sc_Y 183 (3, 0, sb_183) :=
  sm_okM_of (pool := sp_27) (⟨"TwoWayGrammarModel", "readRule", "()V"⟩, prog_14_method_24_code, none) (by rfl) (sm_memf 1936 rfl rfl) (by decide +kernel) ⟨by decide, by decide⟩ (by decide) (Or.inl ⟨rfl, rfl⟩) (by decide +kernel) (sp_ok_27 hK _)
set_option maxRecDepth 20000 in
theorem sk_184 {K : sm_H} (hK : sc_KOk K) : sm_okM sc_Ts sc_sx sc_zx sc_oc K sc_cl sc_Y 184 (3, 0, sb_184) :=
  sm_okM_of (pool := sp_27) (⟨"TwoWayGrammarModel", "blame", "(II)V"⟩, prog_14_method_13_code, none) (by rfl) (sm_memf 1940 rfl rfl) (by decide +kernel) ⟨by decide, by decide⟩ (by decide) (Or.inl ⟨rfl, rfl⟩) (by decide +kernel) (sp_ok_27 hK _)
set_option maxRecDepth 20000 in
theorem sk_185 {K : sm_H} (hK : sc_KOk K) : sm_okM sc_Ts sc_sx sc_zx sc_oc K sc_cl sc_Y 185 (1, 1, sb_185) :=
  sm_okM_of (pool := sp_27) (⟨"TwoWayGrammarModel", "newForm", "()I"⟩, prog_14_method_15_code, (some (.int))) (by rfl) (sm_memf 1944 rfl rfl) (by decide +kernel) ⟨by decide, by decide⟩ (by decide) (Or.inr (Or.inl ⟨rfl, rfl⟩)) (by decide +kernel) (sp_ok_27 hK _)
set_option maxRecDepth 20000 in
theorem sk_186 {K : sm_H} (hK : sc_KOk K) : sm_okM sc_Ts sc_sx sc_zx sc_oc K sc_cl sc_Y 186 (9, 0, sb_186) :=
  sm_okM_of (pool := sp_27) (⟨"TwoWayGrammarModel", "form", "()V"⟩, prog_14_method_21_code, none) (by rfl) (sm_memf 1948 rfl rfl) (by decide +kernel) ⟨by decide, by decide⟩ (by decide) (Or.inl ⟨rfl, rfl⟩) (by decide +kernel) (sp_ok_27 hK _)
set_option maxRecDepth 20000 in
theorem sk_187 {K : sm_H} (hK : sc_KOk K) : sm_okM sc_Ts sc_sx sc_zx sc_oc K sc_cl sc_Y 187 (4, 0, sb_187) :=
  sm_okM_of (pool := sp_27) (⟨"TwoWayGrammarModel", "begin", "(I)V"⟩, prog_14_method_16_code, none) (by rfl) (sm_memf 1952 rfl rfl) (by decide +kernel) ⟨by decide, by decide⟩ (by decide) (Or.inl ⟨rfl, rfl⟩) (by decide +kernel) (sp_ok_27 hK _)
set_option maxRecDepth 20000 in
theorem sk_188 {K : sm_H} (hK : sc_KOk K) : sm_okM sc_Ts sc_sx sc_zx sc_oc K sc_cl sc_Y 188 (1, 4, sb_188) :=
  sm_okM_of (pool := sp_27) (⟨"TwoWayGrammarModel", "isPart", "()Z"⟩, prog_14_method_19_code, (some (.boolean))) (by rfl) (sm_memf 1956 rfl rfl) (by decide +kernel) ⟨by decide, by decide⟩ (by decide) (Or.inr (Or.inr (Or.inr (Or.inr (Or.inl ⟨rfl, rfl⟩))))) (by decide +kernel) (sp_ok_27 hK _)
set_option maxRecDepth 20000 in
theorem sk_189 {K : sm_H} (hK : sc_KOk K) : sm_okM sc_Ts sc_sx sc_zx sc_oc K sc_cl sc_Y 189 (2, 1, sb_189) :=
  sm_okM_of (pool := sp_27) (⟨"TwoWayGrammarModel", "sortOf", "(J)I"⟩, prog_14_method_14_code, (some (.int))) (by rfl) (sm_memf 1959 rfl rfl) (by decide +kernel) ⟨by decide, by decide⟩ (by decide) (Or.inr (Or.inl ⟨rfl, rfl⟩)) (by decide +kernel) (sp_ok_27 hK _)
set_option maxRecDepth 20000 in
theorem sk_190 {K : sm_H} (hK : sc_KOk K) : sm_okM sc_Ts sc_sx sc_zx sc_oc K sc_cl sc_Y 190 (2, 0, sb_190) :=
  sm_okM_of (pool := sp_27) (⟨"TwoWayGrammarModel", "part", "()V"⟩, prog_14_method_20_code, none) (by rfl) (sm_memf 1970 rfl rfl) (by decide +kernel) ⟨by decide, by decide⟩ (by decide) (Or.inl ⟨rfl, rfl⟩) (by decide +kernel) (sp_ok_27 hK _)
set_option maxRecDepth 20000 in
theorem sk_191 {K : sm_H} (hK : sc_KOk K) : sm_okM sc_Ts sc_sx sc_zx sc_oc K sc_cl sc_Y 191 (2, 1, sb_191) :=
  sm_okM_of (pool := sp_27) (⟨"TwoWayGrammarModel", "literal", "()I"⟩, prog_14_method_18_code, (some (.int))) (by rfl) (sm_memf 1974 rfl rfl) (by decide +kernel) ⟨by decide, by decide⟩ (by decide) (Or.inr (Or.inl ⟨rfl, rfl⟩)) (by decide +kernel) (sp_ok_27 hK _)
set_option maxRecDepth 20000 in
theorem sk_192 {K : sm_H} (hK : sc_KOk K) : sm_okM sc_Ts sc_sx sc_zx sc_oc K sc_cl sc_Y 192 (2, 0, sb_192) :=
  sm_okM_of (pool := sp_27) (⟨"TwoWayGrammarModel", "put", "(I)V"⟩, prog_14_method_17_code, none) (by rfl) (sm_memf 1978 rfl rfl) (by decide +kernel) ⟨by decide, by decide⟩ (by decide) (Or.inl ⟨rfl, rfl⟩) (by decide +kernel) (sp_ok_27 hK _)
set_option maxRecDepth 20000 in
theorem sk_193 {K : sm_H} (hK : sc_KOk K) : sm_okM sc_Ts sc_sx sc_zx sc_oc K sc_cl sc_Y 193 (2, 0, sb_193) :=
  sm_okM_of (pool := sp_27) (⟨"TwoWayGrammarModel", "plus", "()V"⟩, prog_14_method_22_code, none) (by rfl) (sm_memf 1982 rfl rfl) (by decide +kernel) ⟨by decide, by decide⟩ (by decide) (Or.inl ⟨rfl, rfl⟩) (by decide +kernel) (sp_ok_27 hK _)
set_option maxRecDepth 20000 in
theorem sk_194 {K : sm_H} (hK : sc_KOk K) : sm_okM sc_Ts sc_sx sc_zx sc_oc K sc_cl sc_Y 194 (4, 0, sb_194) :=
  sm_okM_of (pool := sp_27) (⟨"TwoWayGrammarModel", "study", "()V"⟩, prog_14_method_31_code, none) (by rfl) (sm_memf 1986 rfl rfl) (by decide +kernel) ⟨by decide, by decide⟩ (by decide) (Or.inl ⟨rfl, rfl⟩) (by decide +kernel) (sp_ok_27 hK _)
