set_option maxRecDepth 20000 in
theorem sk_195 {K : sm_H} (hK : sc_KOk K) : sm_okM sc_Ts sc_sx sc_zx sc_oc K sc_cl sc_Y 195 (4, 0, sb_195) :=
  sm_okM_of (pool := sp_27) (⟨"TwoWayGrammarModel", "weigh", "(I)V"⟩, prog_14_method_27_code, none) (by rfl) (sm_memf 1990 rfl rfl) (by decide +kernel) ⟨by decide, by decide⟩ (by decide) (Or.inl ⟨rfl, rfl⟩) (by decide +kernel) (sp_ok_27 hK _)
set_option maxRecDepth 20000 in
theorem sk_196 {K : sm_H} (hK : sc_KOk K) : sm_okM sc_Ts sc_sx sc_zx sc_oc K sc_cl sc_Y 196 (11, 0, sb_196) :=
  sm_okM_of (pool := sp_27) (⟨"TwoWayGrammarModel", "alternative", "(I)V"⟩, prog_14_method_28_code, none) (by rfl) (sm_memf 1994 rfl rfl) (by decide +kernel) ⟨by decide, by decide⟩ (by decide) (Or.inl ⟨rfl, rfl⟩) (by decide +kernel) (sp_ok_27 hK _)
set_option maxRecDepth 20000 in
theorem sk_197 {K : sm_H} (hK : sc_KOk K) : sm_okM sc_Ts sc_sx sc_zx sc_oc K sc_cl sc_Y 197 (4, 1, sb_197) :=
  sm_okM_of (pool := sp_27) (⟨"TwoWayGrammarModel", "line", "(I)I"⟩, prog_14_method_26_code, (some (.int))) (by rfl) (sm_memf 1998 rfl rfl) (by decide +kernel) ⟨by decide, by decide⟩ (by decide) (Or.inr (Or.inl ⟨rfl, rfl⟩)) (by decide +kernel) (sp_ok_27 hK _)
set_option maxRecDepth 20000 in
theorem sk_198 {K : sm_H} (hK : sc_KOk K) : sm_okM sc_Ts sc_sx sc_zx sc_oc K sc_cl sc_Y 198 (2, 4, sb_198) :=
  sm_okM_of (pool := sp_27) (⟨"TwoWayGrammarModel", "isVoid", "(I)Z"⟩, prog_14_method_25_code, (some (.boolean))) (by rfl) (sm_memf 2002 rfl rfl) (by decide +kernel) ⟨by decide, by decide⟩ (by decide) (Or.inr (Or.inr (Or.inr (Or.inr (Or.inl ⟨rfl, rfl⟩))))) (by decide +kernel) (sp_ok_27 hK _)
set_option maxRecDepth 20000 in
theorem sk_199 {K : sm_H} (hK : sc_KOk K) : sm_okM sc_Ts sc_sx sc_zx sc_oc K sc_cl sc_Y 199 (8, 0, sb_199) :=
  sm_okM_of (pool := sp_27) (⟨"TwoWayGrammarModel", "formOf", "(I)V"⟩, prog_14_method_29_code, none) (by rfl) (sm_memf 2006 rfl rfl) (by decide +kernel) ⟨by decide, by decide⟩ (by decide) (Or.inl ⟨rfl, rfl⟩) (by decide +kernel) (sp_ok_27 hK _)
set_option maxRecDepth 20000 in
theorem sk_200 {K : sm_H} (hK : sc_KOk K) : sm_okM sc_Ts sc_sx sc_zx sc_oc K sc_cl sc_Y 200 (11, 0, sb_200) :=
  sm_okM_of (pool := sp_27) (⟨"TwoWayGrammarModel", "behind", "(IJ)V"⟩, prog_14_method_30_code, none) (by rfl) (sm_memf 2010 rfl rfl) (by decide +kernel) ⟨by decide, by decide⟩ (by decide) (Or.inl ⟨rfl, rfl⟩) (by decide +kernel) (sp_ok_27 hK _)
set_option maxRecDepth 20000 in
theorem sk_201 {K : sm_H} (hK : sc_KOk K) : sm_okM sc_Ts sc_sx sc_zx sc_oc K sc_cl sc_Y 201 (8, 1, sb_201) :=
  sm_okM_of (pool := sp_27) (⟨"TwoWayGrammarModel", "check", "()I"⟩, prog_14_method_34_code, (some (.int))) (by rfl) (sm_memf 2014 rfl rfl) (by decide +kernel) ⟨by decide, by decide⟩ (by decide) (Or.inr (Or.inl ⟨rfl, rfl⟩)) (by decide +kernel) (sp_ok_27 hK _)
set_option maxRecDepth 20000 in
theorem sk_202 {K : sm_H} (hK : sc_KOk K) : sm_okM sc_Ts sc_sx sc_zx sc_oc K sc_cl sc_Y 202 (5, 1, sb_202) :=
  sm_okM_of (pool := sp_27) (⟨"TwoWayGrammarModel", "least", "(III)I"⟩, prog_14_method_33_code, (some (.int))) (by rfl) (sm_memf 2018 rfl rfl) (by decide +kernel) ⟨by decide, by decide⟩ (by decide) (Or.inr (Or.inl ⟨rfl, rfl⟩)) (by decide +kernel) (sp_ok_27 hK _)
set_option maxRecDepth 20000 in
theorem sk_203 {K : sm_H} (hK : sc_KOk K) : sm_okM sc_Ts sc_sx sc_zx sc_oc K sc_cl sc_Y 203 (3, 2, sb_203) :=
  sm_okM_of (pool := sp_27) (⟨"TwoWayGrammarModel", "directors", "(II)J"⟩, prog_14_method_32_code, (some (.long))) (by rfl) (sm_memf 2022 rfl rfl) (by decide +kernel) ⟨by decide, by decide⟩ (by decide) (Or.inr (Or.inr (Or.inl ⟨rfl, rfl⟩))) (by decide +kernel) (sp_ok_27 hK _)
set_option maxRecDepth 20000 in
theorem sk_204 {K : sm_H} (hK : sc_KOk K) : sm_okM sc_Ts sc_sx sc_zx sc_oc K sc_cl sc_Y 204 (4, 2, sb_204) :=
  sm_okM_of (pool := sp_27) (⟨"TwoWayGrammarModel", "rule", "(II)J"⟩, prog_14_method_36_code, (some (.long))) (by rfl) (sm_memf 2026 rfl rfl) (by decide +kernel) ⟨by decide, by decide⟩ (by decide) (Or.inr (Or.inr (Or.inl ⟨rfl, rfl⟩))) (by decide +kernel) (sp_ok_27 hK _)
set_option maxRecDepth 20000 in
theorem sk_205 {K : sm_H} (hK : sc_KOk K) : sm_okM sc_Ts sc_sx sc_zx sc_oc K sc_cl sc_Y 205 (2, 1, sb_205) :=
  sm_okM_of (pool := sp_27) (⟨"TwoWayGrammarModel", "print", "()I"⟩, prog_14_method_61_code, (some (.int))) (by rfl) (sm_memf 2030 rfl rfl) (by decide +kernel) ⟨by decide, by decide⟩ (by decide) (Or.inr (Or.inl ⟨rfl, rfl⟩)) (by decide +kernel) (sp_ok_27 hK _)
set_option maxRecDepth 20000 in
theorem sk_206 {K : sm_H} (hK : sc_KOk K) : sm_okM sc_Ts sc_sx sc_zx sc_oc K sc_cl sc_Y 206 (5, 0, sb_206) :=
  sm_okM_of (pool := sp_27) (⟨"TwoWayGrammarModel", "walk", "(I)V"⟩, prog_14_method_41_code, none) (by rfl) (sm_memf 2034 rfl rfl) (by decide +kernel) ⟨by decide, by decide⟩ (by decide) (Or.inl ⟨rfl, rfl⟩) (by decide +kernel) (sp_ok_27 hK _)
set_option maxRecDepth 20000 in
theorem sk_207 {K : sm_H} (hK : sc_KOk K) : sm_okM sc_Ts sc_sx sc_zx sc_oc K sc_cl sc_Y 207 (2, 0, sb_207) :=
  sm_okM_of (pool := sp_27) (⟨"TwoWayGrammarModel", "enter", "(I)V"⟩, prog_14_method_45_code, none) (by rfl) (sm_memf 2038 rfl rfl) (by decide +kernel) ⟨by decide, by decide⟩ (by decide) (Or.inl ⟨rfl, rfl⟩) (by decide +kernel) (sp_ok_27 hK _)
set_option maxRecDepth 20000 in
theorem sk_208 {K : sm_H} (hK : sc_KOk K) : sm_okM sc_Ts sc_sx sc_zx sc_oc K sc_cl sc_Y 208 (4, 1, sb_208) :=
  sm_okM_of (pool := sp_27) (⟨"TwoWayGrammarModel", "comes", "(IJ)I"⟩, prog_14_method_42_code, (some (.int))) (by rfl) (sm_memf 2042 rfl rfl) (by decide +kernel) ⟨by decide, by decide⟩ (by decide) (Or.inr (Or.inl ⟨rfl, rfl⟩)) (by decide +kernel) (sp_ok_27 hK _)
set_option maxRecDepth 20000 in
theorem sk_209 {K : sm_H} (hK : sc_KOk K) : sm_okM sc_Ts sc_sx sc_zx sc_oc K sc_cl sc_Y 209 (4, 0, sb_209) :=
  sm_okM_of (pool := sp_27) (⟨"TwoWayGrammarModel", "push", "(III)V"⟩, prog_14_method_40_code, none) (by rfl) (sm_memf 2046 rfl rfl) (by decide +kernel) ⟨by decide, by decide⟩ (by decide) (Or.inl ⟨rfl, rfl⟩) (by decide +kernel) (sp_ok_27 hK _)
set_option maxRecDepth 20000 in
theorem sk_210 {K : sm_H} (hK : sc_KOk K) : sm_okM sc_Ts sc_sx sc_zx sc_oc K sc_cl sc_Y 210 (5, 0, sb_210) :=
  sm_okM_of (pool := sp_27) (⟨"TwoWayGrammarModel", "unit", "(IZ)V"⟩, prog_14_method_50_code, none) (by rfl) (sm_memf 2051 rfl rfl) (by decide +kernel) ⟨by decide, by decide⟩ (by decide) (Or.inl ⟨rfl, rfl⟩) (by decide +kernel) (sp_ok_27 hK _)
set_option maxRecDepth 20000 in
theorem sk_211 {K : sm_H} (hK : sc_KOk K) : sm_okM sc_Ts sc_sx sc_zx sc_oc K sc_cl sc_Y 211 (2, 1, sb_211) :=
  sm_okM_of (pool := sp_27) (⟨"TwoWayGrammarModel", "draw", "(I)I"⟩, prog_14_method_44_code, (some (.int))) (by rfl) (sm_memf 2055 rfl rfl) (by decide +kernel) ⟨by decide, by decide⟩ (by decide) (Or.inr (Or.inl ⟨rfl, rfl⟩)) (by decide +kernel) (sp_ok_27 hK _)
set_option maxRecDepth 20000 in
theorem sk_212 {K : sm_H} (hK : sc_KOk K) : sm_okM sc_Ts sc_sx sc_zx sc_oc K sc_cl sc_Y 212 (3, 4, sb_212) :=
  sm_okM_of (pool := sp_27) (⟨"TwoWayGrammarModel", "has", "(J)Z"⟩, prog_14_method_43_code, (some (.boolean))) (by rfl) (sm_memf 2061 rfl rfl) (by decide +kernel) ⟨by decide, by decide⟩ (by decide) (Or.inr (Or.inr (Or.inr (Or.inr (Or.inl ⟨rfl, rfl⟩))))) (by decide +kernel) (sp_ok_27 hK _)
set_option maxRecDepth 20000 in
theorem sk_213 {K : sm_H} (hK : sc_KOk K) : sm_okM sc_Ts sc_sx sc_zx sc_oc K sc_cl sc_Y 213 (2, 0, sb_213) :=
  sm_okM_of (pool := sp_27) (⟨"TwoWayGrammarModel", "single", "(I)V"⟩, prog_14_method_52_code, none) (by rfl) (sm_memf 2065 rfl rfl) (by decide +kernel) ⟨by decide, by decide⟩ (by decide) (Or.inl ⟨rfl, rfl⟩) (by decide +kernel) (sp_ok_27 hK _)
set_option maxRecDepth 20000 in
theorem sk_214 {K : sm_H} (hK : sc_KOk K) : sm_okM sc_Ts sc_sx sc_zx sc_oc K sc_cl sc_Y 214 (3, 0, sb_214) :=
  sm_okM_of (pool := sp_27) (⟨"TwoWayGrammarModel", "match", "(I)V"⟩, prog_14_method_53_code, none) (by rfl) (sm_memf 2069 rfl rfl) (by decide +kernel) ⟨by decide, by decide⟩ (by decide) (Or.inl ⟨rfl, rfl⟩) (by decide +kernel) (sp_ok_27 hK _)
