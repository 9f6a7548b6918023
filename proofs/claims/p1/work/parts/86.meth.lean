set_option maxRecDepth 20000 in
theorem sk_205 {K : sm_H} (hK : sc_KOk K) : sm_okM sc_Ts sc_sx sc_zx sc_oc K sc_cl sc_Y 205 (2, 1, sb_205) :=
  sm_okM_of (pool := sp_27) (⟨"TwoWayGrammarModel", "print", "()I"⟩, prog_14_method_61_code, (some (.int))) (by rfl) (sm_mem 2034 (by decide +kernel)) (by decide +kernel) ⟨by decide, by decide⟩ (by decide) (Or.inr (Or.inl ⟨rfl, rfl⟩)) (by decide +kernel) (sp_ok_27 hK _)
set_option maxRecDepth 20000 in
theorem sk_228 {K : sm_H} (hK : sc_KOk K) : sm_okM sc_Ts sc_sx sc_zx sc_oc K sc_cl sc_Y 228 (1, 1, sb_228) :=
  sm_okM_of (pool := sp_27) (⟨"TwoWayGrammarModel", "parse", "()I"⟩, prog_14_method_63_code, (some (.int))) (by rfl) (sm_mem 2131 (by decide +kernel)) (by decide +kernel) ⟨by decide, by decide⟩ (by decide) (Or.inr (Or.inl ⟨rfl, rfl⟩)) (by decide +kernel) (sp_ok_27 hK _)
set_option maxRecDepth 20000 in
theorem sk_232 {K : sm_H} (hK : sc_KOk K) : sm_okM sc_Ts sc_sx sc_zx sc_oc K sc_cl sc_Y 232 (4, 1, sb_232) :=
  sm_okM_of (pool := sp_27) (⟨"TwoWayGrammarModel", "grow", "(JI)I"⟩, prog_14_method_64_code, (some (.int))) (by rfl) (sm_mem 2149 (by decide +kernel)) (by decide +kernel) ⟨by decide, by decide⟩ (by decide) (Or.inr (Or.inl ⟨rfl, rfl⟩)) (by decide +kernel) (sp_ok_27 hK _)
set_option maxRecDepth 20000 in
theorem sk_233 {K : sm_H} (hK : sc_KOk K) : sm_okM sc_Ts sc_sx sc_zx sc_oc K sc_cl sc_Y 233 (4, 2, sb_233) :=
  sm_okM_of (pool := sp_27) (⟨"TwoWayGrammarModel", "node", "(II)J"⟩, prog_14_method_66_code, (some (.long))) (by rfl) (sm_mem 2153 (by decide +kernel)) (by decide +kernel) ⟨by decide, by decide⟩ (by decide) (Or.inr (Or.inr (Or.inl ⟨rfl, rfl⟩))) (by decide +kernel) (sp_ok_27 hK _)
set_option maxRecDepth 20000 in
theorem sk_235 {K : sm_H} (hK : sc_KOk K) : sm_okM sc_Ts sc_sx sc_zx sc_oc K sc_cl sc_Y 235 (6, 4, sb_235) :=
  sm_okM_of (pool := sp_27) (⟨"TwoWayGrammarModel", "set", "(IJ)Z"⟩, prog_14_method_67_code, (some (.boolean))) (by rfl) (sm_mem 2161 (by decide +kernel)) (by decide +kernel) ⟨by decide, by decide⟩ (by decide) (Or.inr (Or.inr (Or.inr (Or.inr (Or.inl ⟨rfl, rfl⟩))))) (by decide +kernel) (sp_ok_27 hK _)
set_option maxRecDepth 20000 in
theorem sk_237 {K : sm_H} (hK : sc_KOk K) : sm_okM sc_Ts sc_sx sc_zx sc_oc K sc_cl sc_Y 237 (2, 5, sb_237) :=
  sm_okM_of (pool := sp_27) (⟨"TwoWayGrammarModel", "output", "(I)C"⟩, prog_14_method_69_code, (some (.char))) (by rfl) (sm_mem 2171 (by decide +kernel)) (by decide +kernel) ⟨by decide, by decide⟩ (by decide) (Or.inr (Or.inr (Or.inr (Or.inr (Or.inr (Or.inl ⟨rfl, rfl⟩)))))) (by decide +kernel) (sp_ok_27 hK _)
set_option maxRecDepth 20000 in
theorem sk_238 {K : sm_H} (hK : sc_KOk K) : sm_okM sc_Ts sc_sx sc_zx sc_oc K sc_cl sc_Y 238 (2, 1, sb_238) :=
  sm_okM_of (pool := sp_27) (⟨"TwoWayGrammarModel", "carry", "()I"⟩, prog_14_method_70_code, (some (.int))) (by rfl) (sm_mem 2175 (by decide +kernel)) (by decide +kernel) ⟨by decide, by decide⟩ (by decide) (Or.inr (Or.inl ⟨rfl, rfl⟩)) (by decide +kernel) (sp_ok_27 hK _)
set_option maxRecDepth 20000 in
theorem sk_239 {K : sm_H} (hK : sc_KOk K) : sm_okM sc_Ts sc_sx sc_zx sc_oc K sc_cl sc_Y 239 (2, 4, sb_239) :=
  sm_okM_of (pool := sp_27) (⟨"TwoWayGrammarModel", "keep", "()Z"⟩, prog_14_method_71_code, (some (.boolean))) (by rfl) (sm_mem 2179 (by decide +kernel)) (by decide +kernel) ⟨by decide, by decide⟩ (by decide) (Or.inr (Or.inr (Or.inr (Or.inr (Or.inl ⟨rfl, rfl⟩))))) (by decide +kernel) (sp_ok_27 hK _)
set_option maxRecDepth 20000 in
theorem sk_240 {K : sm_H} (hK : sc_KOk K) : sm_okM sc_Ts sc_sx sc_zx sc_oc K sc_cl sc_Y 240 (5, 1, sb_240) :=
  sm_okM_of (pool := sp_27) (⟨"TwoWayGrammarModel", "compare", "()I"⟩, prog_14_method_72_code, (some (.int))) (by rfl) (sm_mem 2183 (by decide +kernel)) (by decide +kernel) ⟨by decide, by decide⟩ (by decide) (Or.inr (Or.inl ⟨rfl, rfl⟩)) (by decide +kernel) (sp_ok_27 hK _)
set_option maxRecDepth 20000 in
theorem sk_241 {K : sm_H} (hK : sc_KOk K) : sm_okM sc_Ts sc_sx sc_zx sc_oc K sc_cl sc_Y 241 (2, 1, sb_241) :=
  sm_okM_of (pool := sp_27) (⟨"TwoWayGrammarModel", "count", "(I)I"⟩, prog_14_method_73_code, (some (.int))) (by rfl) (sm_mem 2187 (by decide +kernel)) (by decide +kernel) ⟨by decide, by decide⟩ (by decide) (Or.inr (Or.inl ⟨rfl, rfl⟩)) (by decide +kernel) (sp_ok_27 hK _)
