set_option maxRecDepth 20000 in
theorem sk_170 {K : sm_H} (hK : sc_KOk K) : sm_okM sc_Ts sc_sx sc_zx sc_oc K sc_cl sc_Y 170 (1, 1, sb_170) :=
  sm_okM_of (pool := sp_27) (⟨"TwoWayGrammarModel", "thrown", "()I"⟩, prog_14_method_2_code, (some (.int))) (by rfl) (sm_mem 1848 (by decide +kernel)) (by decide +kernel) ⟨by decide, by decide⟩ (by decide) (Or.inr (Or.inl ⟨rfl, rfl⟩)) (by decide +kernel) (sp_ok_27 hK _)
set_option maxRecDepth 20000 in
theorem sk_171 {K : sm_H} (hK : sc_KOk K) : sm_okM sc_Ts sc_sx sc_zx sc_oc K sc_cl sc_Y 171 (3, 4, sb_171) :=
  sm_okM_of (pool := sp_27) (⟨"TwoWayGrammarModel", "type", "(IC)Z"⟩, prog_14_method_3_code, (some (.boolean))) (by rfl) (sm_mem 1852 (by decide +kernel)) (by decide +kernel) ⟨by decide, by decide⟩ (by decide) (Or.inr (Or.inr (Or.inr (Or.inr (Or.inl ⟨rfl, rfl⟩))))) (by decide +kernel) (sp_ok_27 hK _)
set_option maxRecDepth 20000 in
theorem sk_172 {K : sm_H} (hK : sc_KOk K) : sm_okM sc_Ts sc_sx sc_zx sc_oc K sc_cl sc_Y 172 (3, 1, sb_172) :=
  sm_okM_of (pool := sp_27) (⟨"TwoWayGrammarModel", "clear", "(I)I"⟩, prog_14_method_4_code, (some (.int))) (by rfl) (sm_mem 1856 (by decide +kernel)) (by decide +kernel) ⟨by decide, by decide⟩ (by decide) (Or.inr (Or.inl ⟨rfl, rfl⟩)) (by decide +kernel) (sp_ok_27 hK _)
set_option maxRecDepth 20000 in
theorem sk_173 {K : sm_H} (hK : sc_KOk K) : sm_okM sc_Ts sc_sx sc_zx sc_oc K sc_cl sc_Y 173 (2, 1, sb_173) :=
  sm_okM_of (pool := sp_27) (⟨"TwoWayGrammarModel", "sample", "(I)I"⟩, prog_14_method_6_code, (some (.int))) (by rfl) (sm_mem 1860 (by decide +kernel)) (by decide +kernel) ⟨by decide, by decide⟩ (by decide) (Or.inr (Or.inl ⟨rfl, rfl⟩)) (by decide +kernel) (sp_ok_27 hK _)
set_option maxRecDepth 20000 in
theorem sk_174 {K : sm_H} (hK : sc_KOk K) : sm_okM sc_Ts sc_sx sc_zx sc_oc K sc_cl sc_Y 174 (5, 0, sb_174) :=
  sm_okM_of (pool := sp_27) (⟨"TwoWayGrammarModel", "say", "(J)V"⟩, prog_14_method_5_code, none) (by rfl) (sm_mem 1865 (by decide +kernel)) (by decide +kernel) ⟨by decide, by decide⟩ (by decide) (Or.inl ⟨rfl, rfl⟩) (by decide +kernel) (sp_ok_27 hK _)
set_option maxRecDepth 20000 in
theorem sk_175 {K : sm_H} (hK : sc_KOk K) : sm_okM sc_Ts sc_sx sc_zx sc_oc K sc_cl sc_Y 175 (2, 1, sb_175) :=
  sm_okM_of (pool := sp_27) (⟨"TwoWayGrammarModel", "compile", "()I"⟩, prog_14_method_35_code, (some (.int))) (by rfl) (sm_mem 1909 (by decide +kernel)) (by decide +kernel) ⟨by decide, by decide⟩ (by decide) (Or.inr (Or.inl ⟨rfl, rfl⟩)) (by decide +kernel) (sp_ok_27 hK _)
set_option maxRecDepth 20000 in
theorem sk_176 {K : sm_H} (hK : sc_KOk K) : sm_okM sc_Ts sc_sx sc_zx sc_oc K sc_cl sc_Y 176 (3, 0, sb_176) :=
  sm_okM_of (pool := sp_27) (⟨"TwoWayGrammarModel", "read", "()V"⟩, prog_14_method_23_code, none) (by rfl) (sm_mem 1913 (by decide +kernel)) (by decide +kernel) ⟨by decide, by decide⟩ (by decide) (Or.inl ⟨rfl, rfl⟩) (by decide +kernel) (sp_ok_27 hK _)
set_option maxRecDepth 20000 in
theorem sk_177 {K : sm_H} (hK : sc_KOk K) : sm_okM sc_Ts sc_sx sc_zx sc_oc K sc_cl sc_Y 177 (4, 0, sb_177) :=
  sm_okM_of (pool := sp_27) (⟨"TwoWayGrammarModel", "scan", "()V"⟩, prog_14_method_11_code, none) (by rfl) (sm_mem 1917 (by decide +kernel)) (by decide +kernel) ⟨by decide, by decide⟩ (by decide) (Or.inl ⟨rfl, rfl⟩) (by decide +kernel) (sp_ok_27 hK _)
set_option maxRecDepth 20000 in
theorem sk_179 {K : sm_H} (hK : sc_KOk K) : sm_okM sc_Ts sc_sx sc_zx sc_oc K sc_cl sc_Y 179 (2, 1, sb_179) :=
  sm_okM_of (pool := sp_27) (⟨"TwoWayGrammarModel", "charAt", "(I)I"⟩, prog_14_method_10_code, (some (.int))) (by rfl) (sm_mem 1924 (by decide +kernel)) (by decide +kernel) ⟨by decide, by decide⟩ (by decide) (Or.inr (Or.inl ⟨rfl, rfl⟩)) (by decide +kernel) (sp_ok_27 hK _)
set_option maxRecDepth 20000 in
theorem sk_183 {K : sm_H} (hK : sc_KOk K) : sm_okM sc_Ts sc_sx sc_zx sc_oc K sc_cl sc_Y 183 (3, 0, sb_183) :=
  sm_okM_of (pool := sp_27) (⟨"TwoWayGrammarModel", "readRule", "()V"⟩, prog_14_method_24_code, none) (by rfl) (sm_mem 1940 (by decide +kernel)) (by decide +kernel) ⟨by decide, by decide⟩ (by decide) (Or.inl ⟨rfl, rfl⟩) (by decide +kernel) (sp_ok_27 hK _)
set_option maxRecDepth 20000 in
theorem sk_184 {K : sm_H} (hK : sc_KOk K) : sm_okM sc_Ts sc_sx sc_zx sc_oc K sc_cl sc_Y 184 (3, 0, sb_184) :=
  sm_okM_of (pool := sp_27) (⟨"TwoWayGrammarModel", "blame", "(II)V"⟩, prog_14_method_13_code, none) (by rfl) (sm_mem 1944 (by decide +kernel)) (by decide +kernel) ⟨by decide, by decide⟩ (by decide) (Or.inl ⟨rfl, rfl⟩) (by decide +kernel) (sp_ok_27 hK _)
set_option maxRecDepth 20000 in
theorem sk_204 {K : sm_H} (hK : sc_KOk K) : sm_okM sc_Ts sc_sx sc_zx sc_oc K sc_cl sc_Y 204 (4, 2, sb_204) :=
  sm_okM_of (pool := sp_27) (⟨"TwoWayGrammarModel", "rule", "(II)J"⟩, prog_14_method_36_code, (some (.long))) (by rfl) (sm_mem 2030 (by decide +kernel)) (by decide +kernel) ⟨by decide, by decide⟩ (by decide) (Or.inr (Or.inr (Or.inl ⟨rfl, rfl⟩))) (by decide +kernel) (sp_ok_27 hK _)
