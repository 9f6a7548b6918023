set_option maxRecDepth 20000 in
theorem sk_90 {K : sm_H} (hK : sc_KOk K) : sm_okM sc_Ts sc_sx sc_zx sc_oc K sc_cl sc_Y 90 (1, 0, sb_90) :=
  sm_okM_of (pool := sp_17) (⟨"TwoWayGrammar$Text", "drop", "()V"⟩, prog_9_method_4_code, none) (by rfl) (sm_mem 987 (by decide +kernel)) (by decide +kernel) ⟨by decide, by decide⟩ (by decide) (Or.inl ⟨rfl, rfl⟩) (by decide +kernel) (sp_ok_17 hK _)
set_option maxRecDepth 20000 in
theorem sk_91 {K : sm_H} (hK : sc_KOk K) : sm_okM sc_Ts sc_sx sc_zx sc_oc K sc_cl sc_Y 91 (3, 4, sb_91) :=
  sm_okM_of (pool := sp_17) (⟨"TwoWayGrammar$Text", "append", "(C)Z"⟩, prog_9_method_5_code, (some (.boolean))) (by rfl) (sm_mem 992 (by decide +kernel)) (by decide +kernel) ⟨by decide, by decide⟩ (by decide) (Or.inr (Or.inr (Or.inr (Or.inr (Or.inl ⟨rfl, rfl⟩))))) (by decide +kernel) (sp_ok_17 hK _)
set_option maxRecDepth 20000 in
theorem sk_92 {K : sm_H} (hK : sc_KOk K) : sm_okM sc_Ts sc_sx sc_zx sc_oc K sc_cl sc_Y 92 (1, 4, sb_92) :=
  sm_okM_of (pool := sp_12) (⟨"TwoWayGrammar", "keep", "()Z"⟩, prog_1_method_14_code, (some (.boolean))) (by rfl) (sm_mem 997 (by decide +kernel)) (by decide +kernel) ⟨by decide, by decide⟩ (by decide) (Or.inr (Or.inr (Or.inr (Or.inr (Or.inl ⟨rfl, rfl⟩))))) (by decide +kernel) (sp_ok_12 hK _)
set_option maxRecDepth 20000 in
theorem sk_94 {K : sm_H} (hK : sc_KOk K) : sm_okM sc_Ts sc_sx sc_zx sc_oc K sc_cl sc_Y 94 (2, 1, sb_94) :=
  sm_okM_of (pool := sp_12) (⟨"TwoWayGrammar", "count", "(I)I"⟩, prog_1_method_16_code, (some (.int))) (by rfl) (sm_mem 1007 (by decide +kernel)) (by decide +kernel) ⟨by decide, by decide⟩ (by decide) (Or.inr (Or.inl ⟨rfl, rfl⟩)) (by decide +kernel) (sp_ok_12 hK _)
set_option maxRecDepth 20000 in
theorem sk_95 {K : sm_H} (hK : sc_KOk K) : sm_okM sc_Ts sc_sx sc_zx sc_oc K sc_cl sc_Y 95 (3, 4, sb_95) :=
  sm_okM_of (pool := sp_12) (⟨"TwoWayGrammar", "type", "(IC)Z"⟩, prog_1_method_2_code, (some (.boolean))) (by rfl) (sm_mem 1015 (by decide +kernel)) (by decide +kernel) ⟨by decide, by decide⟩ (by decide) (Or.inr (Or.inr (Or.inr (Or.inr (Or.inl ⟨rfl, rfl⟩))))) (by decide +kernel) (sp_ok_12 hK _)
set_option maxRecDepth 20000 in
theorem sk_96 {K : sm_H} (hK : sc_KOk K) : sm_okM sc_Ts sc_sx sc_zx sc_oc K sc_cl sc_Y 96 (2, 3, sb_96) :=
  sm_okM_of (pool := sp_12) (⟨"TwoWayGrammar", "text", "(I)LTwoWayGrammar$Text;"⟩, prog_1_method_17_code, (some (.object "TwoWayGrammar$Text"))) (by rfl) (sm_mem 1088 (by decide +kernel)) (by decide +kernel) ⟨by decide, by decide⟩ (by decide) (Or.inr (Or.inr (Or.inr (Or.inl ⟨rfl, Or.inl ⟨_, rfl⟩⟩)))) (by decide +kernel) (sp_ok_12 hK _)
set_option maxRecDepth 20000 in
theorem sk_97 {K : sm_H} (hK : sc_KOk K) : sm_okM sc_Ts sc_sx sc_zx sc_oc K sc_cl sc_Y 97 (3, 1, sb_97) :=
  sm_okM_of (pool := sp_12) (⟨"TwoWayGrammar", "clear", "(I)I"⟩, prog_1_method_3_code, (some (.int))) (by rfl) (sm_mem 1096 (by decide +kernel)) (by decide +kernel) ⟨by decide, by decide⟩ (by decide) (Or.inr (Or.inl ⟨rfl, rfl⟩)) (by decide +kernel) (sp_ok_12 hK _)
set_option maxRecDepth 20000 in
theorem sk_98 {K : sm_H} (hK : sc_KOk K) : sm_okM sc_Ts sc_sx sc_zx sc_oc K sc_cl sc_Y 98 (2, 1, sb_98) :=
  sm_okM_of (pool := sp_12) (⟨"TwoWayGrammar", "sample", "(I)I"⟩, prog_1_method_4_code, (some (.int))) (by rfl) (sm_mem 1105 (by decide +kernel)) (by decide +kernel) ⟨by decide, by decide⟩ (by decide) (Or.inr (Or.inl ⟨rfl, rfl⟩)) (by decide +kernel) (sp_ok_12 hK _)
set_option maxRecDepth 20000 in
theorem sk_99 {K : sm_H} (hK : sc_KOk K) : sm_okM sc_Ts sc_sx sc_zx sc_oc K sc_cl sc_Y 99 (3, 0, sb_99) :=
  sm_okM_of (pool := sp_17) (⟨"TwoWayGrammar$Text", "appendAll", "(Ljava/lang/String;)V"⟩, prog_9_method_6_code, none) (by rfl) (sm_mem 1128 (by decide +kernel)) (by decide +kernel) ⟨by decide, by decide⟩ (by decide) (Or.inl ⟨rfl, rfl⟩) (by decide +kernel) (sp_ok_17 hK _)
set_option maxRecDepth 20000 in
theorem sk_100 {K : sm_H} (hK : sc_KOk K) : sm_okM sc_Ts sc_sx sc_zx sc_oc K sc_cl sc_Y 100 (3, 2, sb_100) :=
  sm_okM_of (pool := sp_12) (⟨"TwoWayGrammar", "rule", "(II)J"⟩, prog_1_method_6_code, (some (.long))) (by rfl) (sm_mem 1136 (by decide +kernel)) (by decide +kernel) ⟨by decide, by decide⟩ (by decide) (Or.inr (Or.inr (Or.inl ⟨rfl, rfl⟩))) (by decide +kernel) (sp_ok_12 hK _)
set_option maxRecDepth 20000 in
theorem sk_102 {K : sm_H} (hK : sc_KOk K) : sm_okM sc_Ts sc_sx sc_zx sc_oc K sc_cl sc_Y 102 (1, 1, sb_102) :=
  sm_okM_of (pool := sp_12) (⟨"TwoWayGrammar", "parse", "()I"⟩, prog_1_method_7_code, (some (.int))) (by rfl) (sm_mem 1170 (by decide +kernel)) (by decide +kernel) ⟨by decide, by decide⟩ (by decide) (Or.inr (Or.inl ⟨rfl, rfl⟩)) (by decide +kernel) (sp_ok_12 hK _)
set_option maxRecDepth 20000 in
theorem sk_158 {K : sm_H} (hK : sc_KOk K) : sm_okM sc_Ts sc_sx sc_zx sc_oc K sc_cl sc_Y 158 (4, 1, sb_158) :=
  sm_okM_of (pool := sp_12) (⟨"TwoWayGrammar", "grow", "(JI)I"⟩, prog_1_method_8_code, (some (.int))) (by rfl) (sm_mem 1459 (by decide +kernel)) (by decide +kernel) ⟨by decide, by decide⟩ (by decide) (Or.inr (Or.inl ⟨rfl, rfl⟩)) (by decide +kernel) (sp_ok_12 hK _)
set_option maxRecDepth 20000 in
theorem sk_160 {K : sm_H} (hK : sc_KOk K) : sm_okM sc_Ts sc_sx sc_zx sc_oc K sc_cl sc_Y 160 (3, 2, sb_160) :=
  sm_okM_of (pool := sp_12) (⟨"TwoWayGrammar", "node", "(II)J"⟩, prog_1_method_9_code, (some (.long))) (by rfl) (sm_mem 1475 (by decide +kernel)) (by decide +kernel) ⟨by decide, by decide⟩ (by decide) (Or.inr (Or.inr (Or.inl ⟨rfl, rfl⟩))) (by decide +kernel) (sp_ok_12 hK _)
set_option maxRecDepth 20000 in
theorem sk_162 {K : sm_H} (hK : sc_KOk K) : sm_okM sc_Ts sc_sx sc_zx sc_oc K sc_cl sc_Y 162 (6, 4, sb_162) :=
  sm_okM_of (pool := sp_12) (⟨"TwoWayGrammar", "set", "(IJ)Z"⟩, prog_1_method_10_code, (some (.boolean))) (by rfl) (sm_mem 1503 (by decide +kernel)) (by decide +kernel) ⟨by decide, by decide⟩ (by decide) (Or.inr (Or.inr (Or.inr (Or.inr (Or.inl ⟨rfl, rfl⟩))))) (by decide +kernel) (sp_ok_12 hK _)
set_option maxRecDepth 20000 in
theorem sk_164 {K : sm_H} (hK : sc_KOk K) : sm_okM sc_Ts sc_sx sc_zx sc_oc K sc_cl sc_Y 164 (1, 1, sb_164) :=
  sm_okM_of (pool := sp_12) (⟨"TwoWayGrammar", "print", "()I"⟩, prog_1_method_11_code, (some (.int))) (by rfl) (sm_mem 1519 (by decide +kernel)) (by decide +kernel) ⟨by decide, by decide⟩ (by decide) (Or.inr (Or.inl ⟨rfl, rfl⟩)) (by decide +kernel) (sp_ok_12 hK _)
set_option maxRecDepth 20000 in
theorem sk_165 {K : sm_H} (hK : sc_KOk K) : sm_okM sc_Ts sc_sx sc_zx sc_oc K sc_cl sc_Y 165 (2, 5, sb_165) :=
  sm_okM_of (pool := sp_12) (⟨"TwoWayGrammar", "output", "(I)C"⟩, prog_1_method_12_code, (some (.char))) (by rfl) (sm_mem 1531 (by decide +kernel)) (by decide +kernel) ⟨by decide, by decide⟩ (by decide) (Or.inr (Or.inr (Or.inr (Or.inr (Or.inr (Or.inl ⟨rfl, rfl⟩)))))) (by decide +kernel) (sp_ok_12 hK _)
set_option maxRecDepth 20000 in
theorem sk_166 {K : sm_H} (hK : sc_KOk K) : sm_okM sc_Ts sc_sx sc_zx sc_oc K sc_cl sc_Y 166 (1, 1, sb_166) :=
  sm_okM_of (pool := sp_12) (⟨"TwoWayGrammar", "compare", "()I"⟩, prog_1_method_15_code, (some (.int))) (by rfl) (sm_mem 1540 (by decide +kernel)) (by decide +kernel) ⟨by decide, by decide⟩ (by decide) (Or.inr (Or.inl ⟨rfl, rfl⟩)) (by decide +kernel) (sp_ok_12 hK _)
set_option maxRecDepth 20000 in
theorem sk_169 {K : sm_H} (hK : sc_KOk K) : sm_okM sc_Ts sc_sx sc_zx sc_oc K sc_cl sc_Y 169 (1, 0, sb_169) :=
  sm_okM_of (pool := sp_26) (⟨"TwoWayGrammarModel", "<init>", "()V"⟩, prog_14_method_1_code, none) (by rfl) (sm_mem 1553 (by decide +kernel)) (by decide +kernel) ⟨by decide, by decide⟩ (by decide) (Or.inl ⟨rfl, rfl⟩) (by decide +kernel) (sp_ok_26 hK)
