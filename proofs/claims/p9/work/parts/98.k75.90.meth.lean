set_option maxRecDepth 20000 in
theorem sk_241 {K : sm_H} (hK : sc_KOk K) : sm_okM sc_Ts sc_sx sc_zx sc_oc K sc_cl sc_Y 241 (2, 1, sb_241) :=
  sm_okM_of (pool := sp_27) (⟨"TwoWayGrammarModel", "count", "(I)I"⟩, prog_14_method_73_code, (some (.int))) (by rfl) (sm_mem 2187 (by decide +kernel)) (by decide +kernel) ⟨by decide, by decide⟩ (by decide) (Or.inr (Or.inl ⟨rfl, rfl⟩)) (by decide +kernel) (sp_ok_27 hK _)
