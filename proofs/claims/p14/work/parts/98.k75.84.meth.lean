set_option maxRecDepth 20000 in
theorem sk_55 {K : sm_H} (hK : sc_KOk K) : sm_okM sc_Ts sc_sx sc_zx sc_oc K sc_cl sc_Y 55 (5, 1, sb_55) :=
  sm_okM_of (pool := sp_14) (⟨"TwoWayGrammar$Reader", "readUnit", "(III)I"⟩, prog_7_method_8_code, (some (.int))) (by rfl) (sm_memf 835 rfl rfl) (by decide +kernel) ⟨by decide, by decide⟩ (by decide) (Or.inr (Or.inl ⟨rfl, rfl⟩)) (by decide +kernel) (sp_ok_14 hK _)
set_option maxRecDepth 20000 in
theorem sk_56 {K : sm_H} (hK : sc_KOk K) : sm_okM sc_Ts sc_sx sc_zx sc_oc K sc_cl sc_Y 56 (1, 4, sb_56) :=
  sm_okM_of (pool := sp_16) (⟨"TwoWayGrammar$Tokens", "beginsPart", "()Z"⟩, prog_10_method_4_code, (some (.boolean))) (by rfl) (sm_memf 839 rfl rfl) (by decide +kernel) ⟨by decide, by decide⟩ (by decide) (Or.inr (Or.inr (Or.inr (Or.inr (Or.inl ⟨rfl, rfl⟩))))) (by decide +kernel) (sp_ok_16 hK _)
set_option maxRecDepth 20000 in
theorem sk_57 {K : sm_H} (hK : sc_KOk K) : sm_okM sc_Ts sc_sx sc_zx sc_oc K sc_cl sc_Y 57 (3, 4, sb_57) :=
  sm_okM_of (pool := sp_14) (⟨"TwoWayGrammar$Reader", "isOneTooMany", "(I)Z"⟩, prog_7_method_9_code, (some (.boolean))) (by rfl) (sm_memf 843 rfl rfl) (by decide +kernel) ⟨by decide, by decide⟩ (by decide) (Or.inr (Or.inr (Or.inr (Or.inr (Or.inl ⟨rfl, rfl⟩))))) (by decide +kernel) (sp_ok_14 hK _)
set_option maxRecDepth 20000 in
theorem sk_58 {K : sm_H} (hK : sc_KOk K) : sm_okM sc_Ts sc_sx sc_zx sc_oc K sc_cl sc_Y 58 (3, 1, sb_58) :=
  sm_okM_of (pool := sp_15) (⟨"TwoWayGrammar$Grammar", "literal", "(I)I"⟩, prog_3_method_4_code, (some (.int))) (by rfl) (sm_memf 847 rfl rfl) (by decide +kernel) ⟨by decide, by decide⟩ (by decide) (Or.inr (Or.inl ⟨rfl, rfl⟩)) (by decide +kernel) (sp_ok_15 hK _)
set_option maxRecDepth 20000 in
theorem sk_59 {K : sm_H} (hK : sc_KOk K) : sm_okM sc_Ts sc_sx sc_zx sc_oc K sc_cl sc_Y 59 (5, 1, sb_59) :=
  sm_okM_of (pool := sp_14) (⟨"TwoWayGrammar$Reader", "readPart", "(I)I"⟩, prog_7_method_10_code, (some (.int))) (by rfl) (sm_memf 851 rfl rfl) (by decide +kernel) ⟨by decide, by decide⟩ (by decide) (Or.inr (Or.inl ⟨rfl, rfl⟩)) (by decide +kernel) (sp_ok_14 hK _)
set_option maxRecDepth 20000 in
theorem sk_60 {K : sm_H} (hK : sc_KOk K) : sm_okM sc_Ts sc_sx sc_zx sc_oc K sc_cl sc_Y 60 (5, 1, sb_60) :=
  sm_okM_of (pool := sp_15) (⟨"TwoWayGrammar$Grammar", "addPart", "(III)I"⟩, prog_3_method_9_code, (some (.int))) (by rfl) (sm_memf 855 rfl rfl) (by decide +kernel) ⟨by decide, by decide⟩ (by decide) (Or.inr (Or.inl ⟨rfl, rfl⟩)) (by decide +kernel) (sp_ok_15 hK _)
set_option maxRecDepth 20000 in
theorem sk_61 {K : sm_H} (hK : sc_KOk K) : sm_okM sc_Ts sc_sx sc_zx sc_oc K sc_cl sc_Y 61 (3, 1, sb_61) :=
  sm_okM_of (pool := sp_15) (⟨"TwoWayGrammar$Grammar", "addLiteral", "(I)I"⟩, prog_3_method_7_code, (some (.int))) (by rfl) (sm_memf 859 rfl rfl) (by decide +kernel) ⟨by decide, by decide⟩ (by decide) (Or.inr (Or.inl ⟨rfl, rfl⟩)) (by decide +kernel) (sp_ok_15 hK _)
set_option maxRecDepth 20000 in
theorem sk_62 {K : sm_H} (hK : sc_KOk K) : sm_okM sc_Ts sc_sx sc_zx sc_oc K sc_cl sc_Y 62 (1, 1, sb_62) :=
  sm_okM_of (pool := sp_15) (⟨"TwoWayGrammar$Grammar", "addGroup", "()I"⟩, prog_3_method_6_code, (some (.int))) (by rfl) (sm_memf 865 rfl rfl) (by decide +kernel) ⟨by decide, by decide⟩ (by decide) (Or.inr (Or.inl ⟨rfl, rfl⟩)) (by decide +kernel) (sp_ok_15 hK _)
set_option maxRecDepth 20000 in
theorem sk_63 {K : sm_H} (hK : sc_KOk K) : sm_okM sc_Ts sc_sx sc_zx sc_oc K sc_cl sc_Y 63 (4, 0, sb_63) :=
  sm_okM_of (pool := sp_15) (⟨"TwoWayGrammar$Grammar", "attach", "(III)V"⟩, prog_3_method_10_code, none) (by rfl) (sm_memf 869 rfl rfl) (by decide +kernel) ⟨by decide, by decide⟩ (by decide) (Or.inl ⟨rfl, rfl⟩) (by decide +kernel) (sp_ok_15 hK _)
set_option maxRecDepth 20000 in
theorem sk_64 {K : sm_H} (hK : sc_KOk K) : sm_okM sc_Ts sc_sx sc_zx sc_oc K sc_cl sc_Y 64 (3, 0, sb_64) :=
  sm_okM_of (pool := sp_14) (⟨"TwoWayGrammar$Reader", "nameUses", "()V"⟩, prog_7_method_11_code, none) (by rfl) (sm_memf 873 rfl rfl) (by decide +kernel) ⟨by decide, by decide⟩ (by decide) (Or.inl ⟨rfl, rfl⟩) (by decide +kernel) (sp_ok_14 hK _)
set_option maxRecDepth 20000 in
theorem sk_65 {K : sm_H} (hK : sc_KOk K) : sm_okM sc_Ts sc_sx sc_zx sc_oc K sc_cl sc_Y 65 (2, 0, sb_65) :=
  sm_okM_of (pool := sp_20) (⟨"TwoWayGrammar$Sets", "work", "()V"⟩, prog_8_method_2_code, none) (by rfl) (sm_memf 878 rfl rfl) (by decide +kernel) ⟨by decide, by decide⟩ (by decide) (Or.inl ⟨rfl, rfl⟩) (by decide +kernel) (sp_ok_20 hK _)
set_option maxRecDepth 20000 in
theorem sk_66 {K : sm_H} (hK : sc_KOk K) : sm_okM sc_Ts sc_sx sc_zx sc_oc K sc_cl sc_Y 66 (4, 0, sb_66) :=
  sm_okM_of (pool := sp_12) (⟨"TwoWayGrammar", "put", "([JIJ)V"⟩, prog_1_method_21_code, none) (by rfl) (sm_memf 882 rfl rfl) (by decide +kernel) ⟨by decide, by decide⟩ (by decide) (Or.inl ⟨rfl, rfl⟩) (by decide +kernel) (sp_ok_12 hK _)
set_option maxRecDepth 20000 in
theorem sk_67 {K : sm_H} (hK : sc_KOk K) : sm_okM sc_Ts sc_sx sc_zx sc_oc K sc_cl sc_Y 67 (3, 0, sb_67) :=
  sm_okM_of (pool := sp_20) (⟨"TwoWayGrammar$Sets", "spreadStarts", "()V"⟩, prog_8_method_9_code, none) (by rfl) (sm_memf 886 rfl rfl) (by decide +kernel) ⟨by decide, by decide⟩ (by decide) (Or.inl ⟨rfl, rfl⟩) (by decide +kernel) (sp_ok_20 hK _)
set_option maxRecDepth 20000 in
theorem sk_68 {K : sm_H} (hK : sc_KOk K) : sm_okM sc_Ts sc_sx sc_zx sc_oc K sc_cl sc_Y 68 (9, 0, sb_68) :=
  sm_okM_of (pool := sp_20) (⟨"TwoWayGrammar$Sets", "refreshForm", "(I)V"⟩, prog_8_method_10_code, none) (by rfl) (sm_memf 891 rfl rfl) (by decide +kernel) ⟨by decide, by decide⟩ (by decide) (Or.inl ⟨rfl, rfl⟩) (by decide +kernel) (sp_ok_20 hK _)
set_option maxRecDepth 20000 in
theorem sk_69 {K : sm_H} (hK : sc_KOk K) : sm_okM sc_Ts sc_sx sc_zx sc_oc K sc_cl sc_Y 69 (9, 0, sb_69) :=
  sm_okM_of (pool := sp_20) (⟨"TwoWayGrammar$Sets", "refreshAlternative", "(I)V"⟩, prog_8_method_11_code, none) (by rfl) (sm_memf 896 rfl rfl) (by decide +kernel) ⟨by decide, by decide⟩ (by decide) (Or.inl ⟨rfl, rfl⟩) (by decide +kernel) (sp_ok_20 hK _)
set_option maxRecDepth 20000 in
theorem sk_70 {K : sm_H} (hK : sc_KOk K) : sm_okM sc_Ts sc_sx sc_zx sc_oc K sc_cl sc_Y 70 (4, 0, sb_70) :=
  sm_okM_of (pool := sp_20) (⟨"TwoWayGrammar$Sets", "refreshPart", "(I)V"⟩, prog_8_method_5_code, none) (by rfl) (sm_memf 900 rfl rfl) (by decide +kernel) ⟨by decide, by decide⟩ (by decide) (Or.inl ⟨rfl, rfl⟩) (by decide +kernel) (sp_ok_20 hK _)
set_option maxRecDepth 20000 in
theorem sk_71 {K : sm_H} (hK : sc_KOk K) : sm_okM sc_Ts sc_sx sc_zx sc_oc K sc_cl sc_Y 71 (3, 1, sb_71) :=
  sm_okM_of (pool := sp_15) (⟨"TwoWayGrammar$Grammar", "formIn", "(I)I"⟩, prog_3_method_11_code, (some (.int))) (by rfl) (sm_memf 904 rfl rfl) (by decide +kernel) ⟨by decide, by decide⟩ (by decide) (Or.inr (Or.inl ⟨rfl, rfl⟩)) (by decide +kernel) (sp_ok_15 hK _)
set_option maxRecDepth 20000 in
theorem sk_72 {K : sm_H} (hK : sc_KOk K) : sm_okM sc_Ts sc_sx sc_zx sc_oc K sc_cl sc_Y 72 (2, 2, sb_72) :=
  sm_okM_of (pool := sp_12) (⟨"TwoWayGrammar", "at", "([JI)J"⟩, prog_1_method_19_code, (some (.long))) (by rfl) (sm_memf 907 rfl rfl) (by decide +kernel) ⟨by decide, by decide⟩ (by decide) (Or.inr (Or.inr (Or.inl ⟨rfl, rfl⟩))) (by decide +kernel) (sp_ok_12 hK _)
set_option maxRecDepth 20000 in
theorem sk_73 {K : sm_H} (hK : sc_KOk K) : sm_okM sc_Ts sc_sx sc_zx sc_oc K sc_cl sc_Y 73 (4, 1, sb_73) :=
  sm_okM_of (pool := sp_20) (⟨"TwoWayGrammar$Sets", "begins", "(I)I"⟩, prog_8_method_7_code, (some (.int))) (by rfl) (sm_memf 913 rfl rfl) (by decide +kernel) ⟨by decide, by decide⟩ (by decide) (Or.inr (Or.inl ⟨rfl, rfl⟩)) (by decide +kernel) (sp_ok_20 hK _)
set_option maxRecDepth 20000 in
theorem sk_74 {K : sm_H} (hK : sc_KOk K) : sm_okM sc_Ts sc_sx sc_zx sc_oc K sc_cl sc_Y 74 (2, 4, sb_74) :=
  sm_okM_of (pool := sp_20) (⟨"TwoWayGrammar$Sets", "mayBePassed", "(I)Z"⟩, prog_8_method_6_code, (some (.boolean))) (by rfl) (sm_memf 917 rfl rfl) (by decide +kernel) ⟨by decide, by decide⟩ (by decide) (Or.inr (Or.inr (Or.inr (Or.inr (Or.inl ⟨rfl, rfl⟩))))) (by decide +kernel) (sp_ok_20 hK _)
set_option maxRecDepth 20000 in
theorem sk_75 {K : sm_H} (hK : sc_KOk K) : sm_okM sc_Ts sc_sx sc_zx sc_oc K sc_cl sc_Y 75 (4, 1, sb_75) :=
  sm_okM_of (pool := sp_20) (⟨"TwoWayGrammar$Sets", "height", "(I)I"⟩, prog_8_method_8_code, (some (.int))) (by rfl) (sm_memf 921 rfl rfl) (by decide +kernel) ⟨by decide, by decide⟩ (by decide) (Or.inr (Or.inl ⟨rfl, rfl⟩)) (by decide +kernel) (sp_ok_20 hK _)
set_option maxRecDepth 20000 in
theorem sk_76 {K : sm_H} (hK : sc_KOk K) : sm_okM sc_Ts sc_sx sc_zx sc_oc K sc_cl sc_Y 76 (5, 0, sb_76) :=
  sm_okM_of (pool := sp_20) (⟨"TwoWayGrammar$Sets", "spreadFollows", "()V"⟩, prog_8_method_12_code, none) (by rfl) (sm_memf 927 rfl rfl) (by decide +kernel) ⟨by decide, by decide⟩ (by decide) (Or.inl ⟨rfl, rfl⟩) (by decide +kernel) (sp_ok_20 hK _)
set_option maxRecDepth 20000 in
theorem sk_77 {K : sm_H} (hK : sc_KOk K) : sm_okM sc_Ts sc_sx sc_zx sc_oc K sc_cl sc_Y 77 (12, 0, sb_77) :=
  sm_okM_of (pool := sp_20) (⟨"TwoWayGrammar$Sets", "spreadInto", "(IJ)V"⟩, prog_8_method_13_code, none) (by rfl) (sm_memf 931 rfl rfl) (by decide +kernel) ⟨by decide, by decide⟩ (by decide) (Or.inl ⟨rfl, rfl⟩) (by decide +kernel) (sp_ok_20 hK _)
set_option maxRecDepth 20000 in
theorem sk_78 {K : sm_H} (hK : sc_KOk K) : sm_okM sc_Ts sc_sx sc_zx sc_oc K sc_cl sc_Y 78 (9, 2, sb_78) :=
  sm_okM_of (pool := sp_20) (⟨"TwoWayGrammar$Sets", "startsFrom", "(IJ)J"⟩, prog_8_method_14_code, (some (.long))) (by rfl) (sm_memf 935 rfl rfl) (by decide +kernel) ⟨by decide, by decide⟩ (by decide) (Or.inr (Or.inr (Or.inl ⟨rfl, rfl⟩))) (by decide +kernel) (sp_ok_20 hK _)
set_option maxRecDepth 20000 in
theorem sk_79 {K : sm_H} (hK : sc_KOk K) : sm_okM sc_Ts sc_sx sc_zx sc_oc K sc_cl sc_Y 79 (6, 0, sb_79) :=
  sm_okM_of (pool := sp_20) (⟨"TwoWayGrammar$Sets", "findDirectors", "()V"⟩, prog_8_method_15_code, none) (by rfl) (sm_memf 940 rfl rfl) (by decide +kernel) ⟨by decide, by decide⟩ (by decide) (Or.inl ⟨rfl, rfl⟩) (by decide +kernel) (sp_ok_20 hK _)
set_option maxRecDepth 20000 in
theorem sk_80 {K : sm_H} (hK : sc_KOk K) : sm_okM sc_Ts sc_sx sc_zx sc_oc K sc_cl sc_Y 80 (4, 0, sb_80) :=
  sm_okM_of (pool := sp_20) (⟨"TwoWayGrammar$Sets", "findTops", "()V"⟩, prog_8_method_16_code, none) (by rfl) (sm_memf 944 rfl rfl) (by decide +kernel) ⟨by decide, by decide⟩ (by decide) (Or.inl ⟨rfl, rfl⟩) (by decide +kernel) (sp_ok_20 hK _)
set_option maxRecDepth 20000 in
theorem sk_81 {K : sm_H} (hK : sc_KOk K) : sm_okM sc_Ts sc_sx sc_zx sc_oc K sc_cl sc_Y 81 (5, 1, sb_81) :=
  sm_okM_of (pool := sp_20) (⟨"TwoWayGrammar$Sets", "groupTops", "(I)I"⟩, prog_8_method_17_code, (some (.int))) (by rfl) (sm_memf 948 rfl rfl) (by decide +kernel) ⟨by decide, by decide⟩ (by decide) (Or.inr (Or.inl ⟨rfl, rfl⟩)) (by decide +kernel) (sp_ok_20 hK _)
set_option maxRecDepth 20000 in
theorem sk_82 {K : sm_H} (hK : sc_KOk K) : sm_okM sc_Ts sc_sx sc_zx sc_oc K sc_cl sc_Y 82 (2, 1, sb_82) :=
  sm_okM_of (pool := sp_21) (⟨"TwoWayGrammar$Checks", "firstFault", "()I"⟩, prog_2_method_2_code, (some (.int))) (by rfl) (sm_memf 952 rfl rfl) (by decide +kernel) ⟨by decide, by decide⟩ (by decide) (Or.inr (Or.inl ⟨rfl, rfl⟩)) (by decide +kernel) (sp_ok_21 hK _)
set_option maxRecDepth 20000 in
theorem sk_83 {K : sm_H} (hK : sc_KOk K) : sm_okM sc_Ts sc_sx sc_zx sc_oc K sc_cl sc_Y 83 (3, 0, sb_83) :=
  sm_okM_of (pool := sp_21) (⟨"TwoWayGrammar$Checks", "checkRules", "()V"⟩, prog_2_method_4_code, none) (by rfl) (sm_memf 956 rfl rfl) (by decide +kernel) ⟨by decide, by decide⟩ (by decide) (Or.inl ⟨rfl, rfl⟩) (by decide +kernel) (sp_ok_21 hK _)
set_option maxRecDepth 20000 in
theorem sk_84 {K : sm_H} (hK : sc_KOk K) : sm_okM sc_Ts sc_sx sc_zx sc_oc K sc_cl sc_Y 84 (4, 0, sb_84) :=
  sm_okM_of (pool := sp_21) (⟨"TwoWayGrammar$Checks", "blame", "(II)V"⟩, prog_2_method_3_code, none) (by rfl) (sm_memf 961 rfl rfl) (by decide +kernel) ⟨by decide, by decide⟩ (by decide) (Or.inl ⟨rfl, rfl⟩) (by decide +kernel) (sp_ok_21 hK _)
set_option maxRecDepth 20000 in
theorem sk_85 {K : sm_H} (hK : sc_KOk K) : sm_okM sc_Ts sc_sx sc_zx sc_oc K sc_cl sc_Y 85 (2, 4, sb_85) :=
  sm_okM_of (pool := sp_20) (⟨"TwoWayGrammar$Sets", "isFinite", "(I)Z"⟩, prog_8_method_3_code, (some (.boolean))) (by rfl) (sm_memf 965 rfl rfl) (by decide +kernel) ⟨by decide, by decide⟩ (by decide) (Or.inr (Or.inr (Or.inr (Or.inr (Or.inl ⟨rfl, rfl⟩))))) (by decide +kernel) (sp_ok_20 hK _)
set_option maxRecDepth 20000 in
theorem sk_86 {K : sm_H} (hK : sc_KOk K) : sm_okM sc_Ts sc_sx sc_zx sc_oc K sc_cl sc_Y 86 (3, 0, sb_86) :=
  sm_okM_of (pool := sp_21) (⟨"TwoWayGrammar$Checks", "checkRepeats", "()V"⟩, prog_2_method_5_code, none) (by rfl) (sm_memf 969 rfl rfl) (by decide +kernel) ⟨by decide, by decide⟩ (by decide) (Or.inl ⟨rfl, rfl⟩) (by decide +kernel) (sp_ok_21 hK _)
