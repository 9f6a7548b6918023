set_option maxRecDepth 20000 in
theorem sk_0 {K : sm_H} (hK : sc_KOk K) : sm_okM sc_Ts sc_sx sc_zx sc_oc K sc_cl sc_Y 0 (1, 0, sb_0) :=
  sm_okM_of (pool := sp_0) (⟨"TwoWayGrammar", "<init>", "()V"⟩, prog_1_method_1_code, none) (by rfl) (sm_mem 131 (by decide +kernel)) (by decide +kernel) ⟨by decide, by decide⟩ (by decide) (Or.inl ⟨rfl, rfl⟩) (by decide +kernel) (sp_ok_0 hK)
set_option maxRecDepth 20000 in
theorem sk_1 {K : sm_H} (hK : sc_KOk K) : sm_okM sc_Ts sc_sx sc_zx sc_oc K sc_cl sc_Y 1 (2, 0, sb_1) :=
  sm_okM_of (pool := sp_1) (⟨"TwoWayGrammar$Text", "<init>", "(I)V"⟩, prog_9_method_1_code, none) (by rfl) (sm_mem 139 (by decide +kernel)) (by decide +kernel) ⟨by decide, by decide⟩ (by decide) (Or.inl ⟨rfl, rfl⟩) (by decide +kernel) (sp_ok_1 hK)
set_option maxRecDepth 20000 in
theorem sk_2 {K : sm_H} (hK : sc_KOk K) : sm_okM sc_Ts sc_sx sc_zx sc_oc K sc_cl sc_Y 2 (1, 0, sb_2) :=
  sm_okM_of (pool := sp_2) (⟨"TwoWayGrammar$Grammar", "<init>", "()V"⟩, prog_3_method_1_code, none) (by rfl) (sm_mem 156 (by decide +kernel)) (by decide +kernel) ⟨by decide, by decide⟩ (by decide) (Or.inl ⟨rfl, rfl⟩) (by decide +kernel) (sp_ok_2 hK)
set_option maxRecDepth 20000 in
theorem sk_3 {K : sm_H} (hK : sc_KOk K) : sm_okM sc_Ts sc_sx sc_zx sc_oc K sc_cl sc_Y 3 (2, 0, sb_3) :=
  sm_okM_of (pool := sp_3) (⟨"TwoWayGrammar$Tokens", "<init>", "(LTwoWayGrammar$Text;)V"⟩, prog_10_method_1_code, none) (by rfl) (sm_mem 273 (by decide +kernel)) (by decide +kernel) ⟨by decide, by decide⟩ (by decide) (Or.inl ⟨rfl, rfl⟩) (by decide +kernel) (sp_ok_3 hK)
set_option maxRecDepth 20000 in
theorem sk_4 {K : sm_H} (hK : sc_KOk K) : sm_okM sc_Ts sc_sx sc_zx sc_oc K sc_cl sc_Y 4 (3, 0, sb_4) :=
  sm_okM_of (pool := sp_4) (⟨"TwoWayGrammar$Reader", "<init>", "(LTwoWayGrammar$Tokens;LTwoWayGrammar$Grammar;)V"⟩, prog_7_method_1_code, none) (by rfl) (sm_mem 296 (by decide +kernel)) (by decide +kernel) ⟨by decide, by decide⟩ (by decide) (Or.inl ⟨rfl, rfl⟩) (by decide +kernel) (sp_ok_4 hK)
set_option maxRecDepth 20000 in
theorem sk_5 {K : sm_H} (hK : sc_KOk K) : sm_okM sc_Ts sc_sx sc_zx sc_oc K sc_cl sc_Y 5 (2, 0, sb_5) :=
  sm_okM_of (pool := sp_5) (⟨"TwoWayGrammar$Sets", "<init>", "(LTwoWayGrammar$Grammar;)V"⟩, prog_8_method_1_code, none) (by rfl) (sm_mem 315 (by decide +kernel)) (by decide +kernel) ⟨by decide, by decide⟩ (by decide) (Or.inl ⟨rfl, rfl⟩) (by decide +kernel) (sp_ok_5 hK)
set_option maxRecDepth 20000 in
theorem sk_6 {K : sm_H} (hK : sc_KOk K) : sm_okM sc_Ts sc_sx sc_zx sc_oc K sc_cl sc_Y 6 (3, 0, sb_6) :=
  sm_okM_of (pool := sp_6) (⟨"TwoWayGrammar$Checks", "<init>", "(LTwoWayGrammar$Grammar;LTwoWayGrammar$Sets;)V"⟩, prog_2_method_1_code, none) (by rfl) (sm_mem 383 (by decide +kernel)) (by decide +kernel) ⟨by decide, by decide⟩ (by decide) (Or.inl ⟨rfl, rfl⟩) (by decide +kernel) (sp_ok_6 hK)
set_option maxRecDepth 20000 in
theorem sk_7 {K : sm_H} (hK : sc_KOk K) : sm_okM sc_Ts sc_sx sc_zx sc_oc K sc_cl sc_Y 7 (1, 0, sb_7) :=
  sm_okM_of (pool := sp_7) (⟨"TwoWayGrammar$Tree", "<init>", "()V"⟩, prog_11_method_1_code, none) (by rfl) (sm_mem 399 (by decide +kernel)) (by decide +kernel) ⟨by decide, by decide⟩ (by decide) (Or.inl ⟨rfl, rfl⟩) (by decide +kernel) (sp_ok_7 hK)
set_option maxRecDepth 20000 in
theorem sk_8 {K : sm_H} (hK : sc_KOk K) : sm_okM sc_Ts sc_sx sc_zx sc_oc K sc_cl sc_Y 8 (5, 0, sb_8) :=
  sm_okM_of (pool := sp_8) (⟨"TwoWayGrammar$Parsing", "<init>", "(LTwoWayGrammar$Grammar;LTwoWayGrammar$Sets;LTwoWayGrammar$Tree;LTwoWayGrammar$Text;)V"⟩, prog_5_method_1_code, none) (by rfl) (sm_mem 426 (by decide +kernel)) (by decide +kernel) ⟨by decide, by decide⟩ (by decide) (Or.inl ⟨rfl, rfl⟩) (by decide +kernel) (sp_ok_8 hK)
set_option maxRecDepth 20000 in
theorem sk_9 {K : sm_H} (hK : sc_KOk K) : sm_okM sc_Ts sc_sx sc_zx sc_oc K sc_cl sc_Y 9 (4, 0, sb_9) :=
  sm_okM_of (pool := sp_9) (⟨"TwoWayGrammar$Walk", "<init>", "(LTwoWayGrammar$Grammar;LTwoWayGrammar$Sets;LTwoWayGrammar$Tree;)V"⟩, prog_12_method_1_code, none) (by rfl) (sm_mem 429 (by decide +kernel)) (by decide +kernel) ⟨by decide, by decide⟩ (by decide) (Or.inl ⟨rfl, rfl⟩) (by decide +kernel) (sp_ok_9 hK)
set_option maxRecDepth 20000 in
theorem sk_10 {K : sm_H} (hK : sc_KOk K) : sm_okM sc_Ts sc_sx sc_zx sc_oc K sc_cl sc_Y 10 (4, 0, sb_10) :=
  sm_okM_of (pool := sp_10) (⟨"TwoWayGrammar$Growing", "<init>", "(LTwoWayGrammar$Grammar;LTwoWayGrammar$Sets;LTwoWayGrammar$Tree;)V"⟩, prog_4_method_1_code, none) (by rfl) (sm_mem 499 (by decide +kernel)) (by decide +kernel) ⟨by decide, by decide⟩ (by decide) (Or.inl ⟨rfl, rfl⟩) (by decide +kernel) (sp_ok_10 hK)
set_option maxRecDepth 20000 in
theorem sk_11 {K : sm_H} (hK : sc_KOk K) : sm_okM sc_Ts sc_sx sc_zx sc_oc K sc_cl sc_Y 11 (5, 0, sb_11) :=
  sm_okM_of (pool := sp_11) (⟨"TwoWayGrammar$Printing", "<init>", "(LTwoWayGrammar$Grammar;LTwoWayGrammar$Sets;LTwoWayGrammar$Tree;LTwoWayGrammar$Text;)V"⟩, prog_6_method_1_code, none) (by rfl) (sm_mem 518 (by decide +kernel)) (by decide +kernel) ⟨by decide, by decide⟩ (by decide) (Or.inl ⟨rfl, rfl⟩) (by decide +kernel) (sp_ok_11 hK)
set_option maxRecDepth 20000 in
theorem sk_12 {K : sm_H} (hK : sc_KOk K) : sm_okM sc_Ts sc_sx sc_zx sc_oc K sc_cl sc_Y 12 (2, 1, sb_12) :=
  sm_okM_of (pool := sp_12) (⟨"TwoWayGrammar", "compile", "()I"⟩, prog_1_method_5_code, (some (.int))) (by rfl) (sm_mem 601 (by decide +kernel)) (by decide +kernel) ⟨by decide, by decide⟩ (by decide) (Or.inr (Or.inl ⟨rfl, rfl⟩)) (by decide +kernel) (sp_ok_12 hK _)
set_option maxRecDepth 20000 in
theorem sk_13 {K : sm_H} (hK : sc_KOk K) : sm_okM sc_Ts sc_sx sc_zx sc_oc K sc_cl sc_Y 13 (1, 0, sb_13) :=
  sm_okM_of (pool := sp_13) (⟨"TwoWayGrammar$Tree", "drop", "()V"⟩, prog_11_method_2_code, none) (by rfl) (sm_mem 605 (by decide +kernel)) (by decide +kernel) ⟨by decide, by decide⟩ (by decide) (Or.inl ⟨rfl, rfl⟩) (by decide +kernel) (sp_ok_13 hK _)
set_option maxRecDepth 20000 in
theorem sk_14 {K : sm_H} (hK : sc_KOk K) : sm_okM sc_Ts sc_sx sc_zx sc_oc K sc_cl sc_Y 14 (3, 1, sb_14) :=
  sm_okM_of (pool := sp_14) (⟨"TwoWayGrammar$Reader", "read", "()I"⟩, prog_7_method_2_code, (some (.int))) (by rfl) (sm_mem 609 (by decide +kernel)) (by decide +kernel) ⟨by decide, by decide⟩ (by decide) (Or.inr (Or.inl ⟨rfl, rfl⟩)) (by decide +kernel) (sp_ok_14 hK _)
set_option maxRecDepth 20000 in
theorem sk_15 {K : sm_H} (hK : sc_KOk K) : sm_okM sc_Ts sc_sx sc_zx sc_oc K sc_cl sc_Y 15 (2, 0, sb_15) :=
  sm_okM_of (pool := sp_15) (⟨"TwoWayGrammar$Grammar", "drop", "()V"⟩, prog_3_method_2_code, none) (by rfl) (sm_mem 613 (by decide +kernel)) (by decide +kernel) ⟨by decide, by decide⟩ (by decide) (Or.inl ⟨rfl, rfl⟩) (by decide +kernel) (sp_ok_15 hK _)
set_option maxRecDepth 20000 in
theorem sk_16 {K : sm_H} (hK : sc_KOk K) : sm_okM sc_Ts sc_sx sc_zx sc_oc K sc_cl sc_Y 16 (3, 0, sb_16) :=
  sm_okM_of (pool := sp_12) (⟨"TwoWayGrammar", "put", "([III)V"⟩, prog_1_method_20_code, none) (by rfl) (sm_mem 616 (by decide +kernel)) (by decide +kernel) ⟨by decide, by decide⟩ (by decide) (Or.inl ⟨rfl, rfl⟩) (by decide +kernel) (sp_ok_12 hK _)
set_option maxRecDepth 20000 in
theorem sk_17 {K : sm_H} (hK : sc_KOk K) : sm_okM sc_Ts sc_sx sc_zx sc_oc K sc_cl sc_Y 17 (1, 0, sb_17) :=
  sm_okM_of (pool := sp_16) (⟨"TwoWayGrammar$Tokens", "rewind", "()V"⟩, prog_10_method_2_code, none) (by rfl) (sm_mem 620 (by decide +kernel)) (by decide +kernel) ⟨by decide, by decide⟩ (by decide) (Or.inl ⟨rfl, rfl⟩) (by decide +kernel) (sp_ok_16 hK _)
set_option maxRecDepth 20000 in
theorem sk_18 {K : sm_H} (hK : sc_KOk K) : sm_okM sc_Ts sc_sx sc_zx sc_oc K sc_cl sc_Y 18 (2, 0, sb_18) :=
  sm_okM_of (pool := sp_16) (⟨"TwoWayGrammar$Tokens", "advance", "()V"⟩, prog_10_method_3_code, none) (by rfl) (sm_mem 624 (by decide +kernel)) (by decide +kernel) ⟨by decide, by decide⟩ (by decide) (Or.inl ⟨rfl, rfl⟩) (by decide +kernel) (sp_ok_16 hK _)
set_option maxRecDepth 20000 in
theorem sk_19 {K : sm_H} (hK : sc_KOk K) : sm_okM sc_Ts sc_sx sc_zx sc_oc K sc_cl sc_Y 19 (3, 1, sb_19) :=
  sm_okM_of (pool := sp_17) (⟨"TwoWayGrammar$Text", "behindBlanks", "(I)I"⟩, prog_9_method_8_code, (some (.int))) (by rfl) (sm_mem 628 (by decide +kernel)) (by decide +kernel) ⟨by decide, by decide⟩ (by decide) (Or.inr (Or.inl ⟨rfl, rfl⟩)) (by decide +kernel) (sp_ok_17 hK _)
set_option maxRecDepth 20000 in
theorem sk_20 {K : sm_H} (hK : sc_KOk K) : sm_okM sc_Ts sc_sx sc_zx sc_oc K sc_cl sc_Y 20 (2, 5, sb_20) :=
  sm_okM_of (pool := sp_17) (⟨"TwoWayGrammar$Text", "at", "(I)C"⟩, prog_9_method_3_code, (some (.char))) (by rfl) (sm_mem 632 (by decide +kernel)) (by decide +kernel) ⟨by decide, by decide⟩ (by decide) (Or.inr (Or.inr (Or.inr (Or.inr (Or.inr (Or.inl ⟨rfl, rfl⟩)))))) (by decide +kernel) (sp_ok_17 hK _)
set_option maxRecDepth 20000 in
theorem sk_21 {K : sm_H} (hK : sc_KOk K) : sm_okM sc_Ts sc_sx sc_zx sc_oc K sc_cl sc_Y 21 (1, 4, sb_21) :=
  sm_okM_of (pool := sp_12) (⟨"TwoWayGrammar", "isBlank", "(I)Z"⟩, prog_1_method_25_code, (some (.boolean))) (by rfl) (sm_mem 635 (by decide +kernel)) (by decide +kernel) ⟨by decide, by decide⟩ (by decide) (Or.inr (Or.inr (Or.inr (Or.inr (Or.inl ⟨rfl, rfl⟩))))) (by decide +kernel) (sp_ok_12 hK _)
set_option maxRecDepth 20000 in
theorem sk_22 {K : sm_H} (hK : sc_KOk K) : sm_okM sc_Ts sc_sx sc_zx sc_oc K sc_cl sc_Y 22 (1, 1, sb_22) :=
  sm_okM_of (pool := sp_17) (⟨"TwoWayGrammar$Text", "length", "()I"⟩, prog_9_method_2_code, (some (.int))) (by rfl) (sm_mem 640 (by decide +kernel)) (by decide +kernel) ⟨by decide, by decide⟩ (by decide) (Or.inr (Or.inl ⟨rfl, rfl⟩)) (by decide +kernel) (sp_ok_17 hK _)
set_option maxRecDepth 20000 in
theorem sk_23 {K : sm_H} (hK : sc_KOk K) : sm_okM sc_Ts sc_sx sc_zx sc_oc K sc_cl sc_Y 23 (1, 4, sb_23) :=
  sm_okM_of (pool := sp_12) (⟨"TwoWayGrammar", "isSmall", "(I)Z"⟩, prog_1_method_22_code, (some (.boolean))) (by rfl) (sm_mem 643 (by decide +kernel)) (by decide +kernel) ⟨by decide, by decide⟩ (by decide) (Or.inr (Or.inr (Or.inr (Or.inr (Or.inl ⟨rfl, rfl⟩))))) (by decide +kernel) (sp_ok_12 hK _)
set_option maxRecDepth 20000 in
theorem sk_24 {K : sm_H} (hK : sc_KOk K) : sm_okM sc_Ts sc_sx sc_zx sc_oc K sc_cl sc_Y 24 (1, 0, sb_24) :=
  sm_okM_of (pool := sp_16) (⟨"TwoWayGrammar$Tokens", "takeWord", "()V"⟩, prog_10_method_5_code, none) (by rfl) (sm_mem 647 (by decide +kernel)) (by decide +kernel) ⟨by decide, by decide⟩ (by decide) (Or.inl ⟨rfl, rfl⟩) (by decide +kernel) (sp_ok_16 hK _)
set_option maxRecDepth 20000 in
theorem sk_25 {K : sm_H} (hK : sc_KOk K) : sm_okM sc_Ts sc_sx sc_zx sc_oc K sc_cl sc_Y 25 (3, 1, sb_25) :=
  sm_okM_of (pool := sp_17) (⟨"TwoWayGrammar$Text", "behindLetters", "(I)I"⟩, prog_9_method_9_code, (some (.int))) (by rfl) (sm_mem 651 (by decide +kernel)) (by decide +kernel) ⟨by decide, by decide⟩ (by decide) (Or.inr (Or.inl ⟨rfl, rfl⟩)) (by decide +kernel) (sp_ok_17 hK _)
set_option maxRecDepth 20000 in
theorem sk_26 {K : sm_H} (hK : sc_KOk K) : sm_okM sc_Ts sc_sx sc_zx sc_oc K sc_cl sc_Y 26 (6, 4, sb_26) :=
  sm_okM_of (pool := sp_17) (⟨"TwoWayGrammar$Text", "has", "(Ljava/lang/String;II)Z"⟩, prog_9_method_11_code, (some (.boolean))) (by rfl) (sm_mem 657 (by decide +kernel)) (by decide +kernel) ⟨by decide, by decide⟩ (by decide) (Or.inr (Or.inr (Or.inr (Or.inr (Or.inl ⟨rfl, rfl⟩))))) (by decide +kernel) (sp_ok_17 hK _)
set_option maxRecDepth 20000 in
theorem sk_27 {K : sm_H} (hK : sc_KOk K) : sm_okM sc_Ts sc_sx sc_zx sc_oc K sc_cl sc_Y 27 (1, 1, sb_27) :=
  sm_okM_of (pool := sp_18) (⟨"java/lang/String", "length", "()I"⟩, prog_23_method_54_code, (some (.int))) (by rfl) (sm_mem 661 (by decide +kernel)) (by decide +kernel) ⟨by decide, by decide⟩ (by decide) (Or.inr (Or.inl ⟨rfl, rfl⟩)) (by decide +kernel) (sp_ok_18 hK _)
set_option maxRecDepth 20000 in
theorem sk_28 {K : sm_H} (hK : sc_KOk K) : sm_okM sc_Ts sc_sx sc_zx sc_oc K sc_cl sc_Y 28 (1, 6, sb_28) :=
  sm_okM_of (pool := sp_18) (⟨"java/lang/String", "coder", "()B"⟩, prog_23_method_152_code, (some (.byte))) (by rfl) (sm_mem 665 (by decide +kernel)) (by decide +kernel) ⟨by decide, by decide⟩ (by decide) (Or.inr (Or.inr (Or.inr (Or.inr (Or.inr (Or.inr ⟨rfl, rfl⟩)))))) (by decide +kernel) (sp_ok_18 hK _)
set_option maxRecDepth 20000 in
theorem sk_29 {K : sm_H} (hK : sc_KOk K) : sm_okM sc_Ts sc_sx sc_zx sc_oc K sc_cl sc_Y 29 (2, 5, sb_29) :=
  sm_okM_of (pool := sp_18) (⟨"java/lang/String", "charAt", "(I)C"⟩, prog_23_method_56_code, (some (.char))) (by rfl) (sm_mem 671 (by decide +kernel)) (by decide +kernel) ⟨by decide, by decide⟩ (by decide) (Or.inr (Or.inr (Or.inr (Or.inr (Or.inr (Or.inl ⟨rfl, rfl⟩)))))) (by decide +kernel) (sp_ok_18 hK _)
set_option maxRecDepth 20000 in
theorem sk_30 {K : sm_H} (hK : sc_KOk K) : sm_okM sc_Ts sc_sx sc_zx sc_oc K sc_cl sc_Y 30 (1, 4, sb_30) :=
  sm_okM_of (pool := sp_18) (⟨"java/lang/String", "isLatin1", "()Z"⟩, prog_23_method_154_code, (some (.boolean))) (by rfl) (sm_mem 675 (by decide +kernel)) (by decide +kernel) ⟨by decide, by decide⟩ (by decide) (Or.inr (Or.inr (Or.inr (Or.inr (Or.inl ⟨rfl, rfl⟩))))) (by decide +kernel) (sp_ok_18 hK _)
set_option maxRecDepth 20000 in
theorem sk_31 {K : sm_H} (hK : sc_KOk K) : sm_okM sc_Ts sc_sx sc_zx sc_oc K sc_cl sc_Y 31 (2, 5, sb_31) :=
  sm_okM_of (pool := sp_19) (⟨"java/lang/StringLatin1", "charAt", "([BI)C"⟩, prog_24_method_2_code, (some (.char))) (by rfl) (sm_mem 678 (by decide +kernel)) (by decide +kernel) ⟨by decide, by decide⟩ (by decide) (Or.inr (Or.inr (Or.inr (Or.inr (Or.inr (Or.inl ⟨rfl, rfl⟩)))))) (by decide +kernel) (sp_ok_19 hK _)
set_option maxRecDepth 20000 in
theorem sk_32 {K : sm_H} (hK : sc_KOk K) : sm_okM sc_Ts sc_sx sc_zx sc_oc K sc_cl sc_Y 32 (2, 0, sb_32) :=
  sm_okM_of (pool := sp_18) (⟨"java/lang/String", "checkIndex", "(II)V"⟩, prog_23_method_155_code, none) (by rfl) (sm_mem 681 (by decide +kernel)) (by decide +kernel) ⟨by decide, by decide⟩ (by decide) (Or.inl ⟨rfl, rfl⟩) (by decide +kernel) (sp_ok_18 hK _)
set_option maxRecDepth 20000 in
theorem sk_33 {K : sm_H} (hK : sc_KOk K) : sm_okM sc_Ts sc_sx sc_zx sc_oc K sc_cl sc_Y 33 (3, 0, sb_33) :=
  sm_okM_of (pool := sp_16) (⟨"TwoWayGrammar$Tokens", "takeKeyword", "()V"⟩, prog_10_method_6_code, none) (by rfl) (sm_mem 715 (by decide +kernel)) (by decide +kernel) ⟨by decide, by decide⟩ (by decide) (Or.inl ⟨rfl, rfl⟩) (by decide +kernel) (sp_ok_16 hK _)
set_option maxRecDepth 20000 in
theorem sk_34 {K : sm_H} (hK : sc_KOk K) : sm_okM sc_Ts sc_sx sc_zx sc_oc K sc_cl sc_Y 34 (5, 1, sb_34) :=
  sm_okM_of (pool := sp_17) (⟨"TwoWayGrammar$Text", "letterCode", "(II)I"⟩, prog_9_method_12_code, (some (.int))) (by rfl) (sm_mem 719 (by decide +kernel)) (by decide +kernel) ⟨by decide, by decide⟩ (by decide) (Or.inr (Or.inl ⟨rfl, rfl⟩)) (by decide +kernel) (sp_ok_17 hK _)
set_option maxRecDepth 20000 in
theorem sk_35 {K : sm_H} (hK : sc_KOk K) : sm_okM sc_Ts sc_sx sc_zx sc_oc K sc_cl sc_Y 35 (2, 0, sb_35) :=
  sm_okM_of (pool := sp_16) (⟨"TwoWayGrammar$Tokens", "takeSign", "()V"⟩, prog_10_method_7_code, none) (by rfl) (sm_mem 723 (by decide +kernel)) (by decide +kernel) ⟨by decide, by decide⟩ (by decide) (Or.inl ⟨rfl, rfl⟩) (by decide +kernel) (sp_ok_16 hK _)
set_option maxRecDepth 20000 in
theorem sk_36 {K : sm_H} (hK : sc_KOk K) : sm_okM sc_Ts sc_sx sc_zx sc_oc K sc_cl sc_Y 36 (1, 4, sb_36) :=
  sm_okM_of (pool := sp_12) (⟨"TwoWayGrammar", "isCapital", "(I)Z"⟩, prog_1_method_23_code, (some (.boolean))) (by rfl) (sm_mem 727 (by decide +kernel)) (by decide +kernel) ⟨by decide, by decide⟩ (by decide) (Or.inr (Or.inr (Or.inr (Or.inr (Or.inl ⟨rfl, rfl⟩))))) (by decide +kernel) (sp_ok_12 hK _)
set_option maxRecDepth 20000 in
theorem sk_37 {K : sm_H} (hK : sc_KOk K) : sm_okM sc_Ts sc_sx sc_zx sc_oc K sc_cl sc_Y 37 (1, 4, sb_37) :=
  sm_okM_of (pool := sp_12) (⟨"TwoWayGrammar", "isDigit", "(I)Z"⟩, prog_1_method_24_code, (some (.boolean))) (by rfl) (sm_mem 730 (by decide +kernel)) (by decide +kernel) ⟨by decide, by decide⟩ (by decide) (Or.inr (Or.inr (Or.inr (Or.inr (Or.inl ⟨rfl, rfl⟩))))) (by decide +kernel) (sp_ok_12 hK _)
set_option maxRecDepth 20000 in
theorem sk_38 {K : sm_H} (hK : sc_KOk K) : sm_okM sc_Ts sc_sx sc_zx sc_oc K sc_cl sc_Y 38 (1, 1, sb_38) :=
  sm_okM_of (pool := sp_12) (⟨"TwoWayGrammar", "signCode", "(C)I"⟩, prog_1_method_27_code, (some (.int))) (by rfl) (sm_mem 733 (by decide +kernel)) (by decide +kernel) ⟨by decide, by decide⟩ (by decide) (Or.inr (Or.inl ⟨rfl, rfl⟩)) (by decide +kernel) (sp_ok_12 hK _)
set_option maxRecDepth 20000 in
theorem sk_39 {K : sm_H} (hK : sc_KOk K) : sm_okM sc_Ts sc_sx sc_zx sc_oc K sc_cl sc_Y 39 (2, 0, sb_39) :=
  sm_okM_of (pool := sp_16) (⟨"TwoWayGrammar$Tokens", "takeCharacter", "(C)V"⟩, prog_10_method_8_code, none) (by rfl) (sm_mem 737 (by decide +kernel)) (by decide +kernel) ⟨by decide, by decide⟩ (by decide) (Or.inl ⟨rfl, rfl⟩) (by decide +kernel) (sp_ok_16 hK _)
set_option maxRecDepth 20000 in
theorem sk_40 {K : sm_H} (hK : sc_KOk K) : sm_okM sc_Ts sc_sx sc_zx sc_oc K sc_cl sc_Y 40 (2, 1, sb_40) :=
  sm_okM_of (pool := sp_18) (⟨"java/lang/String", "indexOf", "(I)I"⟩, prog_23_method_79_code, (some (.int))) (by rfl) (sm_mem 742 (by decide +kernel)) (by decide +kernel) ⟨by decide, by decide⟩ (by decide) (Or.inr (Or.inl ⟨rfl, rfl⟩)) (by decide +kernel) (sp_ok_18 hK _)
set_option maxRecDepth 20000 in
theorem sk_41 {K : sm_H} (hK : sc_KOk K) : sm_okM sc_Ts sc_sx sc_zx sc_oc K sc_cl sc_Y 41 (3, 1, sb_41) :=
  sm_okM_of (pool := sp_18) (⟨"java/lang/String", "indexOf", "(II)I"⟩, prog_23_method_80_code, (some (.int))) (by rfl) (sm_mem 746 (by decide +kernel)) (by decide +kernel) ⟨by decide, by decide⟩ (by decide) (Or.inr (Or.inl ⟨rfl, rfl⟩)) (by decide +kernel) (sp_ok_18 hK _)
set_option maxRecDepth 20000 in
theorem sk_42 {K : sm_H} (hK : sc_KOk K) : sm_okM sc_Ts sc_sx sc_zx sc_oc K sc_cl sc_Y 42 (4, 1, sb_42) :=
  sm_okM_of (pool := sp_19) (⟨"java/lang/StringLatin1", "indexOf", "([BIII)I"⟩, prog_24_method_22_code, (some (.int))) (by rfl) (sm_mem 750 (by decide +kernel)) (by decide +kernel) ⟨by decide, by decide⟩ (by decide) (Or.inr (Or.inl ⟨rfl, rfl⟩)) (by decide +kernel) (sp_ok_19 hK _)
set_option maxRecDepth 20000 in
theorem sk_43 {K : sm_H} (hK : sc_KOk K) : sm_okM sc_Ts sc_sx sc_zx sc_oc K sc_cl sc_Y 43 (1, 4, sb_43) :=
  sm_okM_of (pool := sp_19) (⟨"java/lang/StringLatin1", "canEncode", "(I)Z"⟩, prog_24_method_4_code, (some (.boolean))) (by rfl) (sm_mem 753 (by decide +kernel)) (by decide +kernel) ⟨by decide, by decide⟩ (by decide) (Or.inr (Or.inr (Or.inr (Or.inr (Or.inl ⟨rfl, rfl⟩))))) (by decide +kernel) (sp_ok_19 hK _)
set_option maxRecDepth 20000 in
theorem sk_44 {K : sm_H} (hK : sc_KOk K) : sm_okM sc_Ts sc_sx sc_zx sc_oc K sc_cl sc_Y 44 (6, 1, sb_44) :=
  sm_okM_of (pool := sp_19) (⟨"java/lang/StringLatin1", "indexOfChar", "([BIII)I"⟩, prog_24_method_23_code, (some (.int))) (by rfl) (sm_mem 760 (by decide +kernel)) (by decide +kernel) ⟨by decide, by decide⟩ (by decide) (Or.inr (Or.inl ⟨rfl, rfl⟩)) (by decide +kernel) (sp_ok_19 hK _)
set_option maxRecDepth 20000 in
theorem sk_45 {K : sm_H} (hK : sc_KOk K) : sm_okM sc_Ts sc_sx sc_zx sc_oc K sc_cl sc_Y 45 (3, 0, sb_45) :=
  sm_okM_of (pool := sp_18) (⟨"java/lang/String", "checkBoundsBeginEnd", "(III)V"⟩, prog_23_method_158_code, none) (by rfl) (sm_mem 775 (by decide +kernel)) (by decide +kernel) ⟨by decide, by decide⟩ (by decide) (Or.inl ⟨rfl, rfl⟩) (by decide +kernel) (sp_ok_18 hK _)
set_option maxRecDepth 20000 in
theorem sk_46 {K : sm_H} (hK : sc_KOk K) : sm_okM sc_Ts sc_sx sc_zx sc_oc K sc_cl sc_Y 46 (2, 1, sb_46) :=
  sm_okM_of (pool := sp_14) (⟨"TwoWayGrammar$Reader", "beginRule", "()I"⟩, prog_7_method_5_code, (some (.int))) (by rfl) (sm_mem 799 (by decide +kernel)) (by decide +kernel) ⟨by decide, by decide⟩ (by decide) (Or.inr (Or.inl ⟨rfl, rfl⟩)) (by decide +kernel) (sp_ok_14 hK _)
set_option maxRecDepth 20000 in
theorem sk_47 {K : sm_H} (hK : sc_KOk K) : sm_okM sc_Ts sc_sx sc_zx sc_oc K sc_cl sc_Y 47 (3, 0, sb_47) :=
  sm_okM_of (pool := sp_14) (⟨"TwoWayGrammar$Reader", "blame", "(II)V"⟩, prog_7_method_3_code, none) (by rfl) (sm_mem 803 (by decide +kernel)) (by decide +kernel) ⟨by decide, by decide⟩ (by decide) (Or.inl ⟨rfl, rfl⟩) (by decide +kernel) (sp_ok_14 hK _)
set_option maxRecDepth 20000 in
theorem sk_48 {K : sm_H} (hK : sc_KOk K) : sm_okM sc_Ts sc_sx sc_zx sc_oc K sc_cl sc_Y 48 (3, 1, sb_48) :=
  sm_okM_of (pool := sp_15) (⟨"TwoWayGrammar$Grammar", "ruleNamed", "(I)I"⟩, prog_3_method_3_code, (some (.int))) (by rfl) (sm_mem 807 (by decide +kernel)) (by decide +kernel) ⟨by decide, by decide⟩ (by decide) (Or.inr (Or.inl ⟨rfl, rfl⟩)) (by decide +kernel) (sp_ok_15 hK _)
set_option maxRecDepth 20000 in
theorem sk_49 {K : sm_H} (hK : sc_KOk K) : sm_okM sc_Ts sc_sx sc_zx sc_oc K sc_cl sc_Y 49 (2, 1, sb_49) :=
  sm_okM_of (pool := sp_12) (⟨"TwoWayGrammar", "at", "([II)I"⟩, prog_1_method_18_code, (some (.int))) (by rfl) (sm_mem 810 (by decide +kernel)) (by decide +kernel) ⟨by decide, by decide⟩ (by decide) (Or.inr (Or.inl ⟨rfl, rfl⟩)) (by decide +kernel) (sp_ok_12 hK _)
set_option maxRecDepth 20000 in
theorem sk_50 {K : sm_H} (hK : sc_KOk K) : sm_okM sc_Ts sc_sx sc_zx sc_oc K sc_cl sc_Y 50 (3, 1, sb_50) :=
  sm_okM_of (pool := sp_15) (⟨"TwoWayGrammar$Grammar", "addRule", "(II)I"⟩, prog_3_method_5_code, (some (.int))) (by rfl) (sm_mem 814 (by decide +kernel)) (by decide +kernel) ⟨by decide, by decide⟩ (by decide) (Or.inr (Or.inl ⟨rfl, rfl⟩)) (by decide +kernel) (sp_ok_15 hK _)
set_option maxRecDepth 20000 in
theorem sk_51 {K : sm_H} (hK : sc_KOk K) : sm_okM sc_Ts sc_sx sc_zx sc_oc K sc_cl sc_Y 51 (2, 0, sb_51) :=
  sm_okM_of (pool := sp_14) (⟨"TwoWayGrammar$Reader", "expect", "(I)V"⟩, prog_7_method_4_code, none) (by rfl) (sm_mem 819 (by decide +kernel)) (by decide +kernel) ⟨by decide, by decide⟩ (by decide) (Or.inl ⟨rfl, rfl⟩) (by decide +kernel) (sp_ok_14 hK _)
set_option maxRecDepth 20000 in
theorem sk_52 {K : sm_H} (hK : sc_KOk K) : sm_okM sc_Ts sc_sx sc_zx sc_oc K sc_cl sc_Y 52 (7, 0, sb_52) :=
  sm_okM_of (pool := sp_14) (⟨"TwoWayGrammar$Reader", "readForm", "(II)V"⟩, prog_7_method_6_code, none) (by rfl) (sm_mem 823 (by decide +kernel)) (by decide +kernel) ⟨by decide, by decide⟩ (by decide) (Or.inl ⟨rfl, rfl⟩) (by decide +kernel) (sp_ok_14 hK _)
set_option maxRecDepth 20000 in
theorem sk_53 {K : sm_H} (hK : sc_KOk K) : sm_okM sc_Ts sc_sx sc_zx sc_oc K sc_cl sc_Y 53 (5, 1, sb_53) :=
  sm_okM_of (pool := sp_15) (⟨"TwoWayGrammar$Grammar", "addAlternative", "(III)I"⟩, prog_3_method_8_code, (some (.int))) (by rfl) (sm_mem 827 (by decide +kernel)) (by decide +kernel) ⟨by decide, by decide⟩ (by decide) (Or.inr (Or.inl ⟨rfl, rfl⟩)) (by decide +kernel) (sp_ok_15 hK _)
set_option maxRecDepth 20000 in
theorem sk_54 {K : sm_H} (hK : sc_KOk K) : sm_okM sc_Ts sc_sx sc_zx sc_oc K sc_cl sc_Y 54 (7, 0, sb_54) :=
  sm_okM_of (pool := sp_14) (⟨"TwoWayGrammar$Reader", "readItems", "(II)V"⟩, prog_7_method_7_code, none) (by rfl) (sm_mem 831 (by decide +kernel)) (by decide +kernel) ⟨by decide, by decide⟩ (by decide) (Or.inl ⟨rfl, rfl⟩) (by decide +kernel) (sp_ok_14 hK _)
