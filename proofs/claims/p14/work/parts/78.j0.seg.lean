/-! segments: walk -/
set_option maxRecDepth 20000 in
theorem mp_waA_0 (h : sm_H) (d : Nat) (zh : Int) : mi_path [(206, (5, 0, sb_206))] sx_sk h 29 [] (d + 7, 206, 0, [some (.inr (.inr 109)), some (.inl (zh)), none, none, none], [], [], []) = some ((d + 7, 206, 47, [some (.inr (.inr 109)), some (.inl (zh)), none, none, none], [.inl ((0 : Int)), .inr (.inr 109)], [.inl (14044, (0 : Int)), .inl (14034, (-1 : Int)), .inl (14029, (0 : Int)), .inl (14030, (0 : Int)), .inl (14031, (0 : Int)), .inl (14032, (0 : Int)), .inl (14016, (0 : Int)), .inl (14033, (0 : Int)), .inl (14028, zh)], []), [0 ≤ ((0 : Int)) ∧ ((0 : Int)) ≤ 100, 0 ≤ ((0 : Int)) ∧ ((0 : Int)) ≤ 1, 0 ≤ ((0 : Int)) ∧ ((0 : Int)) ≤ 1]) := rfl
theorem mi_tab_waA_0 : ∀ e ∈ ([(206, (5, 0, sb_206))] : mi_T), sc_P e.1 = some e.2 := mi_tb mi_P206 (mi_tb_e)
set_option maxRecDepth 20000 in
theorem ms_waA_0 {h : sm_H} {d : Nat} {Q : Option mi_V → sm_H → Prop} {zh : Int} (hS : ab_Sh sx_sk h) (ok_zh : mi_in zh) (ho : (0 ≤ ((0 : Int)) ∧ ((0 : Int)) ≤ 100) ∧ (0 ≤ ((0 : Int)) ∧ ((0 : Int)) ≤ 1) ∧ (0 ≤ ((0 : Int)) ∧ ((0 : Int)) ≤ 1)) (kon : ∀ h1, me_W [.inl (14044, (0 : Int)), .inl (14034, (-1 : Int)), .inl (14029, (0 : Int)), .inl (14030, (0 : Int)), .inl (14031, (0 : Int)), .inl (14032, (0 : Int)), .inl (14016, (0 : Int)), .inl (14033, (0 : Int)), .inl (14028, zh)] h h1 → ∃ Q1, me_E (d + 6) 207 0 (mi_entry 2 [.inr (.inr 109), .inl ((0 : Int))]) [] h1 Q1 ∧ ∀ w h2, (∀ x, w = some x → mi_ok x) → Q1 w h2 → me_E (d + 7) 206 50 [some (.inr (.inr 109)), some (.inl (zh)), none, none, none] (mi_back w []) h2 Q) : me_E (d + 7) 206 0 [some (.inr (.inr 109)), some (.inl (zh)), none, none, none] [] h Q := me_seg (mp_waA_0 h d zh) (mi_tab_waA_0) hS (mi_okL_c (trivial) (mi_okL_c (ok_zh) (mi_okL_n (mi_okL_n (mi_okL_n (mi_okL_e)))))) (mi_okS_e) (mi_al (ho.1) (mi_al (ho.2.1) (mi_al (ho.2.2) (mi_al_e)))) (fun h1 W _ hst => let ⟨_, k1, k2⟩ := kon h1 W; me_call (M := (5, 0, sb_206)) (M' := (2, 0, sb_207)) rfl rfl rfl rfl (Nat.le_of_ble_eq_true rfl) (Nat.le_of_ble_eq_true rfl) W.1 k1 k2)
set_option maxRecDepth 20000 in
theorem mt_waA {h : sm_H} {d : Nat} {Q : Option mi_V → sm_H → Prop} {zh : Int} (hS : ab_Sh sx_sk h) (ok_zh : mi_in zh) (k0 : (∀ h1, ab_Sh sx_sk h1 → mi_f h1 14016 = (0 : Int) → mi_f h1 14028 = zh → mi_f h1 14029 = (0 : Int) → mi_f h1 14030 = (0 : Int) → mi_f h1 14031 = (0 : Int) → mi_f h1 14032 = (0 : Int) → mi_f h1 14033 = (0 : Int) → mi_f h1 14034 = (-1 : Int) → mi_f h1 14044 = (0 : Int) → ab_Fr [(14016, 14017), (14028, 14035), (14044, 14045)] h h1 → ∃ Q1, me_E (d + 6) 207 0 (mi_entry 2 [.inr (.inr 109), .inl ((0 : Int))]) [] h1 Q1 ∧ ∀ w h2, (∀ x, w = some x → mi_ok x) → Q1 w h2 → me_E (d + 7) 206 50 [some (.inr (.inr 109)), some (.inl (zh)), none, none, none] (mi_back w []) h2 Q)) : me_E (d + 7) 206 0 [some (.inr (.inr 109)), some (.inl (zh)), none, none, none] [] h Q := ms_waA_0 hS ok_zh ⟨(by decide), (by decide), (by decide)⟩ (fun h1 W => (k0) h1 W.1 (W.2.1 14016) (W.2.1 14028) (W.2.1 14029) (W.2.1 14030) (W.2.1 14031) (W.2.1 14032) (W.2.1 14033) (W.2.1 14034) (W.2.1 14044) (W.2.2.2.2.2 _ rfl))
set_option maxRecDepth 20000 in
theorem mp_waB_0 (h : sm_H) (d : Nat) (zh : Int) : mi_path [(206, (5, 0, sb_206))] sx_sk h 2 [] (d + 7, 206, 50, [some (.inr (.inr 109)), some (.inl (zh)), none, none, none], [], [], []) = some ((d + 7, 206, 52, [some (.inr (.inr 109)), some (.inl (zh)), some (.inl ((0 : Int))), none, none], [], [], []), []) := rfl
theorem mi_tab_waB_0 : ∀ e ∈ ([(206, (5, 0, sb_206))] : mi_T), sc_P e.1 = some e.2 := mi_tb mi_P206 (mi_tb_e)
set_option maxRecDepth 20000 in
theorem ms_waB_0 {h : sm_H} {d : Nat} {Q : Option mi_V → sm_H → Prop} {zh : Int} (hS : ab_Sh sx_sk h) (ok_zh : mi_in zh) (kon : ∀ h1, me_W [] h h1 → me_E (d + 7) 206 52 [some (.inr (.inr 109)), some (.inl (zh)), some (.inl ((0 : Int))), none, none] [] h1 Q) : me_E (d + 7) 206 50 [some (.inr (.inr 109)), some (.inl (zh)), none, none, none] [] h Q := me_seg (mp_waB_0 h d zh) (mi_tab_waB_0) hS (mi_okL_c (trivial) (mi_okL_c (ok_zh) (mi_okL_n (mi_okL_n (mi_okL_n (mi_okL_e)))))) (mi_okS_e) (mi_al_e) (fun h1 W _ hst => kon h1 W)
set_option maxRecDepth 20000 in
theorem mt_waB {h : sm_H} {d : Nat} {Q : Option mi_V → sm_H → Prop} {zh : Int} (hS : ab_Sh sx_sk h) (ok_zh : mi_in zh) (k0 : (∀ h1, ab_Sh sx_sk h1 → ab_Fr [] h h1 → me_E (d + 7) 206 52 [some (.inr (.inr 109)), some (.inl (zh)), some (.inl ((0 : Int))), none, none] [] h1 Q)) : me_E (d + 7) 206 50 [some (.inr (.inr 109)), some (.inl (zh)), none, none, none] [] h Q := ms_waB_0 hS ok_zh (fun h1 W => (k0) h1 W.1 (W.2.2.2.2.2 _ rfl))
set_option maxRecDepth 20000 in
theorem mp_waC_0 (h : sm_H) (d : Nat) (zh zt : Int) (q3 q4 : Option mi_V) : mi_path [(206, (5, 0, sb_206))] sx_sk h 3 [1] (d + 7, 206, 52, [some (.inr (.inr 109)), some (.inl (zh)), some (.inl (zt)), q3, q4], [], [], []) = some ((d + 7, 206, 247, [some (.inr (.inr 109)), some (.inl (zh)), some (.inl (zt)), q3, q4], [], [], []), [((40000 : Int)) ≤ zt]) := rfl
theorem mi_tab_waC_0 : ∀ e ∈ ([(206, (5, 0, sb_206))] : mi_T), sc_P e.1 = some e.2 := mi_tb mi_P206 (mi_tb_e)
set_option maxRecDepth 20000 in
theorem ms_waC_0 {h : sm_H} {d : Nat} {Q : Option mi_V → sm_H → Prop} {zh zt : Int} {q3 q4 : Option mi_V} (hS : ab_Sh sx_sk h) (ok_zh : mi_in zh) (ok_zt : mi_in zt) (ok_q3 : ∀ v, q3 = some v → mi_ok v) (ok_q4 : ∀ v, q4 = some v → mi_ok v) (ho : (((40000 : Int)) ≤ zt)) (kon : ∀ h1, me_W [] h h1 → me_E (d + 7) 206 247 [some (.inr (.inr 109)), some (.inl (zh)), some (.inl (zt)), q3, q4] [] h1 Q) : me_E (d + 7) 206 52 [some (.inr (.inr 109)), some (.inl (zh)), some (.inl (zt)), q3, q4] [] h Q := me_seg (mp_waC_0 h d zh zt q3 q4) (mi_tab_waC_0) hS (mi_okL_c (trivial) (mi_okL_c (ok_zh) (mi_okL_c (ok_zt) (mi_okL_o ok_q3 (mi_okL_o ok_q4 (mi_okL_e)))))) (mi_okS_e) (mi_al (ho) (mi_al_e)) (fun h1 W _ hst => kon h1 W)
set_option maxRecDepth 20000 in
theorem mp_waC_1 (h : sm_H) (d : Nat) (zh zt : Int) (q3 q4 : Option mi_V) : mi_path [(206, (5, 0, sb_206))] sx_sk h 6 [0, 1] (d + 7, 206, 52, [some (.inr (.inr 109)), some (.inl (zh)), some (.inl (zt)), q3, q4], [], [], []) = some ((d + 7, 206, 247, [some (.inr (.inr 109)), some (.inl (zh)), some (.inl (zt)), q3, q4], [], [], []), [zt < ((40000 : Int)), (mi_f h 14029) ≤ ((0 : Int))]) := rfl
theorem mi_tab_waC_1 : ∀ e ∈ ([(206, (5, 0, sb_206))] : mi_T), sc_P e.1 = some e.2 := mi_tb mi_P206 (mi_tb_e)
set_option maxRecDepth 20000 in
theorem ms_waC_1 {h : sm_H} {d : Nat} {Q : Option mi_V → sm_H → Prop} {zh zt : Int} {q3 q4 : Option mi_V} (hS : ab_Sh sx_sk h) (ok_zh : mi_in zh) (ok_zt : mi_in zt) (ok_q3 : ∀ v, q3 = some v → mi_ok v) (ok_q4 : ∀ v, q4 = some v → mi_ok v) (ho : (zt < ((40000 : Int))) ∧ ((mi_f h 14029) ≤ ((0 : Int)))) (kon : ∀ h1, me_W [] h h1 → me_E (d + 7) 206 247 [some (.inr (.inr 109)), some (.inl (zh)), some (.inl (zt)), q3, q4] [] h1 Q) : me_E (d + 7) 206 52 [some (.inr (.inr 109)), some (.inl (zh)), some (.inl (zt)), q3, q4] [] h Q := me_seg (mp_waC_1 h d zh zt q3 q4) (mi_tab_waC_1) hS (mi_okL_c (trivial) (mi_okL_c (ok_zh) (mi_okL_c (ok_zt) (mi_okL_o ok_q3 (mi_okL_o ok_q4 (mi_okL_e)))))) (mi_okS_e) (mi_al (ho.1) (mi_al (ho.2) (mi_al_e))) (fun h1 W _ hst => kon h1 W)
set_option maxRecDepth 20000 in
theorem mp_waC_2 (h : sm_H) (d : Nat) (zh zt : Int) (q3 q4 : Option mi_V) : mi_path [(206, (5, 0, sb_206))] sx_sk h 9 [0, 0, 1] (d + 7, 206, 52, [some (.inr (.inr 109)), some (.inl (zh)), some (.inl (zt)), q3, q4], [], [], []) = some ((d + 7, 206, 247, [some (.inr (.inr 109)), some (.inl (zh)), some (.inl (zt)), q3, q4], [], [], []), [zt < ((40000 : Int)), ((0 : Int)) < (mi_f h 14029), ((0 : Int)) ≤ (mi_f h 14034)]) := rfl
theorem mi_tab_waC_2 : ∀ e ∈ ([(206, (5, 0, sb_206))] : mi_T), sc_P e.1 = some e.2 := mi_tb mi_P206 (mi_tb_e)
set_option maxRecDepth 20000 in
theorem ms_waC_2 {h : sm_H} {d : Nat} {Q : Option mi_V → sm_H → Prop} {zh zt : Int} {q3 q4 : Option mi_V} (hS : ab_Sh sx_sk h) (ok_zh : mi_in zh) (ok_zt : mi_in zt) (ok_q3 : ∀ v, q3 = some v → mi_ok v) (ok_q4 : ∀ v, q4 = some v → mi_ok v) (ho : (zt < ((40000 : Int))) ∧ (((0 : Int)) < (mi_f h 14029)) ∧ (((0 : Int)) ≤ (mi_f h 14034))) (kon : ∀ h1, me_W [] h h1 → me_E (d + 7) 206 247 [some (.inr (.inr 109)), some (.inl (zh)), some (.inl (zt)), q3, q4] [] h1 Q) : me_E (d + 7) 206 52 [some (.inr (.inr 109)), some (.inl (zh)), some (.inl (zt)), q3, q4] [] h Q := me_seg (mp_waC_2 h d zh zt q3 q4) (mi_tab_waC_2) hS (mi_okL_c (trivial) (mi_okL_c (ok_zh) (mi_okL_c (ok_zt) (mi_okL_o ok_q3 (mi_okL_o ok_q4 (mi_okL_e)))))) (mi_okS_e) (mi_al (ho.1) (mi_al (ho.2.1) (mi_al (ho.2.2) (mi_al_e)))) (fun h1 W _ hst => kon h1 W)
set_option maxRecDepth 20000 in
theorem mp_waC_3 (h : sm_H) (d : Nat) (zh zt : Int) (q3 q4 : Option mi_V) : mi_path [(206, (5, 0, sb_206))] sx_sk h 12 [0, 0, 0, 1] (d + 7, 206, 52, [some (.inr (.inr 109)), some (.inl (zh)), some (.inl (zt)), q3, q4], [], [], []) = some ((d + 7, 206, 247, [some (.inr (.inr 109)), some (.inl (zh)), some (.inl (zt)), q3, q4], [], [], []), [zt < ((40000 : Int)), ((0 : Int)) < (mi_f h 14029), (mi_f h 14034) < ((0 : Int)), (mi_f h 14044) ≠ ((0 : Int))]) := rfl
theorem mi_tab_waC_3 : ∀ e ∈ ([(206, (5, 0, sb_206))] : mi_T), sc_P e.1 = some e.2 := mi_tb mi_P206 (mi_tb_e)
set_option maxRecDepth 20000 in
theorem ms_waC_3 {h : sm_H} {d : Nat} {Q : Option mi_V → sm_H → Prop} {zh zt : Int} {q3 q4 : Option mi_V} (hS : ab_Sh sx_sk h) (ok_zh : mi_in zh) (ok_zt : mi_in zt) (ok_q3 : ∀ v, q3 = some v → mi_ok v) (ok_q4 : ∀ v, q4 = some v → mi_ok v) (ho : (zt < ((40000 : Int))) ∧ (((0 : Int)) < (mi_f h 14029)) ∧ ((mi_f h 14034) < ((0 : Int))) ∧ ((mi_f h 14044) ≠ ((0 : Int)))) (kon : ∀ h1, me_W [] h h1 → me_E (d + 7) 206 247 [some (.inr (.inr 109)), some (.inl (zh)), some (.inl (zt)), q3, q4] [] h1 Q) : me_E (d + 7) 206 52 [some (.inr (.inr 109)), some (.inl (zh)), some (.inl (zt)), q3, q4] [] h Q := me_seg (mp_waC_3 h d zh zt q3 q4) (mi_tab_waC_3) hS (mi_okL_c (trivial) (mi_okL_c (ok_zh) (mi_okL_c (ok_zt) (mi_okL_o ok_q3 (mi_okL_o ok_q4 (mi_okL_e)))))) (mi_okS_e) (mi_al (ho.1) (mi_al (ho.2.1) (mi_al (ho.2.2.1) (mi_al (ho.2.2.2) (mi_al_e))))) (fun h1 W _ hst => kon h1 W)
set_option maxRecDepth 20000 in
theorem mp_waC_4 (h : sm_H) (d : Nat) (zh zt : Int) (q3 q4 : Option mi_V) : mi_path [(206, (5, 0, sb_206))] sx_sk h 41 [0, 0, 0, 0, 8, 0, 1] (d + 7, 206, 52, [some (.inr (.inr 109)), some (.inl (zh)), some (.inl (zt)), q3, q4], [], [], []) = some ((d + 7, 206, 172, [some (.inr (.inr 109)), some (.inl (zh)), some (.inl (zt)), some (.inl (mi_a h 166 (Int.toNat ((mi_f h 14029) - ((1 : Int)))))), some (.inl (mi_a h 167 (Int.toNat ((mi_f h 14029) - ((1 : Int))))))], [.inl ((0 : Int)), .inl (mi_a h 166 (Int.toNat ((mi_f h 14029) - ((1 : Int))))), .inr (.inr 109)], [.inl (14029, (mi_f h 14029) - ((1 : Int)))], []), [zt < ((40000 : Int)), ((0 : Int)) < (mi_f h 14029), (mi_f h 14034) < ((0 : Int)), (mi_f h 14044) = ((0 : Int)), -2147483648 ≤ (mi_f h 14029) - ((1 : Int)) ∧ (mi_f h 14029) - ((1 : Int)) ≤ 2147483647, 0 ≤ ((mi_f h 14029) - ((1 : Int))) ∧ ((mi_f h 14029) - ((1 : Int))) < 3000, 0 ≤ ((mi_f h 14029) - ((1 : Int))) ∧ ((mi_f h 14029) - ((1 : Int))) < 3000, 0 ≤ ((mi_f h 14029) - ((1 : Int))) ∧ ((mi_f h 14029) - ((1 : Int))) < 3000, (mi_a h 165 (Int.toNat ((mi_f h 14029) - ((1 : Int))))) = 0 + 0 ∧ (mi_a h 165 (Int.toNat ((mi_f h 14029) - ((1 : Int))))) ≤ 5, (mi_a h 167 (Int.toNat ((mi_f h 14029) - ((1 : Int))))) ≤ ((0 : Int))]) := rfl
theorem mi_tab_waC_4 : ∀ e ∈ ([(206, (5, 0, sb_206))] : mi_T), sc_P e.1 = some e.2 := mi_tb mi_P206 (mi_tb_e)
set_option maxRecDepth 20000 in
theorem ms_waC_4 {h : sm_H} {d : Nat} {Q : Option mi_V → sm_H → Prop} {zh zt : Int} {q3 q4 : Option mi_V} (hS : ab_Sh sx_sk h) (ok_zh : mi_in zh) (ok_zt : mi_in zt) (ok_q3 : ∀ v, q3 = some v → mi_ok v) (ok_q4 : ∀ v, q4 = some v → mi_ok v) (ho : (zt < ((40000 : Int))) ∧ (((0 : Int)) < (mi_f h 14029)) ∧ ((mi_f h 14034) < ((0 : Int))) ∧ ((mi_f h 14044) = ((0 : Int))) ∧ (-2147483648 ≤ (mi_f h 14029) - ((1 : Int)) ∧ (mi_f h 14029) - ((1 : Int)) ≤ 2147483647) ∧ (0 ≤ ((mi_f h 14029) - ((1 : Int))) ∧ ((mi_f h 14029) - ((1 : Int))) < 3000) ∧ (0 ≤ ((mi_f h 14029) - ((1 : Int))) ∧ ((mi_f h 14029) - ((1 : Int))) < 3000) ∧ (0 ≤ ((mi_f h 14029) - ((1 : Int))) ∧ ((mi_f h 14029) - ((1 : Int))) < 3000) ∧ ((mi_a h 165 (Int.toNat ((mi_f h 14029) - ((1 : Int))))) = 0 + 0 ∧ (mi_a h 165 (Int.toNat ((mi_f h 14029) - ((1 : Int))))) ≤ 5) ∧ ((mi_a h 167 (Int.toNat ((mi_f h 14029) - ((1 : Int))))) ≤ ((0 : Int)))) (kon : ∀ h1, me_W [.inl (14029, (mi_f h 14029) - ((1 : Int)))] h h1 → ∃ Q1, me_E (d + 6) 210 0 (mi_entry 5 [.inr (.inr 109), .inl (mi_a h 166 (Int.toNat ((mi_f h 14029) - ((1 : Int))))), .inl ((0 : Int))]) [] h1 Q1 ∧ ∀ w h2, (∀ x, w = some x → mi_ok x) → Q1 w h2 → me_E (d + 7) 206 175 [some (.inr (.inr 109)), some (.inl (zh)), some (.inl (zt)), some (.inl (mi_a h 166 (Int.toNat ((mi_f h 14029) - ((1 : Int)))))), some (.inl (mi_a h 167 (Int.toNat ((mi_f h 14029) - ((1 : Int))))))] (mi_back w []) h2 Q) : me_E (d + 7) 206 52 [some (.inr (.inr 109)), some (.inl (zh)), some (.inl (zt)), q3, q4] [] h Q := me_seg (mp_waC_4 h d zh zt q3 q4) (mi_tab_waC_4) hS (mi_okL_c (trivial) (mi_okL_c (ok_zh) (mi_okL_c (ok_zt) (mi_okL_o ok_q3 (mi_okL_o ok_q4 (mi_okL_e)))))) (mi_okS_e) (mi_al (ho.1) (mi_al (ho.2.1) (mi_al (ho.2.2.1) (mi_al (ho.2.2.2.1) (mi_al (ho.2.2.2.2.1) (mi_al (ho.2.2.2.2.2.1) (mi_al (ho.2.2.2.2.2.2.1) (mi_al (ho.2.2.2.2.2.2.2.1) (mi_al (ho.2.2.2.2.2.2.2.2.1) (mi_al (ho.2.2.2.2.2.2.2.2.2) (mi_al_e))))))))))) (fun h1 W _ hst => let ⟨_, k1, k2⟩ := kon h1 W; me_call (M := (5, 0, sb_206)) (M' := (5, 0, sb_210)) rfl rfl rfl rfl (Nat.le_of_ble_eq_true rfl) (Nat.le_of_ble_eq_true rfl) W.1 k1 k2)
set_option maxRecDepth 20000 in
theorem mp_waC_5 (h : sm_H) (d : Nat) (zh zt : Int) (q3 q4 : Option mi_V) : mi_path [(206, (5, 0, sb_206))] sx_sk h 42 [0, 0, 0, 0, 8, 0, 0] (d + 7, 206, 52, [some (.inr (.inr 109)), some (.inl (zh)), some (.inl (zt)), q3, q4], [], [], []) = some ((d + 7, 206, 172, [some (.inr (.inr 109)), some (.inl (zh)), some (.inl (zt)), some (.inl (mi_a h 166 (Int.toNat ((mi_f h 14029) - ((1 : Int)))))), some (.inl (mi_a h 167 (Int.toNat ((mi_f h 14029) - ((1 : Int))))))], [.inl ((1 : Int)), .inl (mi_a h 166 (Int.toNat ((mi_f h 14029) - ((1 : Int))))), .inr (.inr 109)], [.inl (14029, (mi_f h 14029) - ((1 : Int)))], []), [zt < ((40000 : Int)), ((0 : Int)) < (mi_f h 14029), (mi_f h 14034) < ((0 : Int)), (mi_f h 14044) = ((0 : Int)), -2147483648 ≤ (mi_f h 14029) - ((1 : Int)) ∧ (mi_f h 14029) - ((1 : Int)) ≤ 2147483647, 0 ≤ ((mi_f h 14029) - ((1 : Int))) ∧ ((mi_f h 14029) - ((1 : Int))) < 3000, 0 ≤ ((mi_f h 14029) - ((1 : Int))) ∧ ((mi_f h 14029) - ((1 : Int))) < 3000, 0 ≤ ((mi_f h 14029) - ((1 : Int))) ∧ ((mi_f h 14029) - ((1 : Int))) < 3000, (mi_a h 165 (Int.toNat ((mi_f h 14029) - ((1 : Int))))) = 0 + 0 ∧ (mi_a h 165 (Int.toNat ((mi_f h 14029) - ((1 : Int))))) ≤ 5, ((0 : Int)) < (mi_a h 167 (Int.toNat ((mi_f h 14029) - ((1 : Int)))))]) := rfl
theorem mi_tab_waC_5 : ∀ e ∈ ([(206, (5, 0, sb_206))] : mi_T), sc_P e.1 = some e.2 := mi_tb mi_P206 (mi_tb_e)
set_option maxRecDepth 20000 in
theorem ms_waC_5 {h : sm_H} {d : Nat} {Q : Option mi_V → sm_H → Prop} {zh zt : Int} {q3 q4 : Option mi_V} (hS : ab_Sh sx_sk h) (ok_zh : mi_in zh) (ok_zt : mi_in zt) (ok_q3 : ∀ v, q3 = some v → mi_ok v) (ok_q4 : ∀ v, q4 = some v → mi_ok v) (ho : (zt < ((40000 : Int))) ∧ (((0 : Int)) < (mi_f h 14029)) ∧ ((mi_f h 14034) < ((0 : Int))) ∧ ((mi_f h 14044) = ((0 : Int))) ∧ (-2147483648 ≤ (mi_f h 14029) - ((1 : Int)) ∧ (mi_f h 14029) - ((1 : Int)) ≤ 2147483647) ∧ (0 ≤ ((mi_f h 14029) - ((1 : Int))) ∧ ((mi_f h 14029) - ((1 : Int))) < 3000) ∧ (0 ≤ ((mi_f h 14029) - ((1 : Int))) ∧ ((mi_f h 14029) - ((1 : Int))) < 3000) ∧ (0 ≤ ((mi_f h 14029) - ((1 : Int))) ∧ ((mi_f h 14029) - ((1 : Int))) < 3000) ∧ ((mi_a h 165 (Int.toNat ((mi_f h 14029) - ((1 : Int))))) = 0 + 0 ∧ (mi_a h 165 (Int.toNat ((mi_f h 14029) - ((1 : Int))))) ≤ 5) ∧ (((0 : Int)) < (mi_a h 167 (Int.toNat ((mi_f h 14029) - ((1 : Int))))))) (kon : ∀ h1, me_W [.inl (14029, (mi_f h 14029) - ((1 : Int)))] h h1 → ∃ Q1, me_E (d + 6) 210 0 (mi_entry 5 [.inr (.inr 109), .inl (mi_a h 166 (Int.toNat ((mi_f h 14029) - ((1 : Int))))), .inl ((1 : Int))]) [] h1 Q1 ∧ ∀ w h2, (∀ x, w = some x → mi_ok x) → Q1 w h2 → me_E (d + 7) 206 175 [some (.inr (.inr 109)), some (.inl (zh)), some (.inl (zt)), some (.inl (mi_a h 166 (Int.toNat ((mi_f h 14029) - ((1 : Int)))))), some (.inl (mi_a h 167 (Int.toNat ((mi_f h 14029) - ((1 : Int))))))] (mi_back w []) h2 Q) : me_E (d + 7) 206 52 [some (.inr (.inr 109)), some (.inl (zh)), some (.inl (zt)), q3, q4] [] h Q := me_seg (mp_waC_5 h d zh zt q3 q4) (mi_tab_waC_5) hS (mi_okL_c (trivial) (mi_okL_c (ok_zh) (mi_okL_c (ok_zt) (mi_okL_o ok_q3 (mi_okL_o ok_q4 (mi_okL_e)))))) (mi_okS_e) (mi_al (ho.1) (mi_al (ho.2.1) (mi_al (ho.2.2.1) (mi_al (ho.2.2.2.1) (mi_al (ho.2.2.2.2.1) (mi_al (ho.2.2.2.2.2.1) (mi_al (ho.2.2.2.2.2.2.1) (mi_al (ho.2.2.2.2.2.2.2.1) (mi_al (ho.2.2.2.2.2.2.2.2.1) (mi_al (ho.2.2.2.2.2.2.2.2.2) (mi_al_e))))))))))) (fun h1 W _ hst => let ⟨_, k1, k2⟩ := kon h1 W; me_call (M := (5, 0, sb_206)) (M' := (5, 0, sb_210)) rfl rfl rfl rfl (Nat.le_of_ble_eq_true rfl) (Nat.le_of_ble_eq_true rfl) W.1 k1 k2)
set_option maxRecDepth 20000 in
theorem mp_waC_6 (h : sm_H) (d : Nat) (zh zt : Int) (q3 q4 : Option mi_V) : mi_path [(206, (5, 0, sb_206))] sx_sk h 38 [0, 0, 0, 0, 8, 1] (d + 7, 206, 52, [some (.inr (.inr 109)), some (.inl (zh)), some (.inl (zt)), q3, q4], [], [], []) = some ((d + 7, 206, 180, [some (.inr (.inr 109)), some (.inl (zh)), some (.inl (zt)), some (.inl (mi_a h 166 (Int.toNat ((mi_f h 14029) - ((1 : Int)))))), some (.inl (mi_a h 167 (Int.toNat ((mi_f h 14029) - ((1 : Int))))))], [.inl (mi_a h 166 (Int.toNat ((mi_f h 14029) - ((1 : Int))))), .inr (.inr 109)], [.inl (14029, (mi_f h 14029) - ((1 : Int)))], []), [zt < ((40000 : Int)), ((0 : Int)) < (mi_f h 14029), (mi_f h 14034) < ((0 : Int)), (mi_f h 14044) = ((0 : Int)), -2147483648 ≤ (mi_f h 14029) - ((1 : Int)) ∧ (mi_f h 14029) - ((1 : Int)) ≤ 2147483647, 0 ≤ ((mi_f h 14029) - ((1 : Int))) ∧ ((mi_f h 14029) - ((1 : Int))) < 3000, 0 ≤ ((mi_f h 14029) - ((1 : Int))) ∧ ((mi_f h 14029) - ((1 : Int))) < 3000, 0 ≤ ((mi_f h 14029) - ((1 : Int))) ∧ ((mi_f h 14029) - ((1 : Int))) < 3000, (mi_a h 165 (Int.toNat ((mi_f h 14029) - ((1 : Int))))) = 0 + 1 ∧ (mi_a h 165 (Int.toNat ((mi_f h 14029) - ((1 : Int))))) ≤ 5]) := rfl
theorem mi_tab_waC_6 : ∀ e ∈ ([(206, (5, 0, sb_206))] : mi_T), sc_P e.1 = some e.2 := mi_tb mi_P206 (mi_tb_e)
set_option maxRecDepth 20000 in
theorem ms_waC_6 {h : sm_H} {d : Nat} {Q : Option mi_V → sm_H → Prop} {zh zt : Int} {q3 q4 : Option mi_V} (hS : ab_Sh sx_sk h) (ok_zh : mi_in zh) (ok_zt : mi_in zt) (ok_q3 : ∀ v, q3 = some v → mi_ok v) (ok_q4 : ∀ v, q4 = some v → mi_ok v) (ho : (zt < ((40000 : Int))) ∧ (((0 : Int)) < (mi_f h 14029)) ∧ ((mi_f h 14034) < ((0 : Int))) ∧ ((mi_f h 14044) = ((0 : Int))) ∧ (-2147483648 ≤ (mi_f h 14029) - ((1 : Int)) ∧ (mi_f h 14029) - ((1 : Int)) ≤ 2147483647) ∧ (0 ≤ ((mi_f h 14029) - ((1 : Int))) ∧ ((mi_f h 14029) - ((1 : Int))) < 3000) ∧ (0 ≤ ((mi_f h 14029) - ((1 : Int))) ∧ ((mi_f h 14029) - ((1 : Int))) < 3000) ∧ (0 ≤ ((mi_f h 14029) - ((1 : Int))) ∧ ((mi_f h 14029) - ((1 : Int))) < 3000) ∧ ((mi_a h 165 (Int.toNat ((mi_f h 14029) - ((1 : Int))))) = 0 + 1 ∧ (mi_a h 165 (Int.toNat ((mi_f h 14029) - ((1 : Int))))) ≤ 5)) (kon : ∀ h1, me_W [.inl (14029, (mi_f h 14029) - ((1 : Int)))] h h1 → ∃ Q1, me_E (d + 6) 223 0 (mi_entry 6 [.inr (.inr 109), .inl (mi_a h 166 (Int.toNat ((mi_f h 14029) - ((1 : Int)))))]) [] h1 Q1 ∧ ∀ w h2, (∀ x, w = some x → mi_ok x) → Q1 w h2 → me_E (d + 7) 206 183 [some (.inr (.inr 109)), some (.inl (zh)), some (.inl (zt)), some (.inl (mi_a h 166 (Int.toNat ((mi_f h 14029) - ((1 : Int)))))), some (.inl (mi_a h 167 (Int.toNat ((mi_f h 14029) - ((1 : Int))))))] (mi_back w []) h2 Q) : me_E (d + 7) 206 52 [some (.inr (.inr 109)), some (.inl (zh)), some (.inl (zt)), q3, q4] [] h Q := me_seg (mp_waC_6 h d zh zt q3 q4) (mi_tab_waC_6) hS (mi_okL_c (trivial) (mi_okL_c (ok_zh) (mi_okL_c (ok_zt) (mi_okL_o ok_q3 (mi_okL_o ok_q4 (mi_okL_e)))))) (mi_okS_e) (mi_al (ho.1) (mi_al (ho.2.1) (mi_al (ho.2.2.1) (mi_al (ho.2.2.2.1) (mi_al (ho.2.2.2.2.1) (mi_al (ho.2.2.2.2.2.1) (mi_al (ho.2.2.2.2.2.2.1) (mi_al (ho.2.2.2.2.2.2.2.1) (mi_al (ho.2.2.2.2.2.2.2.2) (mi_al_e)))))))))) (fun h1 W _ hst => let ⟨_, k1, k2⟩ := kon h1 W; me_call (M := (5, 0, sb_206)) (M' := (6, 0, sb_223)) rfl rfl rfl rfl (Nat.le_of_ble_eq_true rfl) (Nat.le_of_ble_eq_true rfl) W.1 k1 k2)
set_option maxRecDepth 20000 in
theorem mp_waC_7 (h : sm_H) (d : Nat) (zh zt : Int) (q3 q4 : Option mi_V) : mi_path [(206, (5, 0, sb_206))] sx_sk h 50 [0, 0, 0, 0, 8, 2, 9, 8] (d + 7, 206, 52, [some (.inr (.inr 109)), some (.inl (zh)), some (.inl (zt)), q3, q4], [], [], []) = some ((d + 7, 206, 52, [some (.inr (.inr 109)), some (.inl (zh)), some (.inl (zt + 1)), some (.inl (mi_a h 166 (Int.toNat ((mi_f h 14029) - ((1 : Int)))))), some (.inl (mi_a h 167 (Int.toNat ((mi_f h 14029) - ((1 : Int))))))], [], [.inl (14032, (mi_f h 14032) - (mi_a h 166 (Int.toNat ((mi_f h 14029) - ((1 : Int)))))), .inl (14031, (Int32.ofInt (mi_f h 14031) - Int32.ofInt ((1 : Int))).toInt), .inl (14029, (mi_f h 14029) - ((1 : Int)))], []), [zt < ((40000 : Int)), ((0 : Int)) < (mi_f h 14029), (mi_f h 14034) < ((0 : Int)), (mi_f h 14044) = ((0 : Int)), -2147483648 ≤ (mi_f h 14029) - ((1 : Int)) ∧ (mi_f h 14029) - ((1 : Int)) ≤ 2147483647, 0 ≤ ((mi_f h 14029) - ((1 : Int))) ∧ ((mi_f h 14029) - ((1 : Int))) < 3000, 0 ≤ ((mi_f h 14029) - ((1 : Int))) ∧ ((mi_f h 14029) - ((1 : Int))) < 3000, 0 ≤ ((mi_f h 14029) - ((1 : Int))) ∧ ((mi_f h 14029) - ((1 : Int))) < 3000, (mi_a h 165 (Int.toNat ((mi_f h 14029) - ((1 : Int))))) = 0 + 2 ∧ (mi_a h 165 (Int.toNat ((mi_f h 14029) - ((1 : Int))))) ≤ 5, -2147483648 ≤ (mi_f h 14032) - (mi_a h 166 (Int.toNat ((mi_f h 14029) - ((1 : Int))))) ∧ (mi_f h 14032) - (mi_a h 166 (Int.toNat ((mi_f h 14029) - ((1 : Int))))) ≤ 2147483647, -2147483648 ≤ zt + 1 ∧ zt + 1 ≤ 2147483647]) := rfl
theorem mi_tab_waC_7 : ∀ e ∈ ([(206, (5, 0, sb_206))] : mi_T), sc_P e.1 = some e.2 := mi_tb mi_P206 (mi_tb_e)
set_option maxRecDepth 20000 in
theorem ms_waC_7 {h : sm_H} {d : Nat} {Q : Option mi_V → sm_H → Prop} {zh zt : Int} {q3 q4 : Option mi_V} (hS : ab_Sh sx_sk h) (ok_zh : mi_in zh) (ok_zt : mi_in zt) (ok_q3 : ∀ v, q3 = some v → mi_ok v) (ok_q4 : ∀ v, q4 = some v → mi_ok v) (ho : (zt < ((40000 : Int))) ∧ (((0 : Int)) < (mi_f h 14029)) ∧ ((mi_f h 14034) < ((0 : Int))) ∧ ((mi_f h 14044) = ((0 : Int))) ∧ (-2147483648 ≤ (mi_f h 14029) - ((1 : Int)) ∧ (mi_f h 14029) - ((1 : Int)) ≤ 2147483647) ∧ (0 ≤ ((mi_f h 14029) - ((1 : Int))) ∧ ((mi_f h 14029) - ((1 : Int))) < 3000) ∧ (0 ≤ ((mi_f h 14029) - ((1 : Int))) ∧ ((mi_f h 14029) - ((1 : Int))) < 3000) ∧ (0 ≤ ((mi_f h 14029) - ((1 : Int))) ∧ ((mi_f h 14029) - ((1 : Int))) < 3000) ∧ ((mi_a h 165 (Int.toNat ((mi_f h 14029) - ((1 : Int))))) = 0 + 2 ∧ (mi_a h 165 (Int.toNat ((mi_f h 14029) - ((1 : Int))))) ≤ 5) ∧ (-2147483648 ≤ (mi_f h 14032) - (mi_a h 166 (Int.toNat ((mi_f h 14029) - ((1 : Int))))) ∧ (mi_f h 14032) - (mi_a h 166 (Int.toNat ((mi_f h 14029) - ((1 : Int))))) ≤ 2147483647) ∧ (-2147483648 ≤ zt + 1 ∧ zt + 1 ≤ 2147483647)) (kon : ∀ h1, me_W [.inl (14032, (mi_f h 14032) - (mi_a h 166 (Int.toNat ((mi_f h 14029) - ((1 : Int)))))), .inl (14031, (Int32.ofInt (mi_f h 14031) - Int32.ofInt ((1 : Int))).toInt), .inl (14029, (mi_f h 14029) - ((1 : Int)))] h h1 → me_E (d + 7) 206 52 [some (.inr (.inr 109)), some (.inl (zh)), some (.inl (zt + 1)), some (.inl (mi_a h 166 (Int.toNat ((mi_f h 14029) - ((1 : Int)))))), some (.inl (mi_a h 167 (Int.toNat ((mi_f h 14029) - ((1 : Int))))))] [] h1 Q) : me_E (d + 7) 206 52 [some (.inr (.inr 109)), some (.inl (zh)), some (.inl (zt)), q3, q4] [] h Q := me_seg (mp_waC_7 h d zh zt q3 q4) (mi_tab_waC_7) hS (mi_okL_c (trivial) (mi_okL_c (ok_zh) (mi_okL_c (ok_zt) (mi_okL_o ok_q3 (mi_okL_o ok_q4 (mi_okL_e)))))) (mi_okS_e) (mi_al (ho.1) (mi_al (ho.2.1) (mi_al (ho.2.2.1) (mi_al (ho.2.2.2.1) (mi_al (ho.2.2.2.2.1) (mi_al (ho.2.2.2.2.2.1) (mi_al (ho.2.2.2.2.2.2.1) (mi_al (ho.2.2.2.2.2.2.2.1) (mi_al (ho.2.2.2.2.2.2.2.2.1) (mi_al (ho.2.2.2.2.2.2.2.2.2.1) (mi_al (ho.2.2.2.2.2.2.2.2.2.2) (mi_al_e)))))))))))) (fun h1 W _ hst => kon h1 W)
set_option maxRecDepth 20000 in
theorem mp_waC_8 (h : sm_H) (d : Nat) (zh zt : Int) (q3 q4 : Option mi_V) : mi_path [(206, (5, 0, sb_206))] sx_sk h 48 [0, 0, 0, 0, 8, 3, 8] (d + 7, 206, 52, [some (.inr (.inr 109)), some (.inl (zh)), some (.inl (zt)), q3, q4], [], [], []) = some ((d + 7, 206, 52, [some (.inr (.inr 109)), some (.inl (zh)), some (.inl (zt + 1)), some (.inl (mi_a h 166 (Int.toNat ((mi_f h 14029) - ((1 : Int)))))), some (.inl (mi_a h 167 (Int.toNat ((mi_f h 14029) - ((1 : Int))))))], [], [.inr (.inr (.inl (169, Int.toNat ((mi_f h 14030) - ((1 : Int))), mi_f h 14016))), .inl (14029, (mi_f h 14029) - ((1 : Int)))], []), [zt < ((40000 : Int)), ((0 : Int)) < (mi_f h 14029), (mi_f h 14034) < ((0 : Int)), (mi_f h 14044) = ((0 : Int)), -2147483648 ≤ (mi_f h 14029) - ((1 : Int)) ∧ (mi_f h 14029) - ((1 : Int)) ≤ 2147483647, 0 ≤ ((mi_f h 14029) - ((1 : Int))) ∧ ((mi_f h 14029) - ((1 : Int))) < 3000, 0 ≤ ((mi_f h 14029) - ((1 : Int))) ∧ ((mi_f h 14029) - ((1 : Int))) < 3000, 0 ≤ ((mi_f h 14029) - ((1 : Int))) ∧ ((mi_f h 14029) - ((1 : Int))) < 3000, (mi_a h 165 (Int.toNat ((mi_f h 14029) - ((1 : Int))))) = 0 + 3 ∧ (mi_a h 165 (Int.toNat ((mi_f h 14029) - ((1 : Int))))) ≤ 5, -2147483648 ≤ (mi_f h 14030) - ((1 : Int)) ∧ (mi_f h 14030) - ((1 : Int)) ≤ 2147483647, 0 ≤ ((mi_f h 14030) - ((1 : Int))) ∧ ((mi_f h 14030) - ((1 : Int))) < 64, 0 ≤ (mi_f h 14016) ∧ (mi_f h 14016) ≤ 100, -2147483648 ≤ zt + 1 ∧ zt + 1 ≤ 2147483647]) := rfl
theorem mi_tab_waC_8 : ∀ e ∈ ([(206, (5, 0, sb_206))] : mi_T), sc_P e.1 = some e.2 := mi_tb mi_P206 (mi_tb_e)
set_option maxRecDepth 20000 in
theorem ms_waC_8 {h : sm_H} {d : Nat} {Q : Option mi_V → sm_H → Prop} {zh zt : Int} {q3 q4 : Option mi_V} (hS : ab_Sh sx_sk h) (ok_zh : mi_in zh) (ok_zt : mi_in zt) (ok_q3 : ∀ v, q3 = some v → mi_ok v) (ok_q4 : ∀ v, q4 = some v → mi_ok v) (ho : (zt < ((40000 : Int))) ∧ (((0 : Int)) < (mi_f h 14029)) ∧ ((mi_f h 14034) < ((0 : Int))) ∧ ((mi_f h 14044) = ((0 : Int))) ∧ (-2147483648 ≤ (mi_f h 14029) - ((1 : Int)) ∧ (mi_f h 14029) - ((1 : Int)) ≤ 2147483647) ∧ (0 ≤ ((mi_f h 14029) - ((1 : Int))) ∧ ((mi_f h 14029) - ((1 : Int))) < 3000) ∧ (0 ≤ ((mi_f h 14029) - ((1 : Int))) ∧ ((mi_f h 14029) - ((1 : Int))) < 3000) ∧ (0 ≤ ((mi_f h 14029) - ((1 : Int))) ∧ ((mi_f h 14029) - ((1 : Int))) < 3000) ∧ ((mi_a h 165 (Int.toNat ((mi_f h 14029) - ((1 : Int))))) = 0 + 3 ∧ (mi_a h 165 (Int.toNat ((mi_f h 14029) - ((1 : Int))))) ≤ 5) ∧ (-2147483648 ≤ (mi_f h 14030) - ((1 : Int)) ∧ (mi_f h 14030) - ((1 : Int)) ≤ 2147483647) ∧ (0 ≤ ((mi_f h 14030) - ((1 : Int))) ∧ ((mi_f h 14030) - ((1 : Int))) < 64) ∧ (0 ≤ (mi_f h 14016) ∧ (mi_f h 14016) ≤ 100) ∧ (-2147483648 ≤ zt + 1 ∧ zt + 1 ≤ 2147483647)) (kon : ∀ h1, me_W [.inr (.inr (.inl (169, Int.toNat ((mi_f h 14030) - ((1 : Int))), mi_f h 14016))), .inl (14029, (mi_f h 14029) - ((1 : Int)))] h h1 → me_E (d + 7) 206 52 [some (.inr (.inr 109)), some (.inl (zh)), some (.inl (zt + 1)), some (.inl (mi_a h 166 (Int.toNat ((mi_f h 14029) - ((1 : Int)))))), some (.inl (mi_a h 167 (Int.toNat ((mi_f h 14029) - ((1 : Int))))))] [] h1 Q) : me_E (d + 7) 206 52 [some (.inr (.inr 109)), some (.inl (zh)), some (.inl (zt)), q3, q4] [] h Q := me_seg (mp_waC_8 h d zh zt q3 q4) (mi_tab_waC_8) hS (mi_okL_c (trivial) (mi_okL_c (ok_zh) (mi_okL_c (ok_zt) (mi_okL_o ok_q3 (mi_okL_o ok_q4 (mi_okL_e)))))) (mi_okS_e) (mi_al (ho.1) (mi_al (ho.2.1) (mi_al (ho.2.2.1) (mi_al (ho.2.2.2.1) (mi_al (ho.2.2.2.2.1) (mi_al (ho.2.2.2.2.2.1) (mi_al (ho.2.2.2.2.2.2.1) (mi_al (ho.2.2.2.2.2.2.2.1) (mi_al (ho.2.2.2.2.2.2.2.2.1) (mi_al (ho.2.2.2.2.2.2.2.2.2.1) (mi_al (ho.2.2.2.2.2.2.2.2.2.2.1) (mi_al (ho.2.2.2.2.2.2.2.2.2.2.2.1) (mi_al (ho.2.2.2.2.2.2.2.2.2.2.2.2) (mi_al_e)))))))))))))) (fun h1 W _ hst => kon h1 W)
set_option maxRecDepth 20000 in
theorem mp_waC_9 (h : sm_H) (d : Nat) (zh zt : Int) (q3 q4 : Option mi_V) : mi_path [(206, (5, 0, sb_206))] sx_sk h 37 [0, 0, 0, 0, 8, 4] (d + 7, 206, 52, [some (.inr (.inr 109)), some (.inl (zh)), some (.inl (zt)), q3, q4], [], [], []) = some ((d + 7, 206, 205, [some (.inr (.inr 109)), some (.inl (zh)), some (.inl (zt)), some (.inl (mi_a h 166 (Int.toNat ((mi_f h 14029) - ((1 : Int)))))), some (.inl (mi_a h 167 (Int.toNat ((mi_f h 14029) - ((1 : Int))))))], [.inr (.inr 109)], [.inl (14029, (mi_f h 14029) - ((1 : Int)))], []), [zt < ((40000 : Int)), ((0 : Int)) < (mi_f h 14029), (mi_f h 14034) < ((0 : Int)), (mi_f h 14044) = ((0 : Int)), -2147483648 ≤ (mi_f h 14029) - ((1 : Int)) ∧ (mi_f h 14029) - ((1 : Int)) ≤ 2147483647, 0 ≤ ((mi_f h 14029) - ((1 : Int))) ∧ ((mi_f h 14029) - ((1 : Int))) < 3000, 0 ≤ ((mi_f h 14029) - ((1 : Int))) ∧ ((mi_f h 14029) - ((1 : Int))) < 3000, 0 ≤ ((mi_f h 14029) - ((1 : Int))) ∧ ((mi_f h 14029) - ((1 : Int))) < 3000, (mi_a h 165 (Int.toNat ((mi_f h 14029) - ((1 : Int))))) = 0 + 4 ∧ (mi_a h 165 (Int.toNat ((mi_f h 14029) - ((1 : Int))))) ≤ 5]) := rfl
theorem mi_tab_waC_9 : ∀ e ∈ ([(206, (5, 0, sb_206))] : mi_T), sc_P e.1 = some e.2 := mi_tb mi_P206 (mi_tb_e)
set_option maxRecDepth 20000 in
theorem ms_waC_9 {h : sm_H} {d : Nat} {Q : Option mi_V → sm_H → Prop} {zh zt : Int} {q3 q4 : Option mi_V} (hS : ab_Sh sx_sk h) (ok_zh : mi_in zh) (ok_zt : mi_in zt) (ok_q3 : ∀ v, q3 = some v → mi_ok v) (ok_q4 : ∀ v, q4 = some v → mi_ok v) (ho : (zt < ((40000 : Int))) ∧ (((0 : Int)) < (mi_f h 14029)) ∧ ((mi_f h 14034) < ((0 : Int))) ∧ ((mi_f h 14044) = ((0 : Int))) ∧ (-2147483648 ≤ (mi_f h 14029) - ((1 : Int)) ∧ (mi_f h 14029) - ((1 : Int)) ≤ 2147483647) ∧ (0 ≤ ((mi_f h 14029) - ((1 : Int))) ∧ ((mi_f h 14029) - ((1 : Int))) < 3000) ∧ (0 ≤ ((mi_f h 14029) - ((1 : Int))) ∧ ((mi_f h 14029) - ((1 : Int))) < 3000) ∧ (0 ≤ ((mi_f h 14029) - ((1 : Int))) ∧ ((mi_f h 14029) - ((1 : Int))) < 3000) ∧ ((mi_a h 165 (Int.toNat ((mi_f h 14029) - ((1 : Int))))) = 0 + 4 ∧ (mi_a h 165 (Int.toNat ((mi_f h 14029) - ((1 : Int))))) ≤ 5)) (kon : ∀ h1, me_W [.inl (14029, (mi_f h 14029) - ((1 : Int)))] h h1 → ∃ Q1, me_E (d + 6) 226 0 (mi_entry 5 [.inr (.inr 109)]) [] h1 Q1 ∧ ∀ w h2, (∀ x, w = some x → mi_ok x) → Q1 w h2 → me_E (d + 7) 206 208 [some (.inr (.inr 109)), some (.inl (zh)), some (.inl (zt)), some (.inl (mi_a h 166 (Int.toNat ((mi_f h 14029) - ((1 : Int)))))), some (.inl (mi_a h 167 (Int.toNat ((mi_f h 14029) - ((1 : Int))))))] (mi_back w []) h2 Q) : me_E (d + 7) 206 52 [some (.inr (.inr 109)), some (.inl (zh)), some (.inl (zt)), q3, q4] [] h Q := me_seg (mp_waC_9 h d zh zt q3 q4) (mi_tab_waC_9) hS (mi_okL_c (trivial) (mi_okL_c (ok_zh) (mi_okL_c (ok_zt) (mi_okL_o ok_q3 (mi_okL_o ok_q4 (mi_okL_e)))))) (mi_okS_e) (mi_al (ho.1) (mi_al (ho.2.1) (mi_al (ho.2.2.1) (mi_al (ho.2.2.2.1) (mi_al (ho.2.2.2.2.1) (mi_al (ho.2.2.2.2.2.1) (mi_al (ho.2.2.2.2.2.2.1) (mi_al (ho.2.2.2.2.2.2.2.1) (mi_al (ho.2.2.2.2.2.2.2.2) (mi_al_e)))))))))) (fun h1 W _ hst => let ⟨_, k1, k2⟩ := kon h1 W; me_call (M := (5, 0, sb_206)) (M' := (5, 0, sb_226)) rfl rfl rfl rfl (Nat.le_of_ble_eq_true rfl) (Nat.le_of_ble_eq_true rfl) W.1 k1 k2)
set_option maxRecDepth 20000 in
theorem mp_waC_10 (h : sm_H) (d : Nat) (zh zt : Int) (q3 q4 : Option mi_V) : mi_path [(206, (5, 0, sb_206))] sx_sk h 39 [0, 0, 0, 0, 8, 5] (d + 7, 206, 52, [some (.inr (.inr 109)), some (.inl (zh)), some (.inl (zt)), q3, q4], [], [], []) = some ((d + 7, 206, 215, [some (.inr (.inr 109)), some (.inl (zh)), some (.inl (zt)), some (.inl (mi_a h 166 (Int.toNat ((mi_f h 14029) - ((1 : Int)))))), some (.inl (mi_a h 167 (Int.toNat ((mi_f h 14029) - ((1 : Int))))))], [.inl (mi_a h 167 (Int.toNat ((mi_f h 14029) - ((1 : Int))))), .inl (mi_a h 166 (Int.toNat ((mi_f h 14029) - ((1 : Int))))), .inr (.inr 109)], [.inl (14029, (mi_f h 14029) - ((1 : Int)))], []), [zt < ((40000 : Int)), ((0 : Int)) < (mi_f h 14029), (mi_f h 14034) < ((0 : Int)), (mi_f h 14044) = ((0 : Int)), -2147483648 ≤ (mi_f h 14029) - ((1 : Int)) ∧ (mi_f h 14029) - ((1 : Int)) ≤ 2147483647, 0 ≤ ((mi_f h 14029) - ((1 : Int))) ∧ ((mi_f h 14029) - ((1 : Int))) < 3000, 0 ≤ ((mi_f h 14029) - ((1 : Int))) ∧ ((mi_f h 14029) - ((1 : Int))) < 3000, 0 ≤ ((mi_f h 14029) - ((1 : Int))) ∧ ((mi_f h 14029) - ((1 : Int))) < 3000, (mi_a h 165 (Int.toNat ((mi_f h 14029) - ((1 : Int))))) = 0 + 5 ∧ (mi_a h 165 (Int.toNat ((mi_f h 14029) - ((1 : Int))))) ≤ 5]) := rfl
theorem mi_tab_waC_10 : ∀ e ∈ ([(206, (5, 0, sb_206))] : mi_T), sc_P e.1 = some e.2 := mi_tb mi_P206 (mi_tb_e)
set_option maxRecDepth 20000 in
theorem ms_waC_10 {h : sm_H} {d : Nat} {Q : Option mi_V → sm_H → Prop} {zh zt : Int} {q3 q4 : Option mi_V} (hS : ab_Sh sx_sk h) (ok_zh : mi_in zh) (ok_zt : mi_in zt) (ok_q3 : ∀ v, q3 = some v → mi_ok v) (ok_q4 : ∀ v, q4 = some v → mi_ok v) (ho : (zt < ((40000 : Int))) ∧ (((0 : Int)) < (mi_f h 14029)) ∧ ((mi_f h 14034) < ((0 : Int))) ∧ ((mi_f h 14044) = ((0 : Int))) ∧ (-2147483648 ≤ (mi_f h 14029) - ((1 : Int)) ∧ (mi_f h 14029) - ((1 : Int)) ≤ 2147483647) ∧ (0 ≤ ((mi_f h 14029) - ((1 : Int))) ∧ ((mi_f h 14029) - ((1 : Int))) < 3000) ∧ (0 ≤ ((mi_f h 14029) - ((1 : Int))) ∧ ((mi_f h 14029) - ((1 : Int))) < 3000) ∧ (0 ≤ ((mi_f h 14029) - ((1 : Int))) ∧ ((mi_f h 14029) - ((1 : Int))) < 3000) ∧ ((mi_a h 165 (Int.toNat ((mi_f h 14029) - ((1 : Int))))) = 0 + 5 ∧ (mi_a h 165 (Int.toNat ((mi_f h 14029) - ((1 : Int))))) ≤ 5)) (kon : ∀ h1, me_W [.inl (14029, (mi_f h 14029) - ((1 : Int)))] h h1 → ∃ Q1, me_E (d + 6) 227 0 (mi_entry 4 [.inr (.inr 109), .inl (mi_a h 166 (Int.toNat ((mi_f h 14029) - ((1 : Int))))), .inl (mi_a h 167 (Int.toNat ((mi_f h 14029) - ((1 : Int)))))]) [] h1 Q1 ∧ ∀ w h2, (∀ x, w = some x → mi_ok x) → Q1 w h2 → me_E (d + 7) 206 218 [some (.inr (.inr 109)), some (.inl (zh)), some (.inl (zt)), some (.inl (mi_a h 166 (Int.toNat ((mi_f h 14029) - ((1 : Int)))))), some (.inl (mi_a h 167 (Int.toNat ((mi_f h 14029) - ((1 : Int))))))] (mi_back w []) h2 Q) : me_E (d + 7) 206 52 [some (.inr (.inr 109)), some (.inl (zh)), some (.inl (zt)), q3, q4] [] h Q := me_seg (mp_waC_10 h d zh zt q3 q4) (mi_tab_waC_10) hS (mi_okL_c (trivial) (mi_okL_c (ok_zh) (mi_okL_c (ok_zt) (mi_okL_o ok_q3 (mi_okL_o ok_q4 (mi_okL_e)))))) (mi_okS_e) (mi_al (ho.1) (mi_al (ho.2.1) (mi_al (ho.2.2.1) (mi_al (ho.2.2.2.1) (mi_al (ho.2.2.2.2.1) (mi_al (ho.2.2.2.2.2.1) (mi_al (ho.2.2.2.2.2.2.1) (mi_al (ho.2.2.2.2.2.2.2.1) (mi_al (ho.2.2.2.2.2.2.2.2) (mi_al_e)))))))))) (fun h1 W _ hst => let ⟨_, k1, k2⟩ := kon h1 W; me_call (M := (5, 0, sb_206)) (M' := (4, 0, sb_227)) rfl rfl rfl rfl (Nat.le_of_ble_eq_true rfl) (Nat.le_of_ble_eq_true rfl) W.1 k1 k2)
set_option maxRecDepth 20000 in
theorem mp_waC_11 (h : sm_H) (d : Nat) (zh zt : Int) (q3 q4 : Option mi_V) : mi_path [(206, (5, 0, sb_206))] sx_sk h 50 [0, 0, 0, 0, 8, 1000, 9, 8] (d + 7, 206, 52, [some (.inr (.inr 109)), some (.inl (zh)), some (.inl (zt)), q3, q4], [], [], []) = some ((d + 7, 206, 52, [some (.inr (.inr 109)), some (.inl (zh)), some (.inl (zt + 1)), some (.inl (mi_a h 166 (Int.toNat ((mi_f h 14029) - ((1 : Int)))))), some (.inl (mi_a h 167 (Int.toNat ((mi_f h 14029) - ((1 : Int))))))], [], [.inl (14032, (mi_f h 14032) - (mi_a h 166 (Int.toNat ((mi_f h 14029) - ((1 : Int)))))), .inl (14031, (Int32.ofInt (mi_f h 14031) - Int32.ofInt ((1 : Int))).toInt), .inl (14029, (mi_f h 14029) - ((1 : Int)))], []), [zt < ((40000 : Int)), ((0 : Int)) < (mi_f h 14029), (mi_f h 14034) < ((0 : Int)), (mi_f h 14044) = ((0 : Int)), -2147483648 ≤ (mi_f h 14029) - ((1 : Int)) ∧ (mi_f h 14029) - ((1 : Int)) ≤ 2147483647, 0 ≤ ((mi_f h 14029) - ((1 : Int))) ∧ ((mi_f h 14029) - ((1 : Int))) < 3000, 0 ≤ ((mi_f h 14029) - ((1 : Int))) ∧ ((mi_f h 14029) - ((1 : Int))) < 3000, 0 ≤ ((mi_f h 14029) - ((1 : Int))) ∧ ((mi_f h 14029) - ((1 : Int))) < 3000, (mi_a h 165 (Int.toNat ((mi_f h 14029) - ((1 : Int))))) < 0 ∨ 5 < (mi_a h 165 (Int.toNat ((mi_f h 14029) - ((1 : Int))))), -2147483648 ≤ (mi_f h 14032) - (mi_a h 166 (Int.toNat ((mi_f h 14029) - ((1 : Int))))) ∧ (mi_f h 14032) - (mi_a h 166 (Int.toNat ((mi_f h 14029) - ((1 : Int))))) ≤ 2147483647, -2147483648 ≤ zt + 1 ∧ zt + 1 ≤ 2147483647]) := rfl
theorem mi_tab_waC_11 : ∀ e ∈ ([(206, (5, 0, sb_206))] : mi_T), sc_P e.1 = some e.2 := mi_tb mi_P206 (mi_tb_e)
set_option maxRecDepth 20000 in
theorem ms_waC_11 {h : sm_H} {d : Nat} {Q : Option mi_V → sm_H → Prop} {zh zt : Int} {q3 q4 : Option mi_V} (hS : ab_Sh sx_sk h) (ok_zh : mi_in zh) (ok_zt : mi_in zt) (ok_q3 : ∀ v, q3 = some v → mi_ok v) (ok_q4 : ∀ v, q4 = some v → mi_ok v) (ho : (zt < ((40000 : Int))) ∧ (((0 : Int)) < (mi_f h 14029)) ∧ ((mi_f h 14034) < ((0 : Int))) ∧ ((mi_f h 14044) = ((0 : Int))) ∧ (-2147483648 ≤ (mi_f h 14029) - ((1 : Int)) ∧ (mi_f h 14029) - ((1 : Int)) ≤ 2147483647) ∧ (0 ≤ ((mi_f h 14029) - ((1 : Int))) ∧ ((mi_f h 14029) - ((1 : Int))) < 3000) ∧ (0 ≤ ((mi_f h 14029) - ((1 : Int))) ∧ ((mi_f h 14029) - ((1 : Int))) < 3000) ∧ (0 ≤ ((mi_f h 14029) - ((1 : Int))) ∧ ((mi_f h 14029) - ((1 : Int))) < 3000) ∧ ((mi_a h 165 (Int.toNat ((mi_f h 14029) - ((1 : Int))))) < 0 ∨ 5 < (mi_a h 165 (Int.toNat ((mi_f h 14029) - ((1 : Int)))))) ∧ (-2147483648 ≤ (mi_f h 14032) - (mi_a h 166 (Int.toNat ((mi_f h 14029) - ((1 : Int))))) ∧ (mi_f h 14032) - (mi_a h 166 (Int.toNat ((mi_f h 14029) - ((1 : Int))))) ≤ 2147483647) ∧ (-2147483648 ≤ zt + 1 ∧ zt + 1 ≤ 2147483647)) (kon : ∀ h1, me_W [.inl (14032, (mi_f h 14032) - (mi_a h 166 (Int.toNat ((mi_f h 14029) - ((1 : Int)))))), .inl (14031, (Int32.ofInt (mi_f h 14031) - Int32.ofInt ((1 : Int))).toInt), .inl (14029, (mi_f h 14029) - ((1 : Int)))] h h1 → me_E (d + 7) 206 52 [some (.inr (.inr 109)), some (.inl (zh)), some (.inl (zt + 1)), some (.inl (mi_a h 166 (Int.toNat ((mi_f h 14029) - ((1 : Int)))))), some (.inl (mi_a h 167 (Int.toNat ((mi_f h 14029) - ((1 : Int))))))] [] h1 Q) : me_E (d + 7) 206 52 [some (.inr (.inr 109)), some (.inl (zh)), some (.inl (zt)), q3, q4] [] h Q := me_seg (mp_waC_11 h d zh zt q3 q4) (mi_tab_waC_11) hS (mi_okL_c (trivial) (mi_okL_c (ok_zh) (mi_okL_c (ok_zt) (mi_okL_o ok_q3 (mi_okL_o ok_q4 (mi_okL_e)))))) (mi_okS_e) (mi_al (ho.1) (mi_al (ho.2.1) (mi_al (ho.2.2.1) (mi_al (ho.2.2.2.1) (mi_al (ho.2.2.2.2.1) (mi_al (ho.2.2.2.2.2.1) (mi_al (ho.2.2.2.2.2.2.1) (mi_al (ho.2.2.2.2.2.2.2.1) (mi_al (ho.2.2.2.2.2.2.2.2.1) (mi_al (ho.2.2.2.2.2.2.2.2.2.1) (mi_al (ho.2.2.2.2.2.2.2.2.2.2) (mi_al_e)))))))))))) (fun h1 W _ hst => kon h1 W)
set_option maxRecDepth 20000 in
theorem mt_waC {h : sm_H} {d : Nat} {Q : Option mi_V → sm_H → Prop} {zh zt : Int} {q3 q4 : Option mi_V} (hS : ab_Sh sx_sk h) (ok_zh : mi_in zh) (ok_zt : mi_in zt) (ok_q3 : ∀ v, q3 = some v → mi_ok v) (ok_q4 : ∀ v, q4 = some v → mi_ok v) (k0 : (((40000 : Int)) ≤ zt) → (∀ h1, ab_Sh sx_sk h1 → ab_Fr [] h h1 → me_E (d + 7) 206 247 [some (.inr (.inr 109)), some (.inl (zh)), some (.inl (zt)), q3, q4] [] h1 Q)) (k1 : ((-2147483648) ≤ mi_f h 14029 ∧ mi_f h 14029 ≤ 2147483647) → (zt < ((40000 : Int))) → ((mi_f h 14029) ≤ ((0 : Int))) → (∀ h1, ab_Sh sx_sk h1 → ab_Fr [] h h1 → me_E (d + 7) 206 247 [some (.inr (.inr 109)), some (.inl (zh)), some (.inl (zt)), q3, q4] [] h1 Q)) (k2 : ((-2147483648) ≤ mi_f h 14029 ∧ mi_f h 14029 ≤ 2147483647) → ((-2147483648) ≤ mi_f h 14034 ∧ mi_f h 14034 ≤ 2147483647) → (zt < ((40000 : Int))) → (((0 : Int)) < (mi_f h 14029)) → (((0 : Int)) ≤ (mi_f h 14034)) → (∀ h1, ab_Sh sx_sk h1 → ab_Fr [] h h1 → me_E (d + 7) 206 247 [some (.inr (.inr 109)), some (.inl (zh)), some (.inl (zt)), q3, q4] [] h1 Q)) (k3 : ((-2147483648) ≤ mi_f h 14029 ∧ mi_f h 14029 ≤ 2147483647) → ((-2147483648) ≤ mi_f h 14034 ∧ mi_f h 14034 ≤ 2147483647) → (0 ≤ mi_f h 14044 ∧ mi_f h 14044 ≤ 1) → (zt < ((40000 : Int))) → (((0 : Int)) < (mi_f h 14029)) → ((mi_f h 14034) < ((0 : Int))) → ((mi_f h 14044) ≠ ((0 : Int))) → (∀ h1, ab_Sh sx_sk h1 → ab_Fr [] h h1 → me_E (d + 7) 206 247 [some (.inr (.inr 109)), some (.inl (zh)), some (.inl (zt)), q3, q4] [] h1 Q)) (k4 : ((-2147483648) ≤ mi_f h 14029 ∧ mi_f h 14029 ≤ 2147483647) → ((-2147483648) ≤ mi_f h 14034 ∧ mi_f h 14034 ≤ 2147483647) → (0 ≤ mi_f h 14044 ∧ mi_f h 14044 ≤ 1) → (zt < ((40000 : Int))) → (((0 : Int)) < (mi_f h 14029)) → ((mi_f h 14034) < ((0 : Int))) → ((mi_f h 14044) = ((0 : Int))) → ((mi_a h 165 (Int.toNat ((mi_f h 14029) - ((1 : Int))))) = 0 + 0 ∧ (mi_a h 165 (Int.toNat ((mi_f h 14029) - ((1 : Int))))) ≤ 5) → ((mi_a h 167 (Int.toNat ((mi_f h 14029) - ((1 : Int))))) ≤ ((0 : Int))) → ((-2147483648 ≤ (mi_f h 14029) - ((1 : Int)) ∧ (mi_f h 14029) - ((1 : Int)) ≤ 2147483647) ∧ (0 ≤ ((mi_f h 14029) - ((1 : Int))) ∧ ((mi_f h 14029) - ((1 : Int))) < 3000)) ∧ (∀ h1, ab_Sh sx_sk h1 → mi_f h1 14029 = (mi_f h 14029) - ((1 : Int)) → ab_Fr [(14029, 14030)] h h1 → ∃ Q1, me_E (d + 6) 210 0 (mi_entry 5 [.inr (.inr 109), .inl (mi_a h 166 (Int.toNat ((mi_f h 14029) - ((1 : Int))))), .inl ((0 : Int))]) [] h1 Q1 ∧ ∀ w h2, (∀ x, w = some x → mi_ok x) → Q1 w h2 → me_E (d + 7) 206 175 [some (.inr (.inr 109)), some (.inl (zh)), some (.inl (zt)), some (.inl (mi_a h 166 (Int.toNat ((mi_f h 14029) - ((1 : Int)))))), some (.inl (mi_a h 167 (Int.toNat ((mi_f h 14029) - ((1 : Int))))))] (mi_back w []) h2 Q)) (k5 : ((-2147483648) ≤ mi_f h 14029 ∧ mi_f h 14029 ≤ 2147483647) → ((-2147483648) ≤ mi_f h 14034 ∧ mi_f h 14034 ≤ 2147483647) → (0 ≤ mi_f h 14044 ∧ mi_f h 14044 ≤ 1) → (zt < ((40000 : Int))) → (((0 : Int)) < (mi_f h 14029)) → ((mi_f h 14034) < ((0 : Int))) → ((mi_f h 14044) = ((0 : Int))) → ((mi_a h 165 (Int.toNat ((mi_f h 14029) - ((1 : Int))))) = 0 + 0 ∧ (mi_a h 165 (Int.toNat ((mi_f h 14029) - ((1 : Int))))) ≤ 5) → (((0 : Int)) < (mi_a h 167 (Int.toNat ((mi_f h 14029) - ((1 : Int)))))) → ((-2147483648 ≤ (mi_f h 14029) - ((1 : Int)) ∧ (mi_f h 14029) - ((1 : Int)) ≤ 2147483647) ∧ (0 ≤ ((mi_f h 14029) - ((1 : Int))) ∧ ((mi_f h 14029) - ((1 : Int))) < 3000)) ∧ (∀ h1, ab_Sh sx_sk h1 → mi_f h1 14029 = (mi_f h 14029) - ((1 : Int)) → ab_Fr [(14029, 14030)] h h1 → ∃ Q1, me_E (d + 6) 210 0 (mi_entry 5 [.inr (.inr 109), .inl (mi_a h 166 (Int.toNat ((mi_f h 14029) - ((1 : Int))))), .inl ((1 : Int))]) [] h1 Q1 ∧ ∀ w h2, (∀ x, w = some x → mi_ok x) → Q1 w h2 → me_E (d + 7) 206 175 [some (.inr (.inr 109)), some (.inl (zh)), some (.inl (zt)), some (.inl (mi_a h 166 (Int.toNat ((mi_f h 14029) - ((1 : Int)))))), some (.inl (mi_a h 167 (Int.toNat ((mi_f h 14029) - ((1 : Int))))))] (mi_back w []) h2 Q)) (k6 : ((-2147483648) ≤ mi_f h 14029 ∧ mi_f h 14029 ≤ 2147483647) → ((-2147483648) ≤ mi_f h 14034 ∧ mi_f h 14034 ≤ 2147483647) → (0 ≤ mi_f h 14044 ∧ mi_f h 14044 ≤ 1) → (zt < ((40000 : Int))) → (((0 : Int)) < (mi_f h 14029)) → ((mi_f h 14034) < ((0 : Int))) → ((mi_f h 14044) = ((0 : Int))) → ((mi_a h 165 (Int.toNat ((mi_f h 14029) - ((1 : Int))))) = 0 + 1 ∧ (mi_a h 165 (Int.toNat ((mi_f h 14029) - ((1 : Int))))) ≤ 5) → ((-2147483648 ≤ (mi_f h 14029) - ((1 : Int)) ∧ (mi_f h 14029) - ((1 : Int)) ≤ 2147483647) ∧ (0 ≤ ((mi_f h 14029) - ((1 : Int))) ∧ ((mi_f h 14029) - ((1 : Int))) < 3000)) ∧ (∀ h1, ab_Sh sx_sk h1 → mi_f h1 14029 = (mi_f h 14029) - ((1 : Int)) → ab_Fr [(14029, 14030)] h h1 → ∃ Q1, me_E (d + 6) 223 0 (mi_entry 6 [.inr (.inr 109), .inl (mi_a h 166 (Int.toNat ((mi_f h 14029) - ((1 : Int)))))]) [] h1 Q1 ∧ ∀ w h2, (∀ x, w = some x → mi_ok x) → Q1 w h2 → me_E (d + 7) 206 183 [some (.inr (.inr 109)), some (.inl (zh)), some (.inl (zt)), some (.inl (mi_a h 166 (Int.toNat ((mi_f h 14029) - ((1 : Int)))))), some (.inl (mi_a h 167 (Int.toNat ((mi_f h 14029) - ((1 : Int))))))] (mi_back w []) h2 Q)) (k7 : ((-2147483648) ≤ mi_f h 14029 ∧ mi_f h 14029 ≤ 2147483647) → ((-2147483648) ≤ mi_f h 14034 ∧ mi_f h 14034 ≤ 2147483647) → (0 ≤ mi_f h 14044 ∧ mi_f h 14044 ≤ 1) → ((-2147483648) ≤ mi_f h 14032 ∧ mi_f h 14032 ≤ 2147483647) → (zt < ((40000 : Int))) → (((0 : Int)) < (mi_f h 14029)) → ((mi_f h 14034) < ((0 : Int))) → ((mi_f h 14044) = ((0 : Int))) → ((mi_a h 165 (Int.toNat ((mi_f h 14029) - ((1 : Int))))) = 0 + 2 ∧ (mi_a h 165 (Int.toNat ((mi_f h 14029) - ((1 : Int))))) ≤ 5) → ((-2147483648 ≤ (mi_f h 14029) - ((1 : Int)) ∧ (mi_f h 14029) - ((1 : Int)) ≤ 2147483647) ∧ (0 ≤ ((mi_f h 14029) - ((1 : Int))) ∧ ((mi_f h 14029) - ((1 : Int))) < 3000) ∧ (-2147483648 ≤ (mi_f h 14032) - (mi_a h 166 (Int.toNat ((mi_f h 14029) - ((1 : Int))))) ∧ (mi_f h 14032) - (mi_a h 166 (Int.toNat ((mi_f h 14029) - ((1 : Int))))) ≤ 2147483647) ∧ (-2147483648 ≤ zt + 1 ∧ zt + 1 ≤ 2147483647)) ∧ (∀ h1, ab_Sh sx_sk h1 → mi_f h1 14029 = (mi_f h 14029) - ((1 : Int)) → mi_f h1 14031 = (Int32.ofInt (mi_f h 14031) - Int32.ofInt ((1 : Int))).toInt → mi_f h1 14032 = (mi_f h 14032) - (mi_a h 166 (Int.toNat ((mi_f h 14029) - ((1 : Int))))) → ab_Fr [(14029, 14030), (14031, 14033)] h h1 → me_E (d + 7) 206 52 [some (.inr (.inr 109)), some (.inl (zh)), some (.inl (zt + 1)), some (.inl (mi_a h 166 (Int.toNat ((mi_f h 14029) - ((1 : Int)))))), some (.inl (mi_a h 167 (Int.toNat ((mi_f h 14029) - ((1 : Int))))))] [] h1 Q)) (k8 : ((-2147483648) ≤ mi_f h 14029 ∧ mi_f h 14029 ≤ 2147483647) → ((-2147483648) ≤ mi_f h 14034 ∧ mi_f h 14034 ≤ 2147483647) → (0 ≤ mi_f h 14044 ∧ mi_f h 14044 ≤ 1) → ((-2147483648) ≤ mi_f h 14030 ∧ mi_f h 14030 ≤ 2147483647) → (0 ≤ mi_f h 14016 ∧ mi_f h 14016 ≤ 100) → (zt < ((40000 : Int))) → (((0 : Int)) < (mi_f h 14029)) → ((mi_f h 14034) < ((0 : Int))) → ((mi_f h 14044) = ((0 : Int))) → ((mi_a h 165 (Int.toNat ((mi_f h 14029) - ((1 : Int))))) = 0 + 3 ∧ (mi_a h 165 (Int.toNat ((mi_f h 14029) - ((1 : Int))))) ≤ 5) → ((-2147483648 ≤ (mi_f h 14029) - ((1 : Int)) ∧ (mi_f h 14029) - ((1 : Int)) ≤ 2147483647) ∧ (0 ≤ ((mi_f h 14029) - ((1 : Int))) ∧ ((mi_f h 14029) - ((1 : Int))) < 3000) ∧ (-2147483648 ≤ (mi_f h 14030) - ((1 : Int)) ∧ (mi_f h 14030) - ((1 : Int)) ≤ 2147483647) ∧ (0 ≤ ((mi_f h 14030) - ((1 : Int))) ∧ ((mi_f h 14030) - ((1 : Int))) < 64) ∧ (0 ≤ (mi_f h 14016) ∧ (mi_f h 14016) ≤ 100) ∧ (-2147483648 ≤ zt + 1 ∧ zt + 1 ≤ 2147483647)) ∧ (∀ h1, ab_Sh sx_sk h1 → mi_f h1 14029 = (mi_f h 14029) - ((1 : Int)) → (∀ i, mi_a h1 169 i = if i = Int.toNat ((mi_f h 14030) - ((1 : Int))) then mi_f h 14016 else (mi_a h 169 i)) → ab_Fr [(14029, 14030), (21632, 21633)] h h1 → me_E (d + 7) 206 52 [some (.inr (.inr 109)), some (.inl (zh)), some (.inl (zt + 1)), some (.inl (mi_a h 166 (Int.toNat ((mi_f h 14029) - ((1 : Int)))))), some (.inl (mi_a h 167 (Int.toNat ((mi_f h 14029) - ((1 : Int))))))] [] h1 Q)) (k9 : ((-2147483648) ≤ mi_f h 14029 ∧ mi_f h 14029 ≤ 2147483647) → ((-2147483648) ≤ mi_f h 14034 ∧ mi_f h 14034 ≤ 2147483647) → (0 ≤ mi_f h 14044 ∧ mi_f h 14044 ≤ 1) → (zt < ((40000 : Int))) → (((0 : Int)) < (mi_f h 14029)) → ((mi_f h 14034) < ((0 : Int))) → ((mi_f h 14044) = ((0 : Int))) → ((mi_a h 165 (Int.toNat ((mi_f h 14029) - ((1 : Int))))) = 0 + 4 ∧ (mi_a h 165 (Int.toNat ((mi_f h 14029) - ((1 : Int))))) ≤ 5) → ((-2147483648 ≤ (mi_f h 14029) - ((1 : Int)) ∧ (mi_f h 14029) - ((1 : Int)) ≤ 2147483647) ∧ (0 ≤ ((mi_f h 14029) - ((1 : Int))) ∧ ((mi_f h 14029) - ((1 : Int))) < 3000)) ∧ (∀ h1, ab_Sh sx_sk h1 → mi_f h1 14029 = (mi_f h 14029) - ((1 : Int)) → ab_Fr [(14029, 14030)] h h1 → ∃ Q1, me_E (d + 6) 226 0 (mi_entry 5 [.inr (.inr 109)]) [] h1 Q1 ∧ ∀ w h2, (∀ x, w = some x → mi_ok x) → Q1 w h2 → me_E (d + 7) 206 208 [some (.inr (.inr 109)), some (.inl (zh)), some (.inl (zt)), some (.inl (mi_a h 166 (Int.toNat ((mi_f h 14029) - ((1 : Int)))))), some (.inl (mi_a h 167 (Int.toNat ((mi_f h 14029) - ((1 : Int))))))] (mi_back w []) h2 Q)) (k10 : ((-2147483648) ≤ mi_f h 14029 ∧ mi_f h 14029 ≤ 2147483647) → ((-2147483648) ≤ mi_f h 14034 ∧ mi_f h 14034 ≤ 2147483647) → (0 ≤ mi_f h 14044 ∧ mi_f h 14044 ≤ 1) → (zt < ((40000 : Int))) → (((0 : Int)) < (mi_f h 14029)) → ((mi_f h 14034) < ((0 : Int))) → ((mi_f h 14044) = ((0 : Int))) → ((mi_a h 165 (Int.toNat ((mi_f h 14029) - ((1 : Int))))) = 0 + 5 ∧ (mi_a h 165 (Int.toNat ((mi_f h 14029) - ((1 : Int))))) ≤ 5) → ((-2147483648 ≤ (mi_f h 14029) - ((1 : Int)) ∧ (mi_f h 14029) - ((1 : Int)) ≤ 2147483647) ∧ (0 ≤ ((mi_f h 14029) - ((1 : Int))) ∧ ((mi_f h 14029) - ((1 : Int))) < 3000)) ∧ (∀ h1, ab_Sh sx_sk h1 → mi_f h1 14029 = (mi_f h 14029) - ((1 : Int)) → ab_Fr [(14029, 14030)] h h1 → ∃ Q1, me_E (d + 6) 227 0 (mi_entry 4 [.inr (.inr 109), .inl (mi_a h 166 (Int.toNat ((mi_f h 14029) - ((1 : Int))))), .inl (mi_a h 167 (Int.toNat ((mi_f h 14029) - ((1 : Int)))))]) [] h1 Q1 ∧ ∀ w h2, (∀ x, w = some x → mi_ok x) → Q1 w h2 → me_E (d + 7) 206 218 [some (.inr (.inr 109)), some (.inl (zh)), some (.inl (zt)), some (.inl (mi_a h 166 (Int.toNat ((mi_f h 14029) - ((1 : Int)))))), some (.inl (mi_a h 167 (Int.toNat ((mi_f h 14029) - ((1 : Int))))))] (mi_back w []) h2 Q)) (k11 : ((-2147483648) ≤ mi_f h 14029 ∧ mi_f h 14029 ≤ 2147483647) → ((-2147483648) ≤ mi_f h 14034 ∧ mi_f h 14034 ≤ 2147483647) → (0 ≤ mi_f h 14044 ∧ mi_f h 14044 ≤ 1) → ((-2147483648) ≤ mi_f h 14032 ∧ mi_f h 14032 ≤ 2147483647) → (zt < ((40000 : Int))) → (((0 : Int)) < (mi_f h 14029)) → ((mi_f h 14034) < ((0 : Int))) → ((mi_f h 14044) = ((0 : Int))) → ((mi_a h 165 (Int.toNat ((mi_f h 14029) - ((1 : Int))))) < 0 ∨ 5 < (mi_a h 165 (Int.toNat ((mi_f h 14029) - ((1 : Int)))))) → ((-2147483648 ≤ (mi_f h 14029) - ((1 : Int)) ∧ (mi_f h 14029) - ((1 : Int)) ≤ 2147483647) ∧ (0 ≤ ((mi_f h 14029) - ((1 : Int))) ∧ ((mi_f h 14029) - ((1 : Int))) < 3000) ∧ (-2147483648 ≤ (mi_f h 14032) - (mi_a h 166 (Int.toNat ((mi_f h 14029) - ((1 : Int))))) ∧ (mi_f h 14032) - (mi_a h 166 (Int.toNat ((mi_f h 14029) - ((1 : Int))))) ≤ 2147483647) ∧ (-2147483648 ≤ zt + 1 ∧ zt + 1 ≤ 2147483647)) ∧ (∀ h1, ab_Sh sx_sk h1 → mi_f h1 14029 = (mi_f h 14029) - ((1 : Int)) → mi_f h1 14031 = (Int32.ofInt (mi_f h 14031) - Int32.ofInt ((1 : Int))).toInt → mi_f h1 14032 = (mi_f h 14032) - (mi_a h 166 (Int.toNat ((mi_f h 14029) - ((1 : Int))))) → ab_Fr [(14029, 14030), (14031, 14033)] h h1 → me_E (d + 7) 206 52 [some (.inr (.inr 109)), some (.inl (zh)), some (.inl (zt + 1)), some (.inl (mi_a h 166 (Int.toNat ((mi_f h 14029) - ((1 : Int)))))), some (.inl (mi_a h 167 (Int.toNat ((mi_f h 14029) - ((1 : Int))))))] [] h1 Q)) : me_E (d + 7) 206 52 [some (.inr (.inr 109)), some (.inl (zh)), some (.inl (zt)), q3, q4] [] h Q := Or.elim (mi_em .ge (zt) (((40000 : Int)))) (fun c0 => ms_waC_0 hS ok_zh ok_zt ok_q3 ok_q4 (c0) (fun h1 W => (k0 c0) h1 W.1 (W.2.2.2.2.2 _ rfl))) (fun c0 => Or.elim (mi_em .le ((mi_f h 14029)) (((0 : Int)))) (fun c1 => ms_waC_1 hS ok_zh ok_zt ok_q3 ok_q4 ⟨c0, c1⟩ (fun h1 W => (k1 (me_fb hS rfl) c0 c1) h1 W.1 (W.2.2.2.2.2 _ rfl))) (fun c1 => Or.elim (mi_em .ge ((mi_f h 14034)) (((0 : Int)))) (fun c2 => ms_waC_2 hS ok_zh ok_zt ok_q3 ok_q4 ⟨c0, c1, c2⟩ (fun h1 W => (k2 (me_fb hS rfl) (me_fb hS rfl) c0 c1 c2) h1 W.1 (W.2.2.2.2.2 _ rfl))) (fun c2 => Or.elim (mi_em .ne ((mi_f h 14044)) (((0 : Int)))) (fun c3 => ms_waC_3 hS ok_zh ok_zt ok_q3 ok_q4 ⟨c0, c1, c2, c3⟩ (fun h1 W => (k3 (me_fb hS rfl) (me_fb hS rfl) (me_fb hS rfl) c0 c1 c2 c3) h1 W.1 (W.2.2.2.2.2 _ rfl))) (fun c3 => (by
  by_cases z4 : (mi_a h 165 (Int.toNat ((mi_f h 14029) - ((1 : Int))))) < 0 ∨ 5 < (mi_a h 165 (Int.toNat ((mi_f h 14029) - ((1 : Int)))))
  · exact ms_waC_11 hS ok_zh ok_zt ok_q3 ok_q4 ⟨c0, c1, c2, c3, (k11 (me_fb hS rfl) (me_fb hS rfl) (me_fb hS rfl) (me_fb hS rfl) c0 c1 c2 c3 z4).1.1, (k11 (me_fb hS rfl) (me_fb hS rfl) (me_fb hS rfl) (me_fb hS rfl) c0 c1 c2 c3 z4).1.2.1, (k11 (me_fb hS rfl) (me_fb hS rfl) (me_fb hS rfl) (me_fb hS rfl) c0 c1 c2 c3 z4).1.2.1, (k11 (me_fb hS rfl) (me_fb hS rfl) (me_fb hS rfl) (me_fb hS rfl) c0 c1 c2 c3 z4).1.2.1, z4, (k11 (me_fb hS rfl) (me_fb hS rfl) (me_fb hS rfl) (me_fb hS rfl) c0 c1 c2 c3 z4).1.2.2.1, (k11 (me_fb hS rfl) (me_fb hS rfl) (me_fb hS rfl) (me_fb hS rfl) c0 c1 c2 c3 z4).1.2.2.2⟩ (fun h1 W => (k11 (me_fb hS rfl) (me_fb hS rfl) (me_fb hS rfl) (me_fb hS rfl) c0 c1 c2 c3 z4).2 h1 W.1 (W.2.1 14029) (W.2.1 14031) (W.2.1 14032) (W.2.2.2.2.2 _ rfl))
  by_cases e4_0 : (mi_a h 165 (Int.toNat ((mi_f h 14029) - ((1 : Int))))) = 0 + 0
  · have s4_0 : (mi_a h 165 (Int.toNat ((mi_f h 14029) - ((1 : Int))))) = 0 + 0 ∧ (mi_a h 165 (Int.toNat ((mi_f h 14029) - ((1 : Int))))) ≤ 5 := ⟨e4_0, by omega⟩
    exact Or.elim (mi_em .le ((mi_a h 167 (Int.toNat ((mi_f h 14029) - ((1 : Int)))))) (((0 : Int)))) (fun c5 => ms_waC_4 hS ok_zh ok_zt ok_q3 ok_q4 ⟨c0, c1, c2, c3, (k4 (me_fb hS rfl) (me_fb hS rfl) (me_fb hS rfl) c0 c1 c2 c3 s4_0 c5).1.1, (k4 (me_fb hS rfl) (me_fb hS rfl) (me_fb hS rfl) c0 c1 c2 c3 s4_0 c5).1.2, (k4 (me_fb hS rfl) (me_fb hS rfl) (me_fb hS rfl) c0 c1 c2 c3 s4_0 c5).1.2, (k4 (me_fb hS rfl) (me_fb hS rfl) (me_fb hS rfl) c0 c1 c2 c3 s4_0 c5).1.2, s4_0, c5⟩ (fun h1 W => (k4 (me_fb hS rfl) (me_fb hS rfl) (me_fb hS rfl) c0 c1 c2 c3 s4_0 c5).2 h1 W.1 (W.2.1 14029) (W.2.2.2.2.2 _ rfl))) (fun c5 => ms_waC_5 hS ok_zh ok_zt ok_q3 ok_q4 ⟨c0, c1, c2, c3, (k5 (me_fb hS rfl) (me_fb hS rfl) (me_fb hS rfl) c0 c1 c2 c3 s4_0 c5).1.1, (k5 (me_fb hS rfl) (me_fb hS rfl) (me_fb hS rfl) c0 c1 c2 c3 s4_0 c5).1.2, (k5 (me_fb hS rfl) (me_fb hS rfl) (me_fb hS rfl) c0 c1 c2 c3 s4_0 c5).1.2, (k5 (me_fb hS rfl) (me_fb hS rfl) (me_fb hS rfl) c0 c1 c2 c3 s4_0 c5).1.2, s4_0, c5⟩ (fun h1 W => (k5 (me_fb hS rfl) (me_fb hS rfl) (me_fb hS rfl) c0 c1 c2 c3 s4_0 c5).2 h1 W.1 (W.2.1 14029) (W.2.2.2.2.2 _ rfl)))
  by_cases e4_1 : (mi_a h 165 (Int.toNat ((mi_f h 14029) - ((1 : Int))))) = 0 + 1
  · have s4_1 : (mi_a h 165 (Int.toNat ((mi_f h 14029) - ((1 : Int))))) = 0 + 1 ∧ (mi_a h 165 (Int.toNat ((mi_f h 14029) - ((1 : Int))))) ≤ 5 := ⟨e4_1, by omega⟩
    exact ms_waC_6 hS ok_zh ok_zt ok_q3 ok_q4 ⟨c0, c1, c2, c3, (k6 (me_fb hS rfl) (me_fb hS rfl) (me_fb hS rfl) c0 c1 c2 c3 s4_1).1.1, (k6 (me_fb hS rfl) (me_fb hS rfl) (me_fb hS rfl) c0 c1 c2 c3 s4_1).1.2, (k6 (me_fb hS rfl) (me_fb hS rfl) (me_fb hS rfl) c0 c1 c2 c3 s4_1).1.2, (k6 (me_fb hS rfl) (me_fb hS rfl) (me_fb hS rfl) c0 c1 c2 c3 s4_1).1.2, s4_1⟩ (fun h1 W => (k6 (me_fb hS rfl) (me_fb hS rfl) (me_fb hS rfl) c0 c1 c2 c3 s4_1).2 h1 W.1 (W.2.1 14029) (W.2.2.2.2.2 _ rfl))
  by_cases e4_2 : (mi_a h 165 (Int.toNat ((mi_f h 14029) - ((1 : Int))))) = 0 + 2
  · have s4_2 : (mi_a h 165 (Int.toNat ((mi_f h 14029) - ((1 : Int))))) = 0 + 2 ∧ (mi_a h 165 (Int.toNat ((mi_f h 14029) - ((1 : Int))))) ≤ 5 := ⟨e4_2, by omega⟩
    exact ms_waC_7 hS ok_zh ok_zt ok_q3 ok_q4 ⟨c0, c1, c2, c3, (k7 (me_fb hS rfl) (me_fb hS rfl) (me_fb hS rfl) (me_fb hS rfl) c0 c1 c2 c3 s4_2).1.1, (k7 (me_fb hS rfl) (me_fb hS rfl) (me_fb hS rfl) (me_fb hS rfl) c0 c1 c2 c3 s4_2).1.2.1, (k7 (me_fb hS rfl) (me_fb hS rfl) (me_fb hS rfl) (me_fb hS rfl) c0 c1 c2 c3 s4_2).1.2.1, (k7 (me_fb hS rfl) (me_fb hS rfl) (me_fb hS rfl) (me_fb hS rfl) c0 c1 c2 c3 s4_2).1.2.1, s4_2, (k7 (me_fb hS rfl) (me_fb hS rfl) (me_fb hS rfl) (me_fb hS rfl) c0 c1 c2 c3 s4_2).1.2.2.1, (k7 (me_fb hS rfl) (me_fb hS rfl) (me_fb hS rfl) (me_fb hS rfl) c0 c1 c2 c3 s4_2).1.2.2.2⟩ (fun h1 W => (k7 (me_fb hS rfl) (me_fb hS rfl) (me_fb hS rfl) (me_fb hS rfl) c0 c1 c2 c3 s4_2).2 h1 W.1 (W.2.1 14029) (W.2.1 14031) (W.2.1 14032) (W.2.2.2.2.2 _ rfl))
  by_cases e4_3 : (mi_a h 165 (Int.toNat ((mi_f h 14029) - ((1 : Int))))) = 0 + 3
  · have s4_3 : (mi_a h 165 (Int.toNat ((mi_f h 14029) - ((1 : Int))))) = 0 + 3 ∧ (mi_a h 165 (Int.toNat ((mi_f h 14029) - ((1 : Int))))) ≤ 5 := ⟨e4_3, by omega⟩
    exact ms_waC_8 hS ok_zh ok_zt ok_q3 ok_q4 ⟨c0, c1, c2, c3, (k8 (me_fb hS rfl) (me_fb hS rfl) (me_fb hS rfl) (me_fb hS rfl) (me_fb hS rfl) c0 c1 c2 c3 s4_3).1.1, (k8 (me_fb hS rfl) (me_fb hS rfl) (me_fb hS rfl) (me_fb hS rfl) (me_fb hS rfl) c0 c1 c2 c3 s4_3).1.2.1, (k8 (me_fb hS rfl) (me_fb hS rfl) (me_fb hS rfl) (me_fb hS rfl) (me_fb hS rfl) c0 c1 c2 c3 s4_3).1.2.1, (k8 (me_fb hS rfl) (me_fb hS rfl) (me_fb hS rfl) (me_fb hS rfl) (me_fb hS rfl) c0 c1 c2 c3 s4_3).1.2.1, s4_3, (k8 (me_fb hS rfl) (me_fb hS rfl) (me_fb hS rfl) (me_fb hS rfl) (me_fb hS rfl) c0 c1 c2 c3 s4_3).1.2.2.1, (k8 (me_fb hS rfl) (me_fb hS rfl) (me_fb hS rfl) (me_fb hS rfl) (me_fb hS rfl) c0 c1 c2 c3 s4_3).1.2.2.2.1, (k8 (me_fb hS rfl) (me_fb hS rfl) (me_fb hS rfl) (me_fb hS rfl) (me_fb hS rfl) c0 c1 c2 c3 s4_3).1.2.2.2.2.1, (k8 (me_fb hS rfl) (me_fb hS rfl) (me_fb hS rfl) (me_fb hS rfl) (me_fb hS rfl) c0 c1 c2 c3 s4_3).1.2.2.2.2.2⟩ (fun h1 W => (k8 (me_fb hS rfl) (me_fb hS rfl) (me_fb hS rfl) (me_fb hS rfl) (me_fb hS rfl) c0 c1 c2 c3 s4_3).2 h1 W.1 (W.2.1 14029) (fun i => W.2.2.1 169 i) (W.2.2.2.2.2 _ rfl))
  by_cases e4_4 : (mi_a h 165 (Int.toNat ((mi_f h 14029) - ((1 : Int))))) = 0 + 4
  · have s4_4 : (mi_a h 165 (Int.toNat ((mi_f h 14029) - ((1 : Int))))) = 0 + 4 ∧ (mi_a h 165 (Int.toNat ((mi_f h 14029) - ((1 : Int))))) ≤ 5 := ⟨e4_4, by omega⟩
    exact ms_waC_9 hS ok_zh ok_zt ok_q3 ok_q4 ⟨c0, c1, c2, c3, (k9 (me_fb hS rfl) (me_fb hS rfl) (me_fb hS rfl) c0 c1 c2 c3 s4_4).1.1, (k9 (me_fb hS rfl) (me_fb hS rfl) (me_fb hS rfl) c0 c1 c2 c3 s4_4).1.2, (k9 (me_fb hS rfl) (me_fb hS rfl) (me_fb hS rfl) c0 c1 c2 c3 s4_4).1.2, (k9 (me_fb hS rfl) (me_fb hS rfl) (me_fb hS rfl) c0 c1 c2 c3 s4_4).1.2, s4_4⟩ (fun h1 W => (k9 (me_fb hS rfl) (me_fb hS rfl) (me_fb hS rfl) c0 c1 c2 c3 s4_4).2 h1 W.1 (W.2.1 14029) (W.2.2.2.2.2 _ rfl))
  by_cases e4_5 : (mi_a h 165 (Int.toNat ((mi_f h 14029) - ((1 : Int))))) = 0 + 5
  · have s4_5 : (mi_a h 165 (Int.toNat ((mi_f h 14029) - ((1 : Int))))) = 0 + 5 ∧ (mi_a h 165 (Int.toNat ((mi_f h 14029) - ((1 : Int))))) ≤ 5 := ⟨e4_5, by omega⟩
    exact ms_waC_10 hS ok_zh ok_zt ok_q3 ok_q4 ⟨c0, c1, c2, c3, (k10 (me_fb hS rfl) (me_fb hS rfl) (me_fb hS rfl) c0 c1 c2 c3 s4_5).1.1, (k10 (me_fb hS rfl) (me_fb hS rfl) (me_fb hS rfl) c0 c1 c2 c3 s4_5).1.2, (k10 (me_fb hS rfl) (me_fb hS rfl) (me_fb hS rfl) c0 c1 c2 c3 s4_5).1.2, (k10 (me_fb hS rfl) (me_fb hS rfl) (me_fb hS rfl) c0 c1 c2 c3 s4_5).1.2, s4_5⟩ (fun h1 W => (k10 (me_fb hS rfl) (me_fb hS rfl) (me_fb hS rfl) c0 c1 c2 c3 s4_5).2 h1 W.1 (W.2.1 14029) (W.2.2.2.2.2 _ rfl))
  omega)))))
set_option maxRecDepth 20000 in
theorem mp_wb175_0 (h : sm_H) (d : Nat) (zh zt zw za : Int) : mi_path [(206, (5, 0, sb_206))] sx_sk h 3 [] (d + 7, 206, 175, [some (.inr (.inr 109)), some (.inl (zh)), some (.inl (zt)), some (.inl (zw)), some (.inl (za))], [], [], []) = some ((d + 7, 206, 52, [some (.inr (.inr 109)), some (.inl (zh)), some (.inl (zt + 1)), some (.inl (zw)), some (.inl (za))], [], [], []), [-2147483648 ≤ zt + 1 ∧ zt + 1 ≤ 2147483647]) := rfl
theorem mi_tab_wb175_0 : ∀ e ∈ ([(206, (5, 0, sb_206))] : mi_T), sc_P e.1 = some e.2 := mi_tb mi_P206 (mi_tb_e)
set_option maxRecDepth 20000 in
theorem ms_wb175_0 {h : sm_H} {d : Nat} {Q : Option mi_V → sm_H → Prop} {zh zt zw za : Int} (hS : ab_Sh sx_sk h) (ok_zh : mi_in zh) (ok_zt : mi_in zt) (ok_zw : mi_in zw) (ok_za : mi_in za) (ho : (-2147483648 ≤ zt + 1 ∧ zt + 1 ≤ 2147483647)) (kon : ∀ h1, me_W [] h h1 → me_E (d + 7) 206 52 [some (.inr (.inr 109)), some (.inl (zh)), some (.inl (zt + 1)), some (.inl (zw)), some (.inl (za))] [] h1 Q) : me_E (d + 7) 206 175 [some (.inr (.inr 109)), some (.inl (zh)), some (.inl (zt)), some (.inl (zw)), some (.inl (za))] [] h Q := me_seg (mp_wb175_0 h d zh zt zw za) (mi_tab_wb175_0) hS (mi_okL_c (trivial) (mi_okL_c (ok_zh) (mi_okL_c (ok_zt) (mi_okL_c (ok_zw) (mi_okL_c (ok_za) (mi_okL_e)))))) (mi_okS_e) (mi_al (ho) (mi_al_e)) (fun h1 W _ hst => kon h1 W)
set_option maxRecDepth 20000 in
theorem mt_wb175 {h : sm_H} {d : Nat} {Q : Option mi_V → sm_H → Prop} {zh zt zw za : Int} (hS : ab_Sh sx_sk h) (ok_zh : mi_in zh) (ok_zt : mi_in zt) (ok_zw : mi_in zw) (ok_za : mi_in za) (k0 : ((-2147483648 ≤ zt + 1 ∧ zt + 1 ≤ 2147483647)) ∧ (∀ h1, ab_Sh sx_sk h1 → ab_Fr [] h h1 → me_E (d + 7) 206 52 [some (.inr (.inr 109)), some (.inl (zh)), some (.inl (zt + 1)), some (.inl (zw)), some (.inl (za))] [] h1 Q)) : me_E (d + 7) 206 175 [some (.inr (.inr 109)), some (.inl (zh)), some (.inl (zt)), some (.inl (zw)), some (.inl (za))] [] h Q := ms_wb175_0 hS ok_zh ok_zt ok_zw ok_za ((k0).1) (fun h1 W => (k0).2 h1 W.1 (W.2.2.2.2.2 _ rfl))
set_option maxRecDepth 20000 in
theorem mp_wb183_0 (h : sm_H) (d : Nat) (zh zt zw za : Int) : mi_path [(206, (5, 0, sb_206))] sx_sk h 3 [] (d + 7, 206, 183, [some (.inr (.inr 109)), some (.inl (zh)), some (.inl (zt)), some (.inl (zw)), some (.inl (za))], [], [], []) = some ((d + 7, 206, 52, [some (.inr (.inr 109)), some (.inl (zh)), some (.inl (zt + 1)), some (.inl (zw)), some (.inl (za))], [], [], []), [-2147483648 ≤ zt + 1 ∧ zt + 1 ≤ 2147483647]) := rfl
theorem mi_tab_wb183_0 : ∀ e ∈ ([(206, (5, 0, sb_206))] : mi_T), sc_P e.1 = some e.2 := mi_tb mi_P206 (mi_tb_e)
set_option maxRecDepth 20000 in
theorem ms_wb183_0 {h : sm_H} {d : Nat} {Q : Option mi_V → sm_H → Prop} {zh zt zw za : Int} (hS : ab_Sh sx_sk h) (ok_zh : mi_in zh) (ok_zt : mi_in zt) (ok_zw : mi_in zw) (ok_za : mi_in za) (ho : (-2147483648 ≤ zt + 1 ∧ zt + 1 ≤ 2147483647)) (kon : ∀ h1, me_W [] h h1 → me_E (d + 7) 206 52 [some (.inr (.inr 109)), some (.inl (zh)), some (.inl (zt + 1)), some (.inl (zw)), some (.inl (za))] [] h1 Q) : me_E (d + 7) 206 183 [some (.inr (.inr 109)), some (.inl (zh)), some (.inl (zt)), some (.inl (zw)), some (.inl (za))] [] h Q := me_seg (mp_wb183_0 h d zh zt zw za) (mi_tab_wb183_0) hS (mi_okL_c (trivial) (mi_okL_c (ok_zh) (mi_okL_c (ok_zt) (mi_okL_c (ok_zw) (mi_okL_c (ok_za) (mi_okL_e)))))) (mi_okS_e) (mi_al (ho) (mi_al_e)) (fun h1 W _ hst => kon h1 W)
set_option maxRecDepth 20000 in
theorem mt_wb183 {h : sm_H} {d : Nat} {Q : Option mi_V → sm_H → Prop} {zh zt zw za : Int} (hS : ab_Sh sx_sk h) (ok_zh : mi_in zh) (ok_zt : mi_in zt) (ok_zw : mi_in zw) (ok_za : mi_in za) (k0 : ((-2147483648 ≤ zt + 1 ∧ zt + 1 ≤ 2147483647)) ∧ (∀ h1, ab_Sh sx_sk h1 → ab_Fr [] h h1 → me_E (d + 7) 206 52 [some (.inr (.inr 109)), some (.inl (zh)), some (.inl (zt + 1)), some (.inl (zw)), some (.inl (za))] [] h1 Q)) : me_E (d + 7) 206 183 [some (.inr (.inr 109)), some (.inl (zh)), some (.inl (zt)), some (.inl (zw)), some (.inl (za))] [] h Q := ms_wb183_0 hS ok_zh ok_zt ok_zw ok_za ((k0).1) (fun h1 W => (k0).2 h1 W.1 (W.2.2.2.2.2 _ rfl))
set_option maxRecDepth 20000 in
theorem mp_wb208_0 (h : sm_H) (d : Nat) (zh zt zw za : Int) : mi_path [(206, (5, 0, sb_206))] sx_sk h 3 [] (d + 7, 206, 208, [some (.inr (.inr 109)), some (.inl (zh)), some (.inl (zt)), some (.inl (zw)), some (.inl (za))], [], [], []) = some ((d + 7, 206, 52, [some (.inr (.inr 109)), some (.inl (zh)), some (.inl (zt + 1)), some (.inl (zw)), some (.inl (za))], [], [], []), [-2147483648 ≤ zt + 1 ∧ zt + 1 ≤ 2147483647]) := rfl
theorem mi_tab_wb208_0 : ∀ e ∈ ([(206, (5, 0, sb_206))] : mi_T), sc_P e.1 = some e.2 := mi_tb mi_P206 (mi_tb_e)
set_option maxRecDepth 20000 in
theorem ms_wb208_0 {h : sm_H} {d : Nat} {Q : Option mi_V → sm_H → Prop} {zh zt zw za : Int} (hS : ab_Sh sx_sk h) (ok_zh : mi_in zh) (ok_zt : mi_in zt) (ok_zw : mi_in zw) (ok_za : mi_in za) (ho : (-2147483648 ≤ zt + 1 ∧ zt + 1 ≤ 2147483647)) (kon : ∀ h1, me_W [] h h1 → me_E (d + 7) 206 52 [some (.inr (.inr 109)), some (.inl (zh)), some (.inl (zt + 1)), some (.inl (zw)), some (.inl (za))] [] h1 Q) : me_E (d + 7) 206 208 [some (.inr (.inr 109)), some (.inl (zh)), some (.inl (zt)), some (.inl (zw)), some (.inl (za))] [] h Q := me_seg (mp_wb208_0 h d zh zt zw za) (mi_tab_wb208_0) hS (mi_okL_c (trivial) (mi_okL_c (ok_zh) (mi_okL_c (ok_zt) (mi_okL_c (ok_zw) (mi_okL_c (ok_za) (mi_okL_e)))))) (mi_okS_e) (mi_al (ho) (mi_al_e)) (fun h1 W _ hst => kon h1 W)
set_option maxRecDepth 20000 in
theorem mt_wb208 {h : sm_H} {d : Nat} {Q : Option mi_V → sm_H → Prop} {zh zt zw za : Int} (hS : ab_Sh sx_sk h) (ok_zh : mi_in zh) (ok_zt : mi_in zt) (ok_zw : mi_in zw) (ok_za : mi_in za) (k0 : ((-2147483648 ≤ zt + 1 ∧ zt + 1 ≤ 2147483647)) ∧ (∀ h1, ab_Sh sx_sk h1 → ab_Fr [] h h1 → me_E (d + 7) 206 52 [some (.inr (.inr 109)), some (.inl (zh)), some (.inl (zt + 1)), some (.inl (zw)), some (.inl (za))] [] h1 Q)) : me_E (d + 7) 206 208 [some (.inr (.inr 109)), some (.inl (zh)), some (.inl (zt)), some (.inl (zw)), some (.inl (za))] [] h Q := ms_wb208_0 hS ok_zh ok_zt ok_zw ok_za ((k0).1) (fun h1 W => (k0).2 h1 W.1 (W.2.2.2.2.2 _ rfl))
set_option maxRecDepth 20000 in
theorem mp_wb218_0 (h : sm_H) (d : Nat) (zh zt zw za : Int) : mi_path [(206, (5, 0, sb_206))] sx_sk h 3 [] (d + 7, 206, 218, [some (.inr (.inr 109)), some (.inl (zh)), some (.inl (zt)), some (.inl (zw)), some (.inl (za))], [], [], []) = some ((d + 7, 206, 52, [some (.inr (.inr 109)), some (.inl (zh)), some (.inl (zt + 1)), some (.inl (zw)), some (.inl (za))], [], [], []), [-2147483648 ≤ zt + 1 ∧ zt + 1 ≤ 2147483647]) := rfl
theorem mi_tab_wb218_0 : ∀ e ∈ ([(206, (5, 0, sb_206))] : mi_T), sc_P e.1 = some e.2 := mi_tb mi_P206 (mi_tb_e)
set_option maxRecDepth 20000 in
theorem ms_wb218_0 {h : sm_H} {d : Nat} {Q : Option mi_V → sm_H → Prop} {zh zt zw za : Int} (hS : ab_Sh sx_sk h) (ok_zh : mi_in zh) (ok_zt : mi_in zt) (ok_zw : mi_in zw) (ok_za : mi_in za) (ho : (-2147483648 ≤ zt + 1 ∧ zt + 1 ≤ 2147483647)) (kon : ∀ h1, me_W [] h h1 → me_E (d + 7) 206 52 [some (.inr (.inr 109)), some (.inl (zh)), some (.inl (zt + 1)), some (.inl (zw)), some (.inl (za))] [] h1 Q) : me_E (d + 7) 206 218 [some (.inr (.inr 109)), some (.inl (zh)), some (.inl (zt)), some (.inl (zw)), some (.inl (za))] [] h Q := me_seg (mp_wb218_0 h d zh zt zw za) (mi_tab_wb218_0) hS (mi_okL_c (trivial) (mi_okL_c (ok_zh) (mi_okL_c (ok_zt) (mi_okL_c (ok_zw) (mi_okL_c (ok_za) (mi_okL_e)))))) (mi_okS_e) (mi_al (ho) (mi_al_e)) (fun h1 W _ hst => kon h1 W)
set_option maxRecDepth 20000 in
theorem mt_wb218 {h : sm_H} {d : Nat} {Q : Option mi_V → sm_H → Prop} {zh zt zw za : Int} (hS : ab_Sh sx_sk h) (ok_zh : mi_in zh) (ok_zt : mi_in zt) (ok_zw : mi_in zw) (ok_za : mi_in za) (k0 : ((-2147483648 ≤ zt + 1 ∧ zt + 1 ≤ 2147483647)) ∧ (∀ h1, ab_Sh sx_sk h1 → ab_Fr [] h h1 → me_E (d + 7) 206 52 [some (.inr (.inr 109)), some (.inl (zh)), some (.inl (zt + 1)), some (.inl (zw)), some (.inl (za))] [] h1 Q)) : me_E (d + 7) 206 218 [some (.inr (.inr 109)), some (.inl (zh)), some (.inl (zt)), some (.inl (zw)), some (.inl (za))] [] h Q := ms_wb218_0 hS ok_zh ok_zt ok_zw ok_za ((k0).1) (fun h1 W => (k0).2 h1 W.1 (W.2.2.2.2.2 _ rfl))
set_option maxRecDepth 20000 in
theorem mp_waE_0 (h : sm_H) (d : Nat) (zh zt : Int) (q3 q4 : Option mi_V) : mi_path [(206, (5, 0, sb_206))] sx_sk h 3 [1] (d + 7, 206, 247, [some (.inr (.inr 109)), some (.inl (zh)), some (.inl (zt)), q3, q4], [], [], []) = some ((d + 7, 206, 293, [some (.inr (.inr 109)), some (.inl (zh)), some (.inl (zt)), q3, q4], [], [], []), [(mi_f h 14028) ≠ ((0 : Int))]) := rfl
theorem mi_tab_waE_0 : ∀ e ∈ ([(206, (5, 0, sb_206))] : mi_T), sc_P e.1 = some e.2 := mi_tb mi_P206 (mi_tb_e)
set_option maxRecDepth 20000 in
theorem ms_waE_0 {h : sm_H} {d : Nat} {Q : Option mi_V → sm_H → Prop} {zh zt : Int} {q3 q4 : Option mi_V} (hS : ab_Sh sx_sk h) (ok_zh : mi_in zh) (ok_zt : mi_in zt) (ok_q3 : ∀ v, q3 = some v → mi_ok v) (ok_q4 : ∀ v, q4 = some v → mi_ok v) (ho : ((mi_f h 14028) ≠ ((0 : Int)))) (kon : ∀ h1, me_W [] h h1 → Q none h1) : me_E (d + 7) 206 247 [some (.inr (.inr 109)), some (.inl (zh)), some (.inl (zt)), q3, q4] [] h Q := me_seg (mp_waE_0 h d zh zt q3 q4) (mi_tab_waE_0) hS (mi_okL_c (trivial) (mi_okL_c (ok_zh) (mi_okL_c (ok_zt) (mi_okL_o ok_q3 (mi_okL_o ok_q4 (mi_okL_e)))))) (mi_okS_e) (mi_al (ho) (mi_al_e)) (fun h1 W _ hst => me_ret (M := (5, 0, sb_206)) rfl rfl rfl hst (mi_al_e) (kon h1 W))
set_option maxRecDepth 20000 in
theorem mp_waE_1 (h : sm_H) (d : Nat) (zh zt : Int) (q3 q4 : Option mi_V) : mi_path [(206, (5, 0, sb_206))] sx_sk h 6 [0, 1] (d + 7, 206, 247, [some (.inr (.inr 109)), some (.inl (zh)), some (.inl (zt)), q3, q4], [], [], []) = some ((d + 7, 206, 293, [some (.inr (.inr 109)), some (.inl (zh)), some (.inl (zt)), q3, q4], [], [], []), [(mi_f h 14028) = ((0 : Int)), ((0 : Int)) ≤ (mi_f h 14034)]) := rfl
theorem mi_tab_waE_1 : ∀ e ∈ ([(206, (5, 0, sb_206))] : mi_T), sc_P e.1 = some e.2 := mi_tb mi_P206 (mi_tb_e)
set_option maxRecDepth 20000 in
theorem ms_waE_1 {h : sm_H} {d : Nat} {Q : Option mi_V → sm_H → Prop} {zh zt : Int} {q3 q4 : Option mi_V} (hS : ab_Sh sx_sk h) (ok_zh : mi_in zh) (ok_zt : mi_in zt) (ok_q3 : ∀ v, q3 = some v → mi_ok v) (ok_q4 : ∀ v, q4 = some v → mi_ok v) (ho : ((mi_f h 14028) = ((0 : Int))) ∧ (((0 : Int)) ≤ (mi_f h 14034))) (kon : ∀ h1, me_W [] h h1 → Q none h1) : me_E (d + 7) 206 247 [some (.inr (.inr 109)), some (.inl (zh)), some (.inl (zt)), q3, q4] [] h Q := me_seg (mp_waE_1 h d zh zt q3 q4) (mi_tab_waE_1) hS (mi_okL_c (trivial) (mi_okL_c (ok_zh) (mi_okL_c (ok_zt) (mi_okL_o ok_q3 (mi_okL_o ok_q4 (mi_okL_e)))))) (mi_okS_e) (mi_al (ho.1) (mi_al (ho.2) (mi_al_e))) (fun h1 W _ hst => me_ret (M := (5, 0, sb_206)) rfl rfl rfl hst (mi_al_e) (kon h1 W))
set_option maxRecDepth 20000 in
theorem mp_waE_2 (h : sm_H) (d : Nat) (zh zt : Int) (q3 q4 : Option mi_V) : mi_path [(206, (5, 0, sb_206))] sx_sk h 9 [0, 0, 1] (d + 7, 206, 247, [some (.inr (.inr 109)), some (.inl (zh)), some (.inl (zt)), q3, q4], [], [], []) = some ((d + 7, 206, 293, [some (.inr (.inr 109)), some (.inl (zh)), some (.inl (zt)), q3, q4], [], [], []), [(mi_f h 14028) = ((0 : Int)), (mi_f h 14034) < ((0 : Int)), (mi_f h 14044) ≠ ((0 : Int))]) := rfl
theorem mi_tab_waE_2 : ∀ e ∈ ([(206, (5, 0, sb_206))] : mi_T), sc_P e.1 = some e.2 := mi_tb mi_P206 (mi_tb_e)
set_option maxRecDepth 20000 in
theorem ms_waE_2 {h : sm_H} {d : Nat} {Q : Option mi_V → sm_H → Prop} {zh zt : Int} {q3 q4 : Option mi_V} (hS : ab_Sh sx_sk h) (ok_zh : mi_in zh) (ok_zt : mi_in zt) (ok_q3 : ∀ v, q3 = some v → mi_ok v) (ok_q4 : ∀ v, q4 = some v → mi_ok v) (ho : ((mi_f h 14028) = ((0 : Int))) ∧ ((mi_f h 14034) < ((0 : Int))) ∧ ((mi_f h 14044) ≠ ((0 : Int)))) (kon : ∀ h1, me_W [] h h1 → Q none h1) : me_E (d + 7) 206 247 [some (.inr (.inr 109)), some (.inl (zh)), some (.inl (zt)), q3, q4] [] h Q := me_seg (mp_waE_2 h d zh zt q3 q4) (mi_tab_waE_2) hS (mi_okL_c (trivial) (mi_okL_c (ok_zh) (mi_okL_c (ok_zt) (mi_okL_o ok_q3 (mi_okL_o ok_q4 (mi_okL_e)))))) (mi_okS_e) (mi_al (ho.1) (mi_al (ho.2.1) (mi_al (ho.2.2) (mi_al_e)))) (fun h1 W _ hst => me_ret (M := (5, 0, sb_206)) rfl rfl rfl hst (mi_al_e) (kon h1 W))
set_option maxRecDepth 20000 in
theorem mp_waE_3 (h : sm_H) (d : Nat) (zh zt : Int) (q3 q4 : Option mi_V) : mi_path [(206, (5, 0, sb_206))] sx_sk h 15 [0, 0, 0, 1] (d + 7, 206, 247, [some (.inr (.inr 109)), some (.inl (zh)), some (.inl (zt)), q3, q4], [], [], []) = some ((d + 7, 206, 293, [some (.inr (.inr 109)), some (.inl (zh)), some (.inl (zt)), q3, q4], [], [], []), [(mi_f h 14028) = ((0 : Int)), (mi_f h 14034) < ((0 : Int)), (mi_f h 14044) = ((0 : Int)), 0 ≤ (mi_f h 14033) ∧ (mi_f h 14033) < 161, (mi_a h 152 (Int.toNat (mi_f h 14033))) = ((0 : Int))]) := rfl
theorem mi_tab_waE_3 : ∀ e ∈ ([(206, (5, 0, sb_206))] : mi_T), sc_P e.1 = some e.2 := mi_tb mi_P206 (mi_tb_e)
set_option maxRecDepth 20000 in
theorem ms_waE_3 {h : sm_H} {d : Nat} {Q : Option mi_V → sm_H → Prop} {zh zt : Int} {q3 q4 : Option mi_V} (hS : ab_Sh sx_sk h) (ok_zh : mi_in zh) (ok_zt : mi_in zt) (ok_q3 : ∀ v, q3 = some v → mi_ok v) (ok_q4 : ∀ v, q4 = some v → mi_ok v) (ho : ((mi_f h 14028) = ((0 : Int))) ∧ ((mi_f h 14034) < ((0 : Int))) ∧ ((mi_f h 14044) = ((0 : Int))) ∧ (0 ≤ (mi_f h 14033) ∧ (mi_f h 14033) < 161) ∧ ((mi_a h 152 (Int.toNat (mi_f h 14033))) = ((0 : Int)))) (kon : ∀ h1, me_W [] h h1 → Q none h1) : me_E (d + 7) 206 247 [some (.inr (.inr 109)), some (.inl (zh)), some (.inl (zt)), q3, q4] [] h Q := me_seg (mp_waE_3 h d zh zt q3 q4) (mi_tab_waE_3) hS (mi_okL_c (trivial) (mi_okL_c (ok_zh) (mi_okL_c (ok_zt) (mi_okL_o ok_q3 (mi_okL_o ok_q4 (mi_okL_e)))))) (mi_okS_e) (mi_al (ho.1) (mi_al (ho.2.1) (mi_al (ho.2.2.1) (mi_al (ho.2.2.2.1) (mi_al (ho.2.2.2.2) (mi_al_e)))))) (fun h1 W _ hst => me_ret (M := (5, 0, sb_206)) rfl rfl rfl hst (mi_al_e) (kon h1 W))
set_option maxRecDepth 20000 in
theorem mp_waE_4 (h : sm_H) (d : Nat) (zh zt : Int) (q3 q4 : Option mi_V) : mi_path [(206, (5, 0, sb_206))] sx_sk h 22 [0, 0, 0, 0] (d + 7, 206, 247, [some (.inr (.inr 109)), some (.inl (zh)), some (.inl (zt)), q3, q4], [], [], []) = some ((d + 7, 206, 293, [some (.inr (.inr 109)), some (.inl (zh)), some (.inl (zt)), q3, q4], [], [.inl (14034, mi_a h 153 (Int.toNat (mi_f h 14033)))], []), [(mi_f h 14028) = ((0 : Int)), (mi_f h 14034) < ((0 : Int)), (mi_f h 14044) = ((0 : Int)), 0 ≤ (mi_f h 14033) ∧ (mi_f h 14033) < 161, (mi_a h 152 (Int.toNat (mi_f h 14033))) ≠ ((0 : Int)), 0 ≤ (mi_f h 14033) ∧ (mi_f h 14033) < 161]) := rfl
theorem mi_tab_waE_4 : ∀ e ∈ ([(206, (5, 0, sb_206))] : mi_T), sc_P e.1 = some e.2 := mi_tb mi_P206 (mi_tb_e)
set_option maxRecDepth 20000 in
theorem ms_waE_4 {h : sm_H} {d : Nat} {Q : Option mi_V → sm_H → Prop} {zh zt : Int} {q3 q4 : Option mi_V} (hS : ab_Sh sx_sk h) (ok_zh : mi_in zh) (ok_zt : mi_in zt) (ok_q3 : ∀ v, q3 = some v → mi_ok v) (ok_q4 : ∀ v, q4 = some v → mi_ok v) (ho : ((mi_f h 14028) = ((0 : Int))) ∧ ((mi_f h 14034) < ((0 : Int))) ∧ ((mi_f h 14044) = ((0 : Int))) ∧ (0 ≤ (mi_f h 14033) ∧ (mi_f h 14033) < 161) ∧ ((mi_a h 152 (Int.toNat (mi_f h 14033))) ≠ ((0 : Int))) ∧ (0 ≤ (mi_f h 14033) ∧ (mi_f h 14033) < 161)) (kon : ∀ h1, me_W [.inl (14034, mi_a h 153 (Int.toNat (mi_f h 14033)))] h h1 → Q none h1) : me_E (d + 7) 206 247 [some (.inr (.inr 109)), some (.inl (zh)), some (.inl (zt)), q3, q4] [] h Q := me_seg (mp_waE_4 h d zh zt q3 q4) (mi_tab_waE_4) hS (mi_okL_c (trivial) (mi_okL_c (ok_zh) (mi_okL_c (ok_zt) (mi_okL_o ok_q3 (mi_okL_o ok_q4 (mi_okL_e)))))) (mi_okS_e) (mi_al (ho.1) (mi_al (ho.2.1) (mi_al (ho.2.2.1) (mi_al (ho.2.2.2.1) (mi_al (ho.2.2.2.2.1) (mi_al (ho.2.2.2.2.2) (mi_al_e))))))) (fun h1 W _ hst => me_ret (M := (5, 0, sb_206)) rfl rfl rfl hst (mi_al_e) (kon h1 W))
set_option maxRecDepth 20000 in
theorem mt_waE {h : sm_H} {d : Nat} {Q : Option mi_V → sm_H → Prop} {zh zt : Int} {q3 q4 : Option mi_V} (hS : ab_Sh sx_sk h) (ok_zh : mi_in zh) (ok_zt : mi_in zt) (ok_q3 : ∀ v, q3 = some v → mi_ok v) (ok_q4 : ∀ v, q4 = some v → mi_ok v) (k0 : ((-2147483648) ≤ mi_f h 14028 ∧ mi_f h 14028 ≤ 2147483647) → ((mi_f h 14028) ≠ ((0 : Int))) → (∀ h1, ab_Sh sx_sk h1 → ab_Fr [] h h1 → Q none h1)) (k1 : ((-2147483648) ≤ mi_f h 14028 ∧ mi_f h 14028 ≤ 2147483647) → ((-2147483648) ≤ mi_f h 14034 ∧ mi_f h 14034 ≤ 2147483647) → ((mi_f h 14028) = ((0 : Int))) → (((0 : Int)) ≤ (mi_f h 14034)) → (∀ h1, ab_Sh sx_sk h1 → ab_Fr [] h h1 → Q none h1)) (k2 : ((-2147483648) ≤ mi_f h 14028 ∧ mi_f h 14028 ≤ 2147483647) → ((-2147483648) ≤ mi_f h 14034 ∧ mi_f h 14034 ≤ 2147483647) → (0 ≤ mi_f h 14044 ∧ mi_f h 14044 ≤ 1) → ((mi_f h 14028) = ((0 : Int))) → ((mi_f h 14034) < ((0 : Int))) → ((mi_f h 14044) ≠ ((0 : Int))) → (∀ h1, ab_Sh sx_sk h1 → ab_Fr [] h h1 → Q none h1)) (k3 : ((-2147483648) ≤ mi_f h 14028 ∧ mi_f h 14028 ≤ 2147483647) → ((-2147483648) ≤ mi_f h 14034 ∧ mi_f h 14034 ≤ 2147483647) → (0 ≤ mi_f h 14044 ∧ mi_f h 14044 ≤ 1) → ((-2147483648) ≤ mi_f h 14033 ∧ mi_f h 14033 ≤ 2147483647) → ((mi_f h 14028) = ((0 : Int))) → ((mi_f h 14034) < ((0 : Int))) → ((mi_f h 14044) = ((0 : Int))) → ((mi_a h 152 (Int.toNat (mi_f h 14033))) = ((0 : Int))) → ((0 ≤ (mi_f h 14033) ∧ (mi_f h 14033) < 161)) ∧ (∀ h1, ab_Sh sx_sk h1 → ab_Fr [] h h1 → Q none h1)) (k4 : ((-2147483648) ≤ mi_f h 14028 ∧ mi_f h 14028 ≤ 2147483647) → ((-2147483648) ≤ mi_f h 14034 ∧ mi_f h 14034 ≤ 2147483647) → (0 ≤ mi_f h 14044 ∧ mi_f h 14044 ≤ 1) → ((-2147483648) ≤ mi_f h 14033 ∧ mi_f h 14033 ≤ 2147483647) → ((mi_f h 14028) = ((0 : Int))) → ((mi_f h 14034) < ((0 : Int))) → ((mi_f h 14044) = ((0 : Int))) → ((mi_a h 152 (Int.toNat (mi_f h 14033))) ≠ ((0 : Int))) → ((0 ≤ (mi_f h 14033) ∧ (mi_f h 14033) < 161)) ∧ (∀ h1, ab_Sh sx_sk h1 → mi_f h1 14034 = mi_a h 153 (Int.toNat (mi_f h 14033)) → ab_Fr [(14034, 14035)] h h1 → Q none h1)) : me_E (d + 7) 206 247 [some (.inr (.inr 109)), some (.inl (zh)), some (.inl (zt)), q3, q4] [] h Q := Or.elim (mi_em .ne ((mi_f h 14028)) (((0 : Int)))) (fun c0 => ms_waE_0 hS ok_zh ok_zt ok_q3 ok_q4 (c0) (fun h1 W => (k0 (me_fb hS rfl) c0) h1 W.1 (W.2.2.2.2.2 _ rfl))) (fun c0 => Or.elim (mi_em .ge ((mi_f h 14034)) (((0 : Int)))) (fun c1 => ms_waE_1 hS ok_zh ok_zt ok_q3 ok_q4 ⟨c0, c1⟩ (fun h1 W => (k1 (me_fb hS rfl) (me_fb hS rfl) c0 c1) h1 W.1 (W.2.2.2.2.2 _ rfl))) (fun c1 => Or.elim (mi_em .ne ((mi_f h 14044)) (((0 : Int)))) (fun c2 => ms_waE_2 hS ok_zh ok_zt ok_q3 ok_q4 ⟨c0, c1, c2⟩ (fun h1 W => (k2 (me_fb hS rfl) (me_fb hS rfl) (me_fb hS rfl) c0 c1 c2) h1 W.1 (W.2.2.2.2.2 _ rfl))) (fun c2 => Or.elim (mi_em .eq ((mi_a h 152 (Int.toNat (mi_f h 14033)))) (((0 : Int)))) (fun c3 => ms_waE_3 hS ok_zh ok_zt ok_q3 ok_q4 ⟨c0, c1, c2, (k3 (me_fb hS rfl) (me_fb hS rfl) (me_fb hS rfl) (me_fb hS rfl) c0 c1 c2 c3).1, c3⟩ (fun h1 W => (k3 (me_fb hS rfl) (me_fb hS rfl) (me_fb hS rfl) (me_fb hS rfl) c0 c1 c2 c3).2 h1 W.1 (W.2.2.2.2.2 _ rfl))) (fun c3 => ms_waE_4 hS ok_zh ok_zt ok_q3 ok_q4 ⟨c0, c1, c2, (k4 (me_fb hS rfl) (me_fb hS rfl) (me_fb hS rfl) (me_fb hS rfl) c0 c1 c2 c3).1, c3, (k4 (me_fb hS rfl) (me_fb hS rfl) (me_fb hS rfl) (me_fb hS rfl) c0 c1 c2 c3).1⟩ (fun h1 W => (k4 (me_fb hS rfl) (me_fb hS rfl) (me_fb hS rfl) (me_fb hS rfl) c0 c1 c2 c3).2 h1 W.1 (W.2.1 14034) (W.2.2.2.2.2 _ rfl))))))
/-! the walk's loop: what its steps do to the stack -/
theorem wk_sg_S {g : wk_g} {K : Nat → Int} {u : Int} {r s' : List wk_E} {c c' : Nat} (h : wk_sg g K u r c = some (s', c')) : s' = wk_sS g u r := by
  unfold wk_sg at h
  by_cases h9 : g 119 u.toNat = 9
  · rw [if_pos h9] at h
    split at h
    · cases h; rfl
    · cases h
  · rw [if_neg h9] at h
    by_cases h1 : g 119 u.toNat = 1
    · rw [if_pos h1] at h
      split at h
      · cases h
        unfold wk_sS
        rw [if_neg h9, if_neg (by omega)]
      · cases h
    · rw [if_neg h1] at h
      by_cases h2 : g 119 u.toNat = 2
      · rw [if_pos h2] at h
        split at h
        · cases h
          unfold wk_sS
          rw [if_neg h9, if_neg (by omega)]
        · cases h
      · rw [if_neg h2] at h
        cases h
        rfl
section WLP
variable {g : wk_g} {Y : wk_Y} {Z : wk_P} {r s' : List wk_E} {w p l zo : Int} {K V : Nat → Int} {c c' : Nat}
theorem wl_A {x : Int} (hw0 : 0 ≤ w) (hw1 : w < wk_u Y) (hi : (r.length : Int) + 4 * (wk_e Y w - w) - 2 ≤ 242 * l) (hp0 : 0 ≤ p) (hp1 : p ≤ 5 * (l - 1) + wk_d Y (wk_c Y w) + 1) (hl0 : 1 ≤ l) (hl1 : l ≤ 12) (hb : wk_SI Y Z r 0 p l) : wk_SI Y Z ((5, w, x) :: (2, 0, 0) :: r) 0 p l := by
  refine wk_pagain ⟨hw0, hw1, ?_, hp0, hp1, hl0, hl1⟩ (wk_pout (Or.inl rfl) hp0 hl0 hl1 ?_)
  · rw [List.length_cons]
    omega
  · rw [Int.sub_zero]
    exact hb
theorem wl_B (hL : wk_L g Y) (hw0 : 0 ≤ w) (hw1 : w < wk_u Y) (hi : (r.length : Int) + 4 * (wk_e Y w - w) - 2 ≤ 242 * l) (hp0 : 0 ≤ p) (hp1 : p ≤ 5 * (l - 1) + wk_d Y (wk_c Y w) + 1) (hl0 : 1 ≤ l) (hl1 : l ≤ 12) (hb : wk_SI Y Z r 0 p l) (hwr : g 122 w.toNat ≠ 1) (hpf : wk_pf g K V ((0, w, zo) :: r, c) = some (s', c')) (h12 : wk_ul s' ≤ 12) : wk_SI Y Z s' 0 p (wk_ul s') := by
  have hul := wk_SI_ul r 0 p l hb
  unfold wk_pf at hpf
  dsimp only at hpf
  rw [if_pos rfl, if_neg hwr] at hpf
  by_cases h2 : g 122 w.toNat = 2
  · rw [if_pos h2] at hpf
    have hb2 : wk_SI Y Z ((2, 0, 0) :: r) 0 p l := wk_pout (Or.inl rfl) hp0 hl0 hl1 (by rw [Int.sub_zero]; exact hb)
    have hu2 : wk_ul ((2, 0, 0) :: r) = l := by rw [wk_ul_o]; omega
    split at hpf
    · split at hpf
      · have es := wk_sg_S hpf
        have eu : wk_ul s' = wk_sl g w l := by rw [es, wk_ul_sS, hu2]
        rw [eu] at h12 ⊢
        rw [es]
        exact wk_SI_s hL hw0 hw1 hb2 hl0 h12 hp0 hp1 (by rw [List.length_cons]; omega)
      · cases hpf
        rw [hu2]
        exact hb2
    · cases hpf
  · rw [if_neg h2] at hpf
    have es := wk_sg_S hpf
    have eu : wk_ul s' = wk_sl g w l := by rw [es, wk_ul_sS, hul]
    rw [eu] at h12 ⊢
    rw [es]
    exact wk_SI_s hL hw0 hw1 hb hl0 h12 hp0 hp1 (by omega)
theorem wl_C {x : Int} (hL : wk_L g Y) (hA : wk_A Y w (r.length : Int) p l) (hb : wk_SI Y Z r 0 p l) (h12 : wk_ul (wk_sS g w ((5, w, x) :: r)) ≤ 12) : wk_SI Y Z (wk_sS g w ((5, w, x) :: r)) 0 p (wk_ul (wk_sS g w ((5, w, x) :: r))) := by
  obtain ⟨a1, a2, a3, a4, a5, a6, a7⟩ := hA
  have hul := wk_SI_ul r 0 p l hb
  have eu : wk_ul (wk_sS g w ((5, w, x) :: r)) = wk_sl g w l := by rw [wk_ul_sS, wk_ul_c (by decide), hul]
  rw [eu] at h12 ⊢
  exact wk_SI_s hL a1 a2 (wk_pagain ⟨a1, a2, a3, a4, a5, a6, a7⟩ hb) a6 h12 a4 a5 (by rw [List.length_cons]; omega)
theorem wk_ul_it {N : Nat} {u : Int} : wk_ul (wk_it g N u ++ r) = wk_ul r := by
  induction N generalizing u with
  | zero => rfl
  | succ N ih =>
    unfold wk_it
    split
    · rfl
    · split
      · show wk_ul ((0, u, 1) :: (3, 0, 0) :: (0, g 124 u.toNat, 0) :: (4, 0, 0) :: (wk_it g N (g 125 u.toNat) ++ r)) = _
        rw [wk_ul_c (by decide), wk_ul_c (by decide), wk_ul_c (by decide), wk_ul_c (by decide), ih]
      · show wk_ul ((0, u, 0) :: (wk_it g N (g 125 u.toNat) ++ r)) = _
        rw [wk_ul_c (by decide), ih]
/-- a form's items -/
theorem wl_D {f : Int} (hL : wk_L g Y) (hF : wk_F Y f (r.length : Int) p l) (hb : wk_SI Y Z r 0 p l) {j : Nat} (hj : (j : Int) < g 130 f.toNat) : (((wk_it g 61 (g 126 (wk_alt g j (g 129 f.toNat)).toNat)).length : Int) + (r.length : Int) + 1 ≤ 2999) ∧ wk_SI Y Z (wk_it g 61 (g 126 (wk_alt g j (g 129 f.toNat)).toNat) ++ r) 0 p l ∧ wk_SI Y Z (wk_it g 61 (g 126 (wk_alt g j (g 129 f.toNat)).toNat) ++ (2, 0, 0) :: r) 0 p l := by
  obtain ⟨f1, f2, f3, f4, f5, f6, f7⟩ := hF
  obtain ⟨d1, d2, d3, d4, dB, d5⟩ := hL.2.2.2 f f1 f2
  obtain ⟨e1, e2, e3⟩ := d5 j hj
  generalize g 126 (wk_alt g j (g 129 f.toNat)).toNat = u at e3 ⊢
  have hu : u < 0 ∨ (u < wk_u Y ∧ wk_c Y u = f) := e3
  have hub : 0 ≤ u → wk_b Y f < u ∧ u ≤ wk_x Y f := fun h0 => by
    have hu2 : u < wk_u Y ∧ wk_c Y u = f := by omega
    obtain ⟨⟨a1, a2, a3, -⟩, -⟩ := hL.2.2.1 u h0 hu2.1
    rw [hu2.2] at a2 a3
    omega
  have k1 := wk_SI_it (Z := Z) (r := r) hL f1 f2 hb f6 f7 f4 f5 61 u hu (fun h0 => by have := hub h0; omega)
  have hb2 : wk_SI Y Z ((2, 0, 0) :: r) 0 p l := wk_pout (Or.inl rfl) f4 f6 f7 (by rw [Int.sub_zero]; exact hb)
  have k2 := wk_SI_it (Z := Z) (r := (2, 0, 0) :: r) hL f1 f2 hb2 f6 f7 f4 f5 61 u hu (fun h0 => by have := hub h0; rw [List.length_cons]; omega)
  refine ⟨?_, k1.1, k2.1⟩
  by_cases h0 : 0 ≤ u
  · have := k1.2.1 h0
    have := hub h0
    omega
  · have := k1.2.2 (by omega)
    omega
end WLP
/-! the walk's loop -/
def wr_W2 : List (Nat × Nat) := (14030, 14031) :: (21504, 21505) :: wr_W1
def wr_WK : List (Nat × Nat) := [(14016, 14017), (14028, 14038), (14044, 14048), (18560, 18561), (20224, 20481), (20864, 20865), (21120, 21761)]
def uu_Q (μ zu zo : Int) (h : sm_H) (w : Option mi_V) (h' : sm_H) : Prop := w = none ∧ ab_Sh sx_sk h' ∧ ab_Fr wr_W2 h h' ∧ ((mi_f h' 14044 = 1 ∨ (μ = 0 ∧ 0 ≤ mi_f h' 14034)) ∨ (un_R μ zu zo h h' ∧ mi_f h' 14030 = mi_f h 14030 + zo ∧ (∀ i, mi_a h' 168 i = if zo = 1 ∧ i = (mi_f h 14030).toNat then mi_f h 14016 else mi_a h 168 i) ∧ ∀ i, mi_a h' 169 i = mi_a h 169 i))
section UUU
variable {d : Nat} {h : sm_H} {zu zo μ : Int}
theorem me_unit (hi : wk_in μ h) (hu : wk_us h zu) (ht : mi_f h 14029 ≤ 2985) (hz : zo = 0 ∨ zo = 1) (hp : zo = 1 → 0 ≤ mi_f h 14030 ∧ mi_f h 14030 < 64) (h2 : μ = 2 → ∃ s', wk_pf (mi_a h) (wk_K 2 h) (wk_V 2 h) ((0, zu, zo) :: wk_stk h, (wk_n 2 h).toNat) = some s' ∧ s'.2 ≤ 100) : me_E (d + 6) 210 0 [some (.inr (.inr 109)), some (.inl zu), some (.inl zo), none, none] [] h (uu_Q μ zu zo h) := by
  have i1 := hi.1
  have hu0 := hu.1
  have hu1 := hu.2.1
  have oo : mi_in zo := ⟨by omega, by omega⟩
  have ou : mi_in zu := ⟨by omega, by omega⟩
  refine mt_unA i1 ou oo ?_ ?_
  · intro c h1 g1 g2
    have e1 := me_nil g2
    subst e1
    refine (un24 hi hu ht oo h2).imp (fun w h' hq => ?_)
    obtain ⟨q1, q2, q3, q4⟩ := hq
    refine ⟨q1, q2, q3.wide (fun c hc => ab_swr_ok (by decide) hc), ?_⟩
    rcases q4 with q4 | q4
    · exact Or.inl q4
    · refine Or.inr ⟨q4, by rw [me_f (c := 14030) q3 i1 rfl rfl, c, Int.add_zero], fun i => ?_, fun i => me_a (k := 169) q3 i1 rfl rfl⟩
      rw [if_neg (fun e => by omega)]
      exact me_a (k := 168) q3 i1 rfl rfl
  · intro b1 b2 c
    have z1 : zo = 1 := by clear h2; omega
    have hp := hp z1
    refine ⟨by clear h2; omega, fun h1 g1 g2 g3 g4 => ?_⟩
    have est : wk_stk h1 = wk_stk h := wk_stk_fr g4 i1 rfl
    have e29 : mi_f h1 14029 = mi_f h 14029 := me_f (c := 14029) g4 i1 rfl rfl
    have e16 : mi_f h1 14016 = mi_f h 14016 := me_f (c := 14016) g4 i1 rfl rfl
    have e33 : mi_f h1 14033 = mi_f h 14033 := me_f (c := 14033) g4 i1 rfl rfl
    have hg : wk_gc (mi_a h) (mi_a h1) := wk_gc_fr g4 i1 rfl
    have hi1 : wk_in μ h1 := wk_in_fr hi g1 g4 rfl (by rw [e29]; exact hi.2.2.2.2.2.2.1) (by rw [est]; exact hi.2.2.2.2.2.2.2.2.2.1)
    have en : ∀ ν, wk_n ν h1 = wk_n ν h := fun ν => by unfold wk_n; rw [e33, e16]
    have hag : wk_ag μ (wk_n μ h) h h1 := wk_ag_fr g4 i1 rfl
    refine (un24 (d := d) hi1 (wk_us_g hg hu) (by rw [e29]; exact ht) oo (fun e => ?_)).imp (fun w h' hq => ?_)
    · obtain ⟨s', x1, x2⟩ := h2 e
      refine ⟨s', ?_, x2⟩
      rw [wk_pf_g hg, (wk_KV2 g4 i1 rfl).1, (wk_KV2 g4 i1 rfl).2, est, en]
      exact x1
    · obtain ⟨q1, q2, q3, q4⟩ := hq
      refine ⟨q1, q2, (g4.wide (fun c hc => ab_swr_ok (by decide) hc)).trans (q3.wide (fun c hc => ab_swr_ok (by decide) hc)), ?_⟩
      rcases q4 with q4 | q4
      · exact Or.inl q4
      · obtain ⟨r1, r2, r3, r4, r5, r6, r7, r8, r9, r10, r11, r12, r13⟩ := q4
        rw [en] at r5 r6 r12 r13
        rw [est] at r12 r13
        rw [hg 122 (by decide)] at r12 r13
        rw [wk_pf_g hg] at r13
        rw [e29] at r10 r11
        refine Or.inr ⟨⟨r1, r2, r3, r4, r5, hag.trans r6 (Int.le_refl _), fun e => (r7 e).trans e16, r8, r9, r10, r11, r12, r13⟩, by rw [me_f (c := 14030) q3 g1 rfl rfl, g2, z1], fun i => ?_, fun i => (me_a (k := 169) q3 g1 rfl rfl).trans (me_a (k := 169) g4 i1 rfl rfl)⟩
        rw [me_a (k := 168) q3 g1 rfl rfl, g3]
        by_cases ei : i = (mi_f h 14030).toNat
        · rw [if_pos ei, if_pos ⟨z1, ei⟩]
        · rw [if_neg ei, if_neg (fun e => ei e.2)]
end UUU
def wl_Z (h : sm_H) : wk_P := (fun i => mi_a h 168 i, fun i => mi_a h 169 i, mi_f h 14016)
def wl_I (Y : wk_Y) (h0 : sm_H) (μ : Int) (T : Int → sm_H → Prop) (zt : Int) (h : sm_H) : Prop := wk_in μ h ∧ ab_Fr wr_WK h0 h ∧ wk_SI Y (wl_Z h) (wk_stk h) 0 (mi_f h 14030) (mi_f h 14032) ∧ T zt h ∧ mi_f h 14029 ≤ 2999 ∧ mi_f h 14030 ≤ 60
/-- what is asked of the trace -/
def wl_T (Y : wk_Y) (h0 : sm_H) (μ : Int) (T : Int → sm_H → Prop) : Prop :=
  (μ = 2 → ∀ zt h, wl_I Y h0 μ T zt h → wk_stk h ≠ [] → 0 ≤ zt → zt < 40000 → ∃ s', wk_pf (mi_a h) (wk_K 2 h) (wk_V 2 h) (wk_stk h, (wk_n 2 h).toNat) = some s' ∧ s'.2 ≤ 100) ∧
  (μ = 0 → ∀ zt h w a r, wl_I Y h0 μ T zt h → 0 ≤ zt → zt < 40000 → wk_stk h = (5, w, a) :: r → 0 ≤ a ∧ a < 100 ∧ wk_V 0 h a.toNat ≤ 1000000 ∧ 0 ≤ wk_V 0 h a.toNat) ∧
  (∀ zt h h', 0 ≤ zt → zt < 40000 → wl_I Y h0 μ T zt h → ab_Sh sx_sk h' → ab_Fr wr_WK h h' → wk_pf (mi_a h) (wk_K μ h') (wk_V μ h') (wk_stk h, (wk_n μ h).toNat) = some (wk_stk h', (wk_n μ h').toNat) → wk_n μ h ≤ wk_n μ h' → wk_ag μ (wk_n μ h) h h' → (μ = 0 → ∀ e r, wk_stk h = e :: r → e.1 ≠ 5 ∧ (e.1 = 0 → mi_a h 122 e.2.1.toNat ≠ 1)) → T (zt + 1) h') ∧
  (μ = 0 → ∀ zt h h' w a r, 0 ≤ zt → zt < 40000 → wl_I Y h0 μ T zt h → ab_Sh sx_sk h' → ab_Fr wr_WK h h' → wk_stk h = (0, w, a) :: r → mi_a h 122 w.toNat = 1 → wk_stk h' = (5, w, wk_n 0 h) :: (2, 0, 0) :: r → wk_n 0 h' = wk_n 0 h + 1 → wk_K 0 h' (wk_n 0 h).toNat = 5 → wk_V 0 h' (wk_n 0 h).toNat = 0 → wk_ag 0 (wk_n 0 h) h h' → T (zt + 1) h') ∧
  (μ = 0 → ∀ zt h h' w a r, 0 ≤ zt → zt < 40000 → wl_I Y h0 μ T zt h → ab_Sh sx_sk h' → ab_Fr wr_WK h h' → wk_stk h = (5, w, a) :: r → wk_stk h' = r → wk_n 0 h' = wk_n 0 h → wk_ag 0 (wk_n 0 h) h h' → T (zt + 1) h') ∧
  (μ = 0 → ∀ zt h h' w a r, 0 ≤ zt → zt < 40000 → wl_I Y h0 μ T zt h → ab_Sh sx_sk h' → ab_Fr wr_WK h h' → wk_stk h = (5, w, a) :: r → wk_stk h' = wk_sS (mi_a h) w ((5, w, a) :: r) → wk_sg (mi_a h) (wk_K 0 h') w ((5, w, a) :: r) (wk_n 0 h).toNat = some (wk_stk h', (wk_n 0 h').toNat) → wk_n 0 h ≤ wk_n 0 h' → (∀ i : Nat, (i : Int) < wk_n 0 h → wk_K 0 h' i = wk_K 0 h i ∧ wk_V 0 h' i = if i = a.toNat then wk_V 0 h i + 1 else wk_V 0 h i) → T (zt + 1) h')
theorem wk_stk_pop {h : sm_H} (h0 : 0 < mi_f h 14029) : wk_stk h = (mi_a h 165 (mi_f h 14029 - 1).toNat, mi_a h 166 (mi_f h 14029 - 1).toNat, mi_a h 167 (mi_f h 14029 - 1).toNat) :: wk_st h (mi_f h 14029 - 1).toNat := by
  unfold wk_stk
  have e : (mi_f h 14029).toNat = (mi_f h 14029 - 1).toNat + 1 := by omega
  rw [e]
  rfl
section WLL
variable {d : Nat} {h0 h h1 : sm_H} {Y : wk_Y} {μ zt : Int} {T : Int → sm_H → Prop}
/-- the top is taken -/
theorem wl_pop (hI : wl_I Y h0 μ T zt h) (ht : 0 < mi_f h 14029) (g1 : ab_Sh sx_sk h1) (g2 : mi_f h1 14029 = mi_f h 14029 - 1) (g3 : ab_Fr [(14029, 14030)] h h1) : wk_stk h = (mi_a h 165 (mi_f h 14029 - 1).toNat, mi_a h 166 (mi_f h 14029 - 1).toNat, mi_a h 167 (mi_f h 14029 - 1).toNat) :: wk_stk h1 ∧ wk_gc (mi_a h) (mi_a h1) ∧ (∀ ν, wk_n ν h1 = wk_n ν h) ∧ wk_ag μ (wk_n μ h) h h1 ∧ wk_K 2 h1 = wk_K 2 h ∧ wk_V 2 h1 = wk_V 2 h ∧ wl_Z h1 = wl_Z h ∧ mi_f h1 14030 = mi_f h 14030 ∧ mi_f h1 14032 = mi_f h 14032 ∧ mi_f h1 14016 = mi_f h 14016 ∧ ((wk_stk h1).length : Int) = mi_f h1 14029 := by
  have i1 := hI.1.1
  have e16 : mi_f h1 14016 = mi_f h 14016 := me_f (c := 14016) g3 i1 rfl rfl
  have e33 : mi_f h1 14033 = mi_f h 14033 := me_f (c := 14033) g3 i1 rfl rfl
  refine ⟨?_, wk_gc_fr g3 i1 rfl, fun ν => by unfold wk_n; rw [e33, e16], wk_ag_fr g3 i1 rfl, (wk_KV2 g3 i1 rfl).1, (wk_KV2 g3 i1 rfl).2, ?_, me_f (c := 14030) g3 i1 rfl rfl, me_f (c := 14032) g3 i1 rfl rfl, e16, wk_stk_len (by omega)⟩
  · rw [wk_stk_pop ht]
    refine congrArg _ ?_
    unfold wk_stk
    rw [g2]
    exact (wk_st_eq _ (fun i _ => ⟨me_a (k := 165) g3 i1 rfl rfl, me_a (k := 166) g3 i1 rfl rfl, me_a (k := 167) g3 i1 rfl rfl⟩)).symm
  · unfold wl_Z
    rw [e16]
    have ea : (fun i => mi_a h1 168 i) = fun i => mi_a h 168 i := funext fun i => me_a (k := 168) g3 i1 rfl rfl
    have eb : (fun i => mi_a h1 169 i) = fun i => mi_a h 169 i := funext fun i => me_a (k := 169) g3 i1 rfl rfl
    rw [ea, eb]
theorem wl_in1 (hI : wl_I Y h0 μ T zt h) (ht : 0 < mi_f h 14029) (g1 : ab_Sh sx_sk h1) (g2 : mi_f h1 14029 = mi_f h 14029 - 1) (g3 : ab_Fr [(14029, 14030)] h h1) (hd : mi_a h 165 (mi_f h 14029 - 1).toNat ≠ 2) : wk_in μ h1 := by
  obtain ⟨e1, -⟩ := wl_pop hI ht g1 g2 g3
  refine wk_in_fr hI.1 g1 g3 rfl (by omega) ?_
  have := hI.1.2.2.2.2.2.2.2.2.2.1
  rw [e1, wk_ul_c hd] at this
  exact this
theorem wl_us {g : wk_g} (hL : wk_L g Y) (hg : wk_gc g (mi_a h)) {w : Int} (h0 : 0 ≤ w) (h1 : w < wk_u Y) : wk_us h w := by
  obtain ⟨-, -, -, a6, -, a8⟩ := hL.2.2.1 w h0 h1
  have := hL.1
  unfold wk_us
  rw [hg 119 (by decide), hg 120 (by decide), hg 115 (by decide)]
  refine ⟨h0, by omega, fun h9 => ?_, a8⟩
  obtain ⟨b1, b2, b3, b4, -⟩ := a6 h9
  exact ⟨b1, b2, b3, b4⟩
theorem wk_L_g {g g' : wk_g} (hL : wk_L g Y) (hg : wk_gc g g') : wk_L g' Y := by
  refine ⟨hL.1, hL.2.1, fun u h0 h1 => ?_, fun f h0 h1 => ?_⟩
  · have := hL.2.2.1 u h0 h1
    unfold wk_Lunit at this ⊢
    rw [hg 124 (by decide), hg 125 (by decide), hg 119 (by decide), hg 120 (by decide), hg 115 (by decide), wk_rf_g hg, hg 124 (by decide)]
    exact this
  · have := hL.2.2.2 f h0 h1
    unfold wk_Lform at this ⊢
    simp only [hg 130 (by decide), hg 129 (by decide), wk_alt_g hg, hg 126 (by decide)]
    exact this
end WLL
/-! the walk's loop, turn by turn -/
def wl_End (Y : wk_Y) (h0 : sm_H) (μ : Int) (T : Int → sm_H → Prop) (w : Option mi_V) (h' : sm_H) : Prop := w = none ∧ ab_Sh sx_sk h' ∧ ab_Fr wr_WK h0 h' ∧ ((mi_f h' 14044 = 1 ∨ (μ = 0 ∧ 0 ≤ mi_f h' 14034)) ∨ ∃ zt, 0 ≤ zt ∧ zt ≤ 40000 ∧ (wk_stk h' = [] ∨ zt = 40000) ∧ wl_I Y h0 μ T zt h')
/-- stopped, or going on -/
def wl_H (Y : wk_Y) (h0 : sm_H) (μ : Int) (T : Int → sm_H → Prop) (zt : Int) (h : sm_H) : Prop := (ab_Sh sx_sk h ∧ ab_Fr wr_WK h0 h ∧ (mi_f h 14044 = 1 ∨ (μ = 0 ∧ 0 ≤ mi_f h 14034))) ∨ wl_I Y h0 μ T zt h
theorem wk_SI_nn {Y : wk_Y} {Z : wk_P} : ∀ (r : List wk_E) (q : Nat) (p l : Int), wk_SI Y Z r q p l → 0 ≤ l := by
  intro r
  induction r with
  | nil => intro q p l h; unfold wk_SI at h; omega
  | cons e r ih =>
    intro q p l h
    unfold wk_SI at h
    rcases h with h | h | h | h | h | h | h | h | h | h
    · exact ih _ _ _ h.2.2.2.2
    · exact ih _ _ _ h.2.2.2.2
    · exact ih _ _ _ h.2.2.2.2
    · exact ih _ _ _ h.2.2.2
    · exact ih _ _ _ h.2.2.2.2
    · exact ih _ _ _ h.2.2.2.2
    · exact ih _ _ _ h.2.2.2
    · exact ih _ _ _ h.2.2.2
    · exact ih _ _ _ h.2.2.2
    · omega
section WLM
variable {d : Nat} {h0 : sm_H} {Y : wk_Y} {μ zh : Int} {T : Int → sm_H → Prop}
theorem wl_247 {zt : Int} {q3 q4 : Option mi_V} {h : sm_H} (oh : mi_in zh) (ot : mi_in zt) (o3 : ∀ v, q3 = some v → mi_ok v) (o4 : ∀ v, q4 = some v → mi_ok v) (h1 : 0 ≤ zt) (h2 : zt ≤ 40000) (hH : wl_H Y h0 μ T zt h) (he : wl_I Y h0 μ T zt h → mi_f h 14029 ≤ 0 ∨ zt = 40000) : me_E (d + 7) 206 247 [some (.inr (.inr 109)), some (.inl zh), some (.inl zt), q3, q4] [] h (wl_End Y h0 μ T) := by
  have hS : ab_Sh sx_sk h := by
    rcases hH with hH | hH
    · exact hH.1
    · exact hH.1.1
  have fin : wl_End Y h0 μ T none h := by
    rcases hH with ⟨k1, k2, k3⟩ | hI
    · exact ⟨rfl, k1, k2, Or.inl k3⟩
    · refine ⟨rfl, hS, hI.2.1, Or.inr ⟨zt, h1, h2, ?_, hI⟩⟩
      rcases he hI with e | e
      · refine Or.inl ?_
        have := hI.1.2.2.2.2.2.2.1
        have e0 : mi_f h 14029 = 0 := by omega
        unfold wk_stk
        rw [e0]
        rfl
      · exact Or.inr e
  refine mt_waE hS oh ot o3 o4 ?_ ?_ ?_ ?_ ?_
  · intro b c h3 r1 r2
    have e3 := me_nil r2
    subst e3
    exact fin
  · intro b1 b2 c1 c2 h3 r1 r2
    have e3 := me_nil r2
    subst e3
    exact fin
  · intro b1 b2 b3 c1 c2 c3 h3 r1 r2
    have e3 := me_nil r2
    subst e3
    exact fin
  · intro b1 b2 b3 b4 c1 c2 c3 c4
    rcases hH with hH | hI
    · exfalso; omega
    · have e0 : μ = 0 := by have := hI.1.2.1; omega
      have ht := hI.1.2.2.2.2.2.1 e0
      have bt := me_fb (c := 14011) hS rfl
      refine ⟨by omega, fun h3 r1 r2 => ?_⟩
      have e3 := me_nil r2
      subst e3
      exact fin
  · intro b1 b2 b3 b4 c1 c2 c3 c4
    rcases hH with hH | hI
    · exfalso; omega
    · have e0 : μ = 0 := by have := hI.1.2.1; omega
      have ht := hI.1.2.2.2.2.2.1 e0
      have bt := me_fb (c := 14011) hS rfl
      have bf := me_ab (k := 153) (i := (mi_f h 14033).toNat) hS rfl (by decide) (by omega)
      refine ⟨by omega, fun h3 r1 r2 r3 => ?_⟩
      exact ⟨rfl, r1, hI.2.1.trans (r3.wide (fun c hc => ab_swr_ok (by decide) hc)), Or.inl (Or.inr (by rw [r2]; exact ⟨e0, bf.1⟩))⟩
/-- made nodes never become fewer -/
theorem wl_made {h h' : sm_H} (hn : wk_n μ h ≤ wk_n μ h') (hm : μ = 2 → mi_f h' 14016 = mi_f h 14016) : mi_f h 14016 ≤ mi_f h' 14016 := by
  by_cases e : μ = 2
  · rw [hm e]
    exact Int.le_refl _
  · unfold wk_n at hn
    rw [if_neg e, if_neg e] at hn
    exact hn
theorem wl_unit {zt w a : Int} {h h1 h' : sm_H} {r : List wk_E} (hT : wl_T Y h0 μ T) (hL : wk_L (mi_a h) Y) (hI : wl_I Y h0 μ T zt h) (z0 : 0 ≤ zt) (z1 : zt < 40000) (ht : 0 < mi_f h 14029) (g1 : ab_Sh sx_sk h1) (g2 : mi_f h1 14029 = mi_f h 14029 - 1) (g3 : ab_Fr [(14029, 14030)] h h1) (hst : wk_stk h = (0, w, a) :: wk_stk h1) (ha : a = 0 ∨ a = 1) (q1 : ab_Sh sx_sk h') (q2 : ab_Fr wr_W2 h1 h') (q3 : un_R μ w a h1 h') (q4 : mi_f h' 14030 = mi_f h1 14030 + a) (q5 : ∀ i, mi_a h' 168 i = if a = 1 ∧ i = (mi_f h1 14030).toNat then mi_f h1 14016 else mi_a h1 168 i) (q6 : ∀ i, mi_a h' 169 i = mi_a h1 169 i) : wl_I Y h0 μ T (zt + 1) h' := by
  obtain ⟨-, hg, hn, hag, hK2, hV2, hZ, e30, e32, e16, hlen⟩ := wl_pop hI ht g1 g2 g3
  obtain ⟨r1, r2, r3, r4, r5, r6, r7, r8, r9, r10, r11, r12, r13⟩ := q3
  rw [hn] at r5 r6 r12 r13
  rw [hg 122 (by decide)] at r12 r13
  rw [wk_pf_g hg] at r13
  have hF1 : ab_Fr wr_WK h h' := (g3.wide (fun c hc => ab_swr_ok (by decide) hc)).trans (q2.wide (fun c hc => ab_swr_ok (by decide) hc))
  have hag' : wk_ag μ (wk_n μ h) h h' := hag.trans r6 (Int.le_refl _)
  have i3 := hI.1.2.2.1
  have hSI := hI.2.2.1
  rw [hst] at hSI
  have hm : mi_f h 14016 ≤ mi_f h' 14016 := wl_made r5 (fun e => (r7 e).trans e16)
  have b16 := me_fb (c := 14016) hI.1.1 rfl
  -- below the unit
  have base : wk_U Y w ((wk_stk h1).length : Int) (mi_f h 14030) (mi_f h 14032) (1 - a) ∧ wk_SI Y (wl_Z h') (wk_stk h1) 0 (mi_f h 14030 + a) (mi_f h 14032) := by
    rcases ha with rfl | rfl
    · obtain ⟨u1, u2⟩ := wk_unit0 hSI
      refine ⟨u1, ?_⟩
      rw [Int.add_zero]
      refine wk_SI_Z _ _ _ _ u2 (fun i _ => ⟨?_, ?_⟩) hm
      · show mi_a h' 168 i = mi_a h 168 i
        rw [q5, if_neg (fun e => by omega)]
        exact me_a (k := 168) g3 hI.1.1 rfl rfl
      · show mi_a h' 169 i = mi_a h 169 i
        rw [q6]
        exact me_a (k := 169) g3 hI.1.1 rfl rfl
    · obtain ⟨u1, u2⟩ := wk_unit1 hSI
      have hp := u1.2.2.2.1
      refine ⟨u1, wk_open (wk_SI_Z (Z' := wl_Z h') _ _ _ _ u2 (fun i hi => ⟨?_, ?_⟩) hm) ?_⟩
      · show mi_a h' 168 i = mi_a h 168 i
        rw [if_neg (by decide)] at hi
        rw [q5, if_neg (fun e => by omega)]
        exact me_a (k := 168) g3 hI.1.1 rfl rfl
      · show mi_a h' 169 i = mi_a h 169 i
        rw [q6]
        exact me_a (k := 169) g3 hI.1.1 rfl rfl
      · have ei : (mi_f h 14030 + 1 - 1).toNat = (mi_f h1 14030).toNat := by omega
        show 0 ≤ mi_a h' 168 (mi_f h 14030 + 1 - 1).toNat ∧ mi_a h' 168 (mi_f h 14030 + 1 - 1).toNat ≤ mi_f h' 14016
        rw [ei, q5, if_pos ⟨rfl, rfl⟩]
        omega
  obtain ⟨⟨u1, u2, u3, u4, u5, u6, u7⟩, hb⟩ := base
  have hb0 : (0 : Int) ≤ mi_f h 14030 + a := by omega
  have hb1 : mi_f h 14030 + a ≤ 5 * (mi_f h 14032 - 1) + wk_d Y (wk_c Y w) + 1 := by omega
  have hSI' : wk_SI Y (wl_Z h') (wk_stk h') 0 (mi_f h' 14030) (mi_f h' 14032) := by
    rw [q4, e30]
    by_cases hw : mi_a h 122 w.toNat = 1
    · obtain ⟨s1, -⟩ := r12 hw
      rw [r8, s1, wk_ul_c (by decide), wk_ul_o, wk_SI_ul _ _ _ _ hb, Int.zero_add]
      exact wl_A u1 u2 u3 hb0 hb1 u6 u7 hb
    · rw [r8]
      exact wl_B hL u1 u2 u3 hb0 hb1 u6 u7 hb hw (r13 hw) (by omega)
  refine ⟨⟨q1, r1, i3, r2, r3, r4, by omega, wk_SI_nn _ _ _ _ hSI', r9, r8.symm, ?_⟩, hI.2.1.trans hF1, hSI', ?_, ?_⟩
  · have := hI.1.2.2.2.2.2.2.2.2.2.2
    omega
  · by_cases hw : mi_a h 122 w.toNat = 1
    · obtain ⟨s1, s2, s3, s4, s5, s6⟩ := r12 hw
      by_cases e0 : μ = 0
      · subst e0
        rw [if_pos rfl] at s1
        exact hT.2.2.2.1 rfl zt h h' w a (wk_stk h1) z0 z1 hI q1 hF1 hst hw s1 s2 s3 (s6 rfl) hag'
      · rw [if_neg e0] at s1
        refine hT.2.2.1 zt h h' z0 z1 hI q1 hF1 ?_ r5 hag' (fun e => absurd e e0)
        have i11 := hI.1.2.2.2.2.2.2.2.2.2.2
        have e1 : (wk_n μ h').toNat = (wk_n μ h).toNat + 1 := by omega
        unfold wk_pf
        rw [hst]
        dsimp only
        rw [if_pos rfl, if_pos hw, if_pos ⟨s3, s4, s5⟩, s1, e1]
    · refine hT.2.2.1 zt h h' z0 z1 hI q1 hF1 (by rw [hst]; exact r13 hw) r5 hag' (fun _ e rr her => ?_)
      rw [hst] at her
      cases her
      exact ⟨show (0 : Int) ≠ 5 from by decide, fun _ => hw⟩
  · obtain ⟨⟨a1, -, -, a4, a5⟩, -⟩ := hL.2.2.1 w u1 u2
    have := (hL.2.2.2 _ a4 a5).2.1
    omega
end WLM
/-! the walk's loop: forms, agains, the others -/
section WLN
variable {d : Nat} {h0 : sm_H} {Y : wk_Y} {μ zh : Int} {T : Int → sm_H → Prop}
theorem wl_SIz {h h1 h' : sm_H} {r : List wk_E} {q : Nat} {p l : Int} {wr : List (Nat × Nat)} (hs : wk_SI Y (wl_Z h) r q p l) (hS : ab_Sh sx_sk h) (g3 : ab_Fr [(14029, 14030)] h h1) (hS1 : ab_Sh sx_sk h1) (q2 : ab_Fr wr h1 h') (hw : (ab_in wr 21504 || ab_in wr 21632) = false) (hm : mi_f h 14016 ≤ mi_f h' 14016) : wk_SI Y (wl_Z h') r q p l := by
  simp only [Bool.or_eq_false_iff] at hw
  refine wk_SI_Z _ _ _ _ hs (fun i _ => ⟨?_, ?_⟩) hm
  · show mi_a h' 168 i = mi_a h 168 i
    rw [me_a (k := 168) q2 hS1 rfl hw.1]
    exact me_a (k := 168) g3 hS rfl rfl
  · show mi_a h' 169 i = mi_a h 169 i
    rw [me_a (k := 169) q2 hS1 rfl hw.2]
    exact me_a (k := 169) g3 hS rfl rfl
theorem wl_form {zt f a : Int} {h h1 h' : sm_H} (hT : wl_T Y h0 μ T) (hL : wk_L (mi_a h) Y) (hI : wl_I Y h0 μ T zt h) (z0 : 0 ≤ zt) (z1 : zt < 40000) (ht : 0 < mi_f h 14029) (g1 : ab_Sh sx_sk h1) (g2 : mi_f h1 14029 = mi_f h 14029 - 1) (g3 : ab_Fr [(14029, 14030)] h h1) (hst : wk_stk h = (1, f, a) :: wk_stk h1) (hq : ch_Q μ f h1 none h') : wl_H Y h0 μ T (zt + 1) h' := by
  obtain ⟨-, hg, hn, hag, hK2, hV2, hZ, e30, e32, e16, hlen⟩ := wl_pop hI ht g1 g2 g3
  obtain ⟨-, q1, q2, q3⟩ := hq
  have hF1 : ab_Fr wr_WK h h' := (g3.wide (fun c hc => ab_swr_ok (by decide) hc)).trans (q2.wide (fun c hc => ab_swr_ok (by decide) hc))
  rcases q3 with q3 | ⟨r1, r2, r3, r4, r5, r6, r7, r8, r9, j, hj, r10⟩
  · exact Or.inl ⟨q1, hI.2.1.trans hF1, q3⟩
  · rw [hn] at r5 r6 r10
    rw [hg 130 (by decide)] at hj r10
    rw [hg 129 (by decide), wk_alt_g hg, hg 126 (by decide), wk_it_g hg, hg 126 (by decide), wk_it_g hg] at r10
    have hag' : wk_ag μ (wk_n μ h) h h' := hag.trans r6 (Int.le_refl _)
    have hSI := hI.2.2.1
    rw [hst] at hSI
    have hm : mi_f h 14016 ≤ mi_f h' 14016 := wl_made r5 (fun e => (r7 e).trans e16)
    obtain ⟨f1, f2⟩ := wk_form hSI
    have f2' := wl_SIz f2 hI.1.1 g3 g1 q2 rfl hm
    obtain ⟨d1, d2, d3⟩ := wl_D hL f1 f2' hj
    have i10 := hI.1.2.2.2.2.2.2.2.2.2.1
    have i11 := hI.1.2.2.2.2.2.2.2.2.2.2
    rw [hst, wk_ul_c (by decide)] at i10
    have ep : mi_f h' 14030 = mi_f h 14030 := (me_f (c := 14030) q2 g1 rfl rfl).trans e30
    have hSI' : wk_SI Y (wl_Z h') (wk_stk h') 0 (mi_f h' 14030) (mi_f h' 14032) := by
      rw [ep, r8, e32]
      rcases r10 with ⟨s1, s2, -⟩ | ⟨s1, s2, s3, -⟩
      · rw [s2]; exact d3
      · subst s2
        rw [s3]; exact d2
    have eu : wk_ul (wk_stk h') = mi_f h' 14032 := wk_SI_ul _ _ _ _ hSI'
    refine Or.inr ⟨⟨q1, r1, hI.1.2.2.1, r2, r3, r4, r9, wk_SI_nn _ _ _ _ hSI', by rw [r8, e32]; exact hI.1.2.2.2.2.2.2.2.2.1, eu, by omega⟩, hI.2.1.trans hF1, hSI', ?_, ?_⟩
    rotate_left
    · have e := wk_stk_len r9
      have hp60 := hI.2.2.2.2.2
      rcases r10 with ⟨s1, s2, -⟩ | ⟨s1, s2, s3, -⟩
      · rw [s2, List.length_append, List.length_cons] at e
        omega
      · subst s2
        rw [s3, List.length_append] at e
        have d1' : ((wk_it (mi_a h) 61 (mi_a h 126 (mi_a h 129 f.toNat).toNat)).length : Int) + ((wk_stk h1).length : Int) + 1 ≤ 2999 := d1
        omega
    refine hT.2.2.1 zt h h' z0 z1 hI q1 hF1 ?_ r5 hag' (fun _ e rr her => ?_)
    · unfold wk_pf
      rw [hst]
      dsimp only
      rw [if_neg (by decide), if_pos rfl]
      rcases r10 with ⟨s1, s2, s3, s4, s5⟩ | ⟨s1, s2, s3, s4⟩
      · have e1 : (wk_n μ h').toNat = (wk_n μ h).toNat + 1 := by omega
        rw [if_pos s1, if_pos ⟨s4, by rw [s5]; omega, by rw [s5]; exact hj⟩, s5, s2, e1]
        rfl
      · rw [if_neg s1, s3, s4]
    · rw [hst] at her
      cases her
      exact ⟨show (1 : Int) ≠ 5 from by decide, fun e => absurd (show (1 : Int) = 0 from e) (by decide)⟩
theorem wl_again {zt w a : Int} {h h1 h' : sm_H} (hT : wl_T Y h0 μ T) (hL : wk_L (mi_a h) Y) (hI : wl_I Y h0 μ T zt h) (z0 : 0 ≤ zt) (z1 : zt < 40000) (ht : 0 < mi_f h 14029) (g1 : ab_Sh sx_sk h1) (g2 : mi_f h1 14029 = mi_f h 14029 - 1) (g3 : ab_Fr [(14029, 14030)] h h1) (hst : wk_stk h = (5, w, a) :: wk_stk h1) (hi1 : wk_in μ h1) (hq : ag_Q μ w a h1 none h') : wl_H Y h0 μ T (zt + 1) h' := by
  obtain ⟨-, hg, hn, hag, hK2, hV2, hZ, e30, e32, e16, hlen⟩ := wl_pop hI ht g1 g2 g3
  obtain ⟨-, q1, q2, q3⟩ := hq
  have hF1 : ab_Fr wr_WK h h' := (g3.wide (fun c hc => ab_swr_ok (by decide) hc)).trans (q2.wide (fun c hc => ab_swr_ok (by decide) hc))
  have hSI := hI.2.2.1
  rw [hst] at hSI
  obtain ⟨f1, f2⟩ := wk_again hSI
  have i11 := hI.1.2.2.2.2.2.2.2.2.2.2
  rcases q3 with q3 | ⟨rfl, q4⟩ | ⟨r1, r2, r3, r4, r5, r6, r7, r8, r9, r10, r11, r12, r13, r14⟩
  · exact Or.inl ⟨q1, hI.2.1.trans hF1, q3⟩
  · have hb29 := hI.2.2.2.2.1
    have hb30 := hI.2.2.2.2.2
    refine Or.inr ⟨hi1, hI.2.1.trans hF1, by rw [hZ, e30, e32]; exact f2, ?_, by omega⟩
    by_cases e0 : μ = 0
    · subst e0
      exact hT.2.2.2.2.1 rfl zt h h' w a (wk_stk h') z0 z1 hI q1 hF1 hst rfl (hn 0) hag
    · refine hT.2.2.1 zt h h' z0 z1 hI q1 hF1 ?_ (by rw [hn]; exact Int.le_refl _) hag (fun e => absurd e e0)
      have := q4 e0
      unfold wk_pf
      rw [hst]
      dsimp only
      rw [if_neg (by decide), if_neg (by decide), if_pos rfl, if_neg (by omega), hn]
  · rw [hn] at r6 r7 r14
    rw [wk_sS_g hg] at r11
    rw [wk_sg_g hg] at r14
    have hm : mi_f h 14016 ≤ mi_f h' 14016 := wl_made r6 (fun e => (r8 e).trans e16)
    have f2' := wl_SIz f2 hI.1.1 g3 g1 q2 rfl hm
    have ep : mi_f h' 14030 = mi_f h 14030 := (me_f (c := 14030) q2 g1 rfl rfl).trans e30
    have hSI' : wk_SI Y (wl_Z h') (wk_stk h') 0 (mi_f h' 14030) (mi_f h' 14032) := by
      rw [ep, r9, r11]
      exact wl_C hL f1 f2' (by rw [← r11, ← r9]; exact r10)
    have hag1 : ∀ i : Nat, (i : Int) < wk_n μ h → wk_K μ h1 i = wk_K μ h i ∧ wk_V μ h1 i = wk_V μ h i := hag
    refine Or.inr ⟨⟨q1, r1, hI.1.2.2.1, r2, r3, r4, by omega, wk_SI_nn _ _ _ _ hSI', r10, r9.symm, by omega⟩, hI.2.1.trans hF1, hSI', ?_, ?_⟩
    rotate_left
    · have hp60 := hI.2.2.2.2.2
      obtain ⟨a1, a2, a3, a4, a5, a6, a7⟩ := f1
      obtain ⟨⟨b1, -⟩, -⟩ := hL.2.2.1 w a1 a2
      omega
    by_cases e0 : μ = 0
    · subst e0
      rw [if_pos rfl] at r11 r14
      refine hT.2.2.2.2.2 rfl zt h h' w a (wk_stk h1) z0 z1 hI q1 hF1 hst r11 r14 r6 (fun i hi => ?_)
      obtain ⟨x1, x2⟩ := r7 i hi
      obtain ⟨y1, y2⟩ := hag1 i hi
      refine ⟨x1.trans y1, x2.trans ?_⟩
      rw [y2]
      by_cases e : i = a.toNat
      · rw [if_pos ⟨rfl, e⟩, if_pos e]
      · rw [if_neg (fun z => e z.2), if_neg e]
    · rw [if_neg e0] at r11 r14
      have hag' : wk_ag μ (wk_n μ h) h h' := fun i hi => by
        obtain ⟨x1, x2⟩ := r7 i hi
        obtain ⟨y1, y2⟩ := hag1 i hi
        rw [if_neg (fun z => e0 z.1)] at x2
        exact ⟨x1.trans y1, x2.trans y2⟩
      refine hT.2.2.1 zt h h' z0 z1 hI q1 hF1 ?_ r6 hag' (fun e => absurd e e0)
      unfold wk_pf
      rw [hst]
      dsimp only
      rw [if_neg (by decide), if_neg (by decide), if_pos rfl, if_pos (r5 e0)]
      exact r14
/-- what only takes the top away -/
theorem wl_rest {zt e0 w a : Int} {h h' : sm_H} {r : List wk_E} {wr : List (Nat × Nat)} (hT : wl_T Y h0 μ T) (hI : wl_I Y h0 μ T zt h) (z0 : 0 ≤ zt) (z1 : zt < 40000) (ht : 0 < mi_f h 14029) (g2 : mi_f h' 14029 = mi_f h 14029 - 1) (hst : wk_stk h = (e0, w, a) :: r) (he : e0 = 2 ∨ e0 = 3 ∨ e0 = 4) (q1 : ab_Sh sx_sk h') (q2 : ab_Fr wr h h') (hw : ab_sub_wr wr [(14029, 14033), (18560, 18561), (20480, 20481), (21632, 21633)] = true) (hSI' : wk_SI Y (wl_Z h') r 0 (mi_f h' 14030) (mi_f h' 14032)) (hu : mi_f h' 14032 ≤ 12) (hp : mi_f h' 14030 ≤ 60) : wl_I Y h0 μ T (zt + 1) h' := by
  have i1 := hI.1.1
  have q2 := q2.wide (fun c hc => ab_swr_ok hw hc)
  have hF1 : ab_Fr wr_WK h h' := q2.wide (fun c hc => ab_swr_ok (by decide) hc)
  have est : wk_stk h' = r := by
    rw [wk_stk_pop ht] at hst
    have e := (List.cons.inj hst).2
    rw [← e]
    unfold wk_stk
    rw [g2]
    exact wk_st_eq _ (fun i _ => ⟨me_a (k := 165) q2 i1 rfl rfl, me_a (k := 166) q2 i1 rfl rfl, me_a (k := 167) q2 i1 rfl rfl⟩)
  have hne : wk_ne μ h h' := wk_ne_fr q2 i1 rfl
  have en := wk_ne_n hne
  have i6 := hI.1.2.2.2.2.2.1
  have i11 := hI.1.2.2.2.2.2.2.2.2.2.2
  rw [← est] at hSI'
  refine ⟨⟨q1, ?_, hI.1.2.2.1, ?_, ?_, fun e => ?_, by omega, wk_SI_nn _ _ _ _ hSI', hu, wk_SI_ul _ _ _ _ hSI', by rw [en]; exact i11⟩, hI.2.1.trans hF1, hSI', ?_, by have := hI.2.2.2.2.1; omega, hp⟩
  · rw [me_f (c := 14028) q2 i1 rfl rfl]
    exact hI.1.2.1
  · rw [me_f (c := 14044) q2 i1 rfl rfl]
    exact hI.1.2.2.2.1
  · rw [me_f (c := 14034) q2 i1 rfl rfl]
    exact hI.1.2.2.2.2.1
  · rw [hne.1, me_f (c := 14011) q2 i1 rfl rfl, me_a (k := 152) q2 i1 rfl rfl]
    exact i6 e
  · refine hT.2.2.1 zt h h' z0 z1 hI q1 hF1 ?_ (by rw [en]; exact Int.le_refl _) hne.2.2 (fun _ e rr her => ?_)
    · unfold wk_pf
      rw [hst]
      dsimp only
      rw [if_neg (by omega), if_neg (by omega), if_neg (by omega), est, en]
    · rw [hst] at her
      cases her
      exact ⟨show e0 ≠ 5 from by omega, fun e => by have e : e0 = 0 := e; omega⟩
end WLN
/-! the walk -/
section WLO
variable {d : Nat} {h0 : sm_H} {Y : wk_Y} {μ zh : Int} {T : Int → sm_H → Prop}
/-- a unit on the top -/
theorem wl_u {h h1 : sm_H} {zt w a : Int} (hT : wl_T Y h0 μ T) (hL : wk_L (mi_a h) Y) (hI : wl_I Y h0 μ T zt h) (z0 : 0 ≤ zt) (z1 : zt < 40000) (ht : 0 < mi_f h 14029) (g1 : ab_Sh sx_sk h1) (g2 : mi_f h1 14029 = mi_f h 14029 - 1) (g3 : ab_Fr [(14029, 14030)] h h1) (e0 : mi_a h 165 (mi_f h 14029 - 1).toNat = 0) (ew : mi_a h 166 (mi_f h 14029 - 1).toNat = w) (ea : mi_a h 167 (mi_f h 14029 - 1).toNat = a) (ha : a = 0 ∨ a = 1) : me_E (d + 6) 210 0 [some (.inr (.inr 109)), some (.inl w), some (.inl a), none, none] [] h1 (fun v h' => v = none ∧ wl_H Y h0 μ T (zt + 1) h') := by
  obtain ⟨e1, hg, hn, hag, hK2, hV2, hZ, e30, e32, e16, hlen⟩ := wl_pop hI ht g1 g2 g3
  rw [e0, ew, ea] at e1
  have hSI := hI.2.2.1
  rw [e1] at hSI
  have hU : wk_U Y w ((wk_stk h1).length : Int) (mi_f h 14030) (mi_f h 14032) (1 - a) := by
    rcases ha with rfl | rfl
    · exact (wk_unit0 hSI).1
    · exact (wk_unit1 hSI).1
  obtain ⟨u1, u2, u3, u4, u5, u6, u7⟩ := hU
  obtain ⟨⟨a1, -, -, a4, a5⟩, -⟩ := hL.2.2.1 w u1 u2
  have hd := (hL.2.2.2 _ a4 a5).2.1
  refine (me_unit (wl_in1 hI ht g1 g2 g3 (by omega)) (wl_us hL hg u1 u2) (by omega) ha (fun z => by omega) (fun e => ?_)).imp (fun v h' hq => ?_)
  · obtain ⟨s', x1, x2⟩ := hT.1 e zt h hI (by rw [e1]; intro z; cases z) z0 z1
    refine ⟨s', ?_, x2⟩
    rw [wk_pf_g hg, hK2, hV2, hn, ← e1]
    exact x1
  · obtain ⟨q1, q2, q3, q4⟩ := hq
    refine ⟨q1, ?_⟩
    rcases q4 with q4 | ⟨q4, q5, q6, q7⟩
    · exact Or.inl ⟨q2, (hI.2.1.trans (g3.wide (fun c hc => ab_swr_ok (by decide) hc))).trans (q3.wide (fun c hc => ab_swr_ok (by decide) hc)), q4⟩
    · exact Or.inr (wl_unit (r := []) hT hL hI z0 z1 ht g1 g2 g3 e1 ha q2 q3 q4 q5 q6 q7)
theorem wl_f {h h1 : sm_H} {zt f a : Int} (hT : wl_T Y h0 μ T) (hL : wk_L (mi_a h) Y) (hI : wl_I Y h0 μ T zt h) (z0 : 0 ≤ zt) (z1 : zt < 40000) (ht : 0 < mi_f h 14029) (g1 : ab_Sh sx_sk h1) (g2 : mi_f h1 14029 = mi_f h 14029 - 1) (g3 : ab_Fr [(14029, 14030)] h h1) (e0 : mi_a h 165 (mi_f h 14029 - 1).toNat = 1) (ew : mi_a h 166 (mi_f h 14029 - 1).toNat = f) (ea : mi_a h 167 (mi_f h 14029 - 1).toNat = a) : me_E (d + 6) 223 0 [some (.inr (.inr 109)), some (.inl f), none, none, none, none] [] h1 (fun v h' => v = none ∧ wl_H Y h0 μ T (zt + 1) h') := by
  obtain ⟨e1, hg, hn, hag, hK2, hV2, hZ, e30, e32, e16, hlen⟩ := wl_pop hI ht g1 g2 g3
  rw [e0, ew, ea] at e1
  have hSI := hI.2.2.1
  rw [e1] at hSI
  obtain ⟨hF, hb⟩ := wk_form hSI
  have hL1 : wk_L (mi_a h1) Y := wk_L_g hL hg
  obtain ⟨f1, f2, -⟩ := id hF
  obtain ⟨d1, d2, d3, d4, dB, d5⟩ := hL1.2.2.2 f f1 f2
  have hf80 := hL.2.1
  refine (me_choose (wl_in1 hI ht g1 g2 g3 (by omega)) f1 (by omega) ⟨d3, d4, fun j hj => ⟨(d5 j hj).1, (d5 j hj).2.1⟩⟩ (wk_L_C hL1) (fun j hj => ?_) (fun j hj => ?_) (fun e hc => ?_)).imp (fun v h' hq => ?_)
  · rcases (d5 j hj).2.2 with x | x
    · exact Or.inl x
    · exact Or.inr x.1
  · have := (wl_D hL1 hF hb hj).1
    omega
  · obtain ⟨s', x1, x2⟩ := hT.1 e zt h hI (by rw [e1]; intro z; cases z) z0 z1
    rw [e1] at x1
    unfold wk_pf at x1
    dsimp only at x1
    rw [hg 130 (by decide)] at hc
    rw [if_neg (by decide), if_pos rfl, if_pos hc] at x1
    rw [hK2, hV2, hn, hg 130 (by decide)]
    have i11 := hI.1.2.2.2.2.2.2.2.2.2.2
    rw [e] at i11
    split at x1
    · rename_i hk
      cases x1
      have x2 : (wk_n 2 h).toNat + 1 ≤ 100 := x2
      exact ⟨hk.1, hk.2.1, hk.2.2, by omega⟩
    · cases x1
  · have hv := hq.1
    subst hv
    exact ⟨rfl, wl_form hT hL hI z0 z1 ht g1 g2 g3 e1 hq⟩
theorem wl_a {h h1 : sm_H} {zt w a : Int} (hT : wl_T Y h0 μ T) (hL : wk_L (mi_a h) Y) (hI : wl_I Y h0 μ T zt h) (z0 : 0 ≤ zt) (z1 : zt < 40000) (ht : 0 < mi_f h 14029) (g1 : ab_Sh sx_sk h1) (g2 : mi_f h1 14029 = mi_f h 14029 - 1) (g3 : ab_Fr [(14029, 14030)] h h1) (e0 : mi_a h 165 (mi_f h 14029 - 1).toNat = 5) (ew : mi_a h 166 (mi_f h 14029 - 1).toNat = w) (ea : mi_a h 167 (mi_f h 14029 - 1).toNat = a) : me_E (d + 6) 227 0 [some (.inr (.inr 109)), some (.inl w), some (.inl a), none] [] h1 (fun v h' => v = none ∧ wl_H Y h0 μ T (zt + 1) h') := by
  obtain ⟨e1, hg, hn, hag, hK2, hV2, hZ, e30, e32, e16, hlen⟩ := wl_pop hI ht g1 g2 g3
  rw [e0, ew, ea] at e1
  have oa : mi_in a := by rw [← ea]; exact mi_inT _
  have hSI := hI.2.2.1
  rw [e1] at hSI
  obtain ⟨⟨u1, u2, u3, u4, u5, u6, u7⟩, hb⟩ := wk_again hSI
  obtain ⟨⟨a1, -⟩, -⟩ := hL.2.2.1 w u1 u2
  have hi1 : wk_in μ h1 := wl_in1 hI ht g1 g2 g3 (by omega)
  have p0 : μ = 0 → 0 ≤ a ∧ a < 100 ∧ wk_V 0 h a.toNat ≤ 1000000 ∧ 0 ≤ wk_V 0 h a.toNat := fun e => hT.2.1 e zt h w a _ hI z0 z1 e1
  have eV0 : wk_V 0 h1 a.toNat = wk_V 0 h a.toNat := by
    unfold wk_V
    rw [if_neg (by decide), if_neg (by decide), me_b (k := 163) g3 hI.1.1 rfl rfl]
  refine (me_again hi1 (wl_us hL hg u1 u2) (by omega) oa (fun e => ⟨(p0 e).1, (p0 e).2.1⟩) (fun e => ?_) (fun e hz => ?_)).imp (fun v h' hq => ?_)
  · rw [eV0]
    exact (p0 e).2.2
  · obtain ⟨s', x1, x2⟩ := hT.1 e zt h hI (by rw [e1]; intro z; cases z) z0 z1
    refine ⟨s', ?_, x2⟩
    rw [wk_sg_g hg, hK2, hn]
    rw [e1] at x1
    unfold wk_pf at x1
    dsimp only at x1
    rw [if_neg (by decide), if_neg (by decide), if_pos rfl, if_pos hz] at x1
    exact x1
  · have hv := hq.1
    subst hv
    exact ⟨rfl, wl_again hT hL hI z0 z1 ht g1 g2 g3 e1 hi1 hq⟩
theorem wl_loop (hT : wl_T Y h0 μ T) (hL0 : wk_L (mi_a h0) Y) (hS0 : ab_Sh sx_sk h0) (oh : mi_in zh) : ∀ (N : Nat) (zt : Int) (q3 q4 : Option mi_V) (h : sm_H), 40000 - zt < N → 0 ≤ zt → zt ≤ 40000 → (∀ v, q3 = some v → mi_ok v) → (∀ v, q4 = some v → mi_ok v) → wl_H Y h0 μ T zt h → me_E (d + 7) 206 52 [some (.inr (.inr 109)), some (.inl zh), some (.inl zt), q3, q4] [] h (wl_End Y h0 μ T) := by
  intro N
  induction N with
  | zero => intro zt q3 q4 h hN z0 z1; exfalso; omega
  | succ N ih =>
    intro zt q3 q4 h hN z0 z1 o3 o4 hH
    have ot : mi_in zt := ⟨by omega, by omega⟩
    have hS : ab_Sh sx_sk h := by
      rcases hH with hH | hH
      · exact hH.1
      · exact hH.1.1
    have toI : mi_f h 14034 < 0 → mi_f h 14044 = 0 → wl_I Y h0 μ T zt h := fun a b => by
      rcases hH with hH | hH
      · exfalso
        have := hH.2.2
        omega
      · exact hH
    have o2 : ∀ x : Int32, ∀ v : mi_V, some (Sum.inl x.toInt : mi_V) = some v → mi_ok v := fun x v e => by
      cases e
      exact mi_inT x
    have nx : ∀ (x y : Int32) (h' : sm_H), zt < 40000 → wl_H Y h0 μ T (zt + 1) h' → ab_Sh sx_sk h' ∧ me_E (d + 7) 206 52 [some (.inr (.inr 109)), some (.inl zh), some (.inl (zt + 1)), some (.inl x.toInt), some (.inl y.toInt)] [] h' (wl_End Y h0 μ T) := fun x y h' hlt hq => by
      refine ⟨?_, ih (zt + 1) _ _ h' (by omega) (by omega) (by omega) (o2 x) (o2 y) hq⟩
      rcases hq with hq | hq
      · exact hq.1
      · exact hq.1.1
    have nx175 : ∀ (x y : Int32) (h' : sm_H), zt < 40000 → wl_H Y h0 μ T (zt + 1) h' → me_E (d + 7) 206 175 [some (.inr (.inr 109)), some (.inl zh), some (.inl zt), some (.inl x.toInt), some (.inl y.toInt)] [] h' (wl_End Y h0 μ T) := fun x y h' hlt hq => mt_wb175 (nx x y h' hlt hq).1 oh ot (mi_inT x) (mi_inT y) ⟨by omega, fun h3 r1 r2 => by
      have e3 := me_nil r2
      subst e3
      exact (nx x y _ hlt hq).2⟩
    have nx183 : ∀ (x y : Int32) (h' : sm_H), zt < 40000 → wl_H Y h0 μ T (zt + 1) h' → me_E (d + 7) 206 183 [some (.inr (.inr 109)), some (.inl zh), some (.inl zt), some (.inl x.toInt), some (.inl y.toInt)] [] h' (wl_End Y h0 μ T) := fun x y h' hlt hq => mt_wb183 (nx x y h' hlt hq).1 oh ot (mi_inT x) (mi_inT y) ⟨by omega, fun h3 r1 r2 => by
      have e3 := me_nil r2
      subst e3
      exact (nx x y _ hlt hq).2⟩
    have nx208 : ∀ (x y : Int32) (h' : sm_H), zt < 40000 → wl_H Y h0 μ T (zt + 1) h' → me_E (d + 7) 206 208 [some (.inr (.inr 109)), some (.inl zh), some (.inl zt), some (.inl x.toInt), some (.inl y.toInt)] [] h' (wl_End Y h0 μ T) := fun x y h' hlt hq => mt_wb208 (nx x y h' hlt hq).1 oh ot (mi_inT x) (mi_inT y) ⟨by omega, fun h3 r1 r2 => by
      have e3 := me_nil r2
      subst e3
      exact (nx x y _ hlt hq).2⟩
    have nx218 : ∀ (x y : Int32) (h' : sm_H), zt < 40000 → wl_H Y h0 μ T (zt + 1) h' → me_E (d + 7) 206 218 [some (.inr (.inr 109)), some (.inl zh), some (.inl zt), some (.inl x.toInt), some (.inl y.toInt)] [] h' (wl_End Y h0 μ T) := fun x y h' hlt hq => mt_wb218 (nx x y h' hlt hq).1 oh ot (mi_inT x) (mi_inT y) ⟨by omega, fun h3 r1 r2 => by
      have e3 := me_nil r2
      subst e3
      exact (nx x y _ hlt hq).2⟩
    refine mt_waC hS oh ot o3 o4 ?_ ?_ ?_ ?_ ?_ ?_ ?_ ?_ ?_ ?_ ?_ ?_
    · intro c h1 g1 g2
      have e1 := me_nil g2
      subst e1
      exact wl_247 oh ot o3 o4 z0 z1 hH (fun _ => Or.inr (by omega))
    · intro b1 c1 c2 h1 g1 g2
      have e1 := me_nil g2
      subst e1
      exact wl_247 oh ot o3 o4 z0 z1 hH (fun _ => Or.inl c2)
    · intro b1 b2 c1 c2 c3 h1 g1 g2
      have e1 := me_nil g2
      subst e1
      exact wl_247 oh ot o3 o4 z0 z1 hH (fun hI => by have := hI.1.2.2.2.2.1; omega)
    · intro b1 b2 b3 c1 c2 c3 c4 h1 g1 g2
      have e1 := me_nil g2
      subst e1
      exact wl_247 oh ot o3 o4 z0 z1 hH (fun hI => by have := hI.1.2.2.2.1; omega)
    · intro b1 b2 b3 c1 c2 c3 c4 s k
      have hI := toI c3 c4
      have hL : wk_L (mi_a h) Y := wk_L_g hL0 (wk_gc_fr hI.2.1 hS0 rfl)
      have hb29 := hI.2.2.2.2.1
      have htop := hI.2.2.1
      rw [wk_stk_pop c2] at htop
      have hcs := wk_cases htop
      dsimp only at hcs
      refine ⟨by omega, fun h1 g1 g2 g3 => ⟨_, wl_u hT hL hI z0 c1 c2 g1 g2 g3 (by omega) rfl (by omega) (by omega), fun v h' ov hq => ?_⟩⟩
      obtain ⟨rfl, hq⟩ := hq
      exact nx175 _ _ h' c1 hq
    · intro b1 b2 b3 c1 c2 c3 c4 s k
      have hI := toI c3 c4
      have hL : wk_L (mi_a h) Y := wk_L_g hL0 (wk_gc_fr hI.2.1 hS0 rfl)
      have hb29 := hI.2.2.2.2.1
      have htop := hI.2.2.1
      rw [wk_stk_pop c2] at htop
      have hcs := wk_cases htop
      dsimp only at hcs
      refine ⟨by omega, fun h1 g1 g2 g3 => ⟨_, wl_u hT hL hI z0 c1 c2 g1 g2 g3 (by omega) rfl (by omega) (by omega), fun v h' ov hq => ?_⟩⟩
      obtain ⟨rfl, hq⟩ := hq
      exact nx175 _ _ h' c1 hq
    · intro b1 b2 b3 c1 c2 c3 c4 s
      have hI := toI c3 c4
      have hL : wk_L (mi_a h) Y := wk_L_g hL0 (wk_gc_fr hI.2.1 hS0 rfl)
      have hb29 := hI.2.2.2.2.1
      have htop := hI.2.2.1
      rw [wk_stk_pop c2] at htop
      have hcs := wk_cases htop
      dsimp only at hcs
      refine ⟨by omega, fun h1 g1 g2 g3 => ⟨_, wl_f hT hL hI z0 c1 c2 g1 g2 g3 (by omega) rfl rfl, fun v h' ov hq => ?_⟩⟩
      obtain ⟨rfl, hq⟩ := hq
      exact nx183 _ _ h' c1 hq
    · intro b1 b2 b3 b4 c1 c2 c3 c4 s
      have hI := toI c3 c4
      have hb29 := hI.2.2.2.2.1
      have htop := hI.2.2.1
      have hst := wk_stk_pop c2
      have es : mi_a h 165 (mi_f h 14029 - 1).toNat = 2 := by omega
      rw [es] at hst
      rw [hst] at htop
      obtain ⟨w1, w2, w3, w4, w5⟩ := wk_out htop
      refine ⟨by omega, fun h1 g1 g2 g3 g4 g5 => ?_⟩
      have e30 : mi_f h1 14030 = mi_f h 14030 := me_f (c := 14030) g5 hS rfl rfl
      have e16 : mi_f h1 14016 = mi_f h 14016 := me_f (c := 14016) g5 hS rfl rfl
      refine (nx _ _ h1 c1 (Or.inr (wl_rest hT hI z0 c1 c2 g2 hst (Or.inl rfl) g1 g5 (by decide) ?_ (by omega) (by have := hI.2.2.2.2.2; omega)))).2
      rw [e30, g4]
      exact wk_SI_Z _ _ _ _ w5 (fun i _ => ⟨me_a (k := 168) g5 hS rfl rfl, me_a (k := 169) g5 hS rfl rfl⟩) (by show mi_f h 14016 ≤ mi_f h1 14016; omega)
    · intro b1 b2 b3 b4 b5 c1 c2 c3 c4 s
      have hI := toI c3 c4
      have hb29 := hI.2.2.2.2.1
      have hp60 := hI.2.2.2.2.2
      have htop := hI.2.2.1
      have hst := wk_stk_pop c2
      have es : mi_a h 165 (mi_f h 14029 - 1).toNat = 3 := by omega
      rw [es] at hst
      rw [hst] at htop
      obtain ⟨w1, w2, w3⟩ := wk_mid htop
      refine ⟨by omega, fun h1 g1 g2 g4 g5 => ?_⟩
      have e30 : mi_f h1 14030 = mi_f h 14030 := me_f (c := 14030) g5 hS rfl rfl
      have e32 : mi_f h1 14032 = mi_f h 14032 := me_f (c := 14032) g5 hS rfl rfl
      have e16 : mi_f h1 14016 = mi_f h 14016 := me_f (c := 14016) g5 hS rfl rfl
      refine (nx _ _ h1 c1 (Or.inr (wl_rest hT hI z0 c1 c2 g2 hst (Or.inr (Or.inl rfl)) g1 g5 (by decide) ?_ (by rw [e32]; exact hI.1.2.2.2.2.2.2.2.2.1) (by omega)))).2
      rw [e30, e32]
      refine wk_middle (wk_SI_Z (Z' := wl_Z h1) _ _ _ _ w3 (fun i hi => ⟨me_a (k := 168) g5 hS rfl rfl, ?_⟩) (by show mi_f h 14016 ≤ mi_f h1 14016; omega)) ?_
      · rw [if_neg (by decide)] at hi
        show mi_a h1 169 i = mi_a h 169 i
        rw [g4, if_neg (by omega)]
      · have w2 : 0 ≤ mi_a h 168 (mi_f h 14030 - 1).toNat ∧ mi_a h 168 (mi_f h 14030 - 1).toNat ≤ mi_f h 14016 := w2
        show 0 ≤ mi_a h1 168 (mi_f h 14030 - 1).toNat ∧ mi_a h1 168 (mi_f h 14030 - 1).toNat ≤ mi_a h1 169 (mi_f h 14030 - 1).toNat ∧ mi_a h1 169 (mi_f h 14030 - 1).toNat ≤ mi_f h1 14016
        rw [g4, if_pos rfl, me_a (k := 168) g5 hS rfl rfl, e16]
        exact ⟨w2.1, w2.2, Int.le_refl _⟩
    · intro b1 b2 b3 c1 c2 c3 c4 s
      have hI := toI c3 c4
      have hb29 := hI.2.2.2.2.1
      have hp60 := hI.2.2.2.2.2
      have htop := hI.2.2.1
      have hst := wk_stk_pop c2
      have es : mi_a h 165 (mi_f h 14029 - 1).toNat = 4 := by omega
      rw [es] at hst
      rw [hst] at htop
      obtain ⟨w1, w2, w3⟩ := wk_turn htop
      have w2 : 0 ≤ mi_a h 168 (mi_f h 14030 - 1).toNat ∧ mi_a h 168 (mi_f h 14030 - 1).toNat ≤ mi_a h 169 (mi_f h 14030 - 1).toNat ∧ mi_a h 169 (mi_f h 14030 - 1).toNat ≤ mi_f h 14016 := w2
      refine ⟨by omega, fun h1 g1 g2 g3 => ?_⟩
      have e30 : mi_f h1 14030 = mi_f h 14030 := me_f (c := 14030) g3 hS rfl rfl
      have e16 : mi_f h1 14016 = mi_f h 14016 := me_f (c := 14016) g3 hS rfl rfl
      have e168 : mi_a h1 168 (mi_f h 14030 - 1).toNat = mi_a h 168 (mi_f h 14030 - 1).toNat := me_a (k := 168) g3 hS rfl rfl
      have e169 : mi_a h1 169 (mi_f h 14030 - 1).toNat = mi_a h 169 (mi_f h 14030 - 1).toNat := me_a (k := 169) g3 hS rfl rfl
      refine ⟨_, me_swap g1 (by omega) (by omega) (by rw [e30, e168]; exact w2.1) (by rw [e30, e168, e169]; exact w2.2.1) (by rw [e30, e169, e16]; exact w2.2.2), fun v h' ov hq => ?_⟩
      obtain ⟨rfl, q1, q2, q3⟩ := hq
      have hF : ab_Fr ([(14029, 14031), (18560, 18561), (20480, 20481)]) h h' := (g3.wide (fun c hc => ab_swr_ok (by decide) hc)).trans (q2.wide (fun c hc => ab_swr_ok (by decide) hc))
      have f29 : mi_f h' 14029 = mi_f h 14029 - 1 := (me_f (c := 14029) q2 g1 rfl rfl).trans g2
      have f16 : mi_f h' 14016 = mi_f h 14016 := me_f (c := 14016) hF hS rfl rfl
      have f32 : mi_f h' 14032 = mi_f h 14032 := me_f (c := 14032) hF hS rfl rfl
      have f30 : mi_f h' 14030 = mi_f h 14030 - 1 := by omega
      refine nx208 _ _ h' c1 (Or.inr (wl_rest hT hI z0 c1 c2 f29 hst (Or.inr (Or.inr rfl)) q1 hF (by decide) ?_ (by rw [f32]; exact hI.1.2.2.2.2.2.2.2.2.1) (by omega)))
      rw [f30, f32]
      exact wk_SI_Z _ _ _ _ w3 (fun i _ => ⟨me_a (k := 168) hF hS rfl rfl, me_a (k := 169) hF hS rfl rfl⟩) (by show mi_f h 14016 ≤ mi_f h' 14016; omega)
    · intro b1 b2 b3 c1 c2 c3 c4 s
      have hI := toI c3 c4
      have hL : wk_L (mi_a h) Y := wk_L_g hL0 (wk_gc_fr hI.2.1 hS0 rfl)
      have hb29 := hI.2.2.2.2.1
      have htop := hI.2.2.1
      rw [wk_stk_pop c2] at htop
      have hcs := wk_cases htop
      dsimp only at hcs
      refine ⟨by omega, fun h1 g1 g2 g3 => ⟨_, wl_a hT hL hI z0 c1 c2 g1 g2 g3 (by omega) rfl rfl, fun v h' ov hq => ?_⟩⟩
      obtain ⟨rfl, hq⟩ := hq
      exact nx218 _ _ h' c1 hq
    · intro b1 b2 b3 b4 c1 c2 c3 c4 s
      exfalso
      have hI := toI c3 c4
      have htop := hI.2.2.1
      rw [wk_stk_pop c2] at htop
      have hcs := wk_cases htop
      dsimp only at hcs
      omega
end WLO
/-! the walk, from its begin -/
section WLQ
variable {d : Nat} {h : sm_H} {Y : wk_Y} {zh : Int} {T : Int → sm_H → Prop}
theorem me_walk (hS : ab_Sh sx_sk h) (hz : zh = 0 ∨ zh = 1 ∨ zh = 2) (hL : wk_L (mi_a h) Y) (hr : wk_Lrule Y (mi_a h 114 0)) (htok : zh = 0 → mi_a h 152 (mi_f h 14011).toNat = 0) (hT : wl_T Y h zh T) (hT0 : ∀ h', ab_Sh sx_sk h' → ab_Fr wr_WK h h' → wk_stk h' = [(1, mi_a h 114 0, 0), (2, 1, 0)] → wk_n zh h' = 1 → (zh ≠ 2 → wk_K zh h' 0 = 1 ∧ wk_V zh h' 0 = 0) → T 0 h') : me_E (d + 7) 206 0 [some (.inr (.inr 109)), some (.inl zh), none, none, none] [] h (wl_End Y h zh T) := by
  have oh : mi_in zh := ⟨by omega, by omega⟩
  have b11 := me_fb (c := 14011) hS rfl
  refine mt_waA hS oh ?_
  intro h1 g1 f16 f28 f29 f30 f31 f32 f33 f34 f44 g2
  have e11 : mi_f h1 14011 = mi_f h 14011 := me_f (c := 14011) g2 hS rfl rfl
  have est : wk_stk h1 = [] := by unfold wk_stk; rw [f29]; rfl
  have en : wk_n zh h1 = 0 := by
    unfold wk_n
    split
    · exact f33
    · exact f16
  refine ⟨_, me_enter (d := d + 4) zh g1 f28 (by decide) (by decide) (by omega) (by omega) (by omega) (by omega) (fun _ => by omega), fun v h2 ov hq => ?_⟩
  obtain ⟨rfl, q1, q2, q3, q4⟩ := hq
  have hF : ab_Fr wr_WK h h2 := (g2.wide (fun c hc => ab_swr_ok (by decide) hc)).trans (q2.wide (fun c hc => ab_swr_ok (by decide) hc))
  refine mt_waB q1 oh ?_
  intro h3 r1 r2
  have e3 := me_nil r2
  subst e3
  refine wl_loop hT hL hS oh 40001 0 none none _ (by decide) (by decide) (by decide) (fun v e => by cases e) (fun v e => by cases e) ?_
  rcases q4 with q4 | ⟨q4, q5, q6, q7, q8, q9⟩
  · exact Or.inl ⟨q1, hF, Or.inl q4⟩
  · refine Or.inr ?_
    obtain ⟨v1, v2, v3, v4⟩ := q9
    rw [est] at q8
    have e114 : mi_a h1 114 (Int.toNat 0) = mi_a h 114 0 := me_a (k := 114) g2 hS rfl rfl
    rw [e114] at q8
    have p30 : mi_f h3 14030 = 0 := (me_f (c := 14030) q2 g1 rfl rfl).trans f30
    have p28 : mi_f h3 14028 = zh := (me_f (c := 14028) q2 g1 rfl rfl).trans f28
    have p11 : mi_f h3 14011 = mi_f h 14011 := me_f (c := 14011) hF hS rfl rfl
    have p152 : ∀ i, mi_a h3 152 i = mi_a h 152 i := fun i => me_a (k := 152) hF hS rfl rfl
    have ul : wk_ul [(1, mi_a h 114 0, 0), (2, 1, 0)] = 1 := by
      rw [wk_ul_c (by decide)]
      rfl
    refine ⟨⟨q1, p28, hz, q4, by omega, fun e => ?_, by omega, by omega, by omega, by rw [q8, ul]; omega, by omega⟩, hF, ?_, ?_, by omega, by omega⟩
    · obtain ⟨-, -, x⟩ := v3 (by omega)
      rw [x, f33, p11, p152]
      exact ⟨by decide, b11.1, htok e⟩
    · obtain ⟨l1, l2, l3⟩ := hr
      have hd := (hL.2.2.2 _ l1 l2).1
      rw [q8, p30, q6, f32]
      refine wk_pform ⟨l1, l2, ?_, by decide, by omega, by decide, by decide⟩ (wk_pout (Or.inr rfl) (by decide) (by decide) (by decide) ?_)
      · show (1 : Int) + _ - 4 ≤ _
        omega
      · unfold wk_SI
        exact ⟨rfl, rfl, by decide⟩
    · refine hT0 _ q1 hF q8 (by omega) (fun e => ?_)
      obtain ⟨x1, x2, -⟩ := v3 e
      rw [en] at x1 x2
      exact ⟨x1, x2⟩
end WLQ
/-! traces -/
section TRC
variable {g : wk_g} {K V K' V' : Nat → Int}
def wk_n5 (P : List wk_E) : Prop := ∀ e, e ∈ P → e.1 ≠ 5
theorem wk_n5_it : ∀ (N : Nat) (u : Int), wk_n5 (wk_it g N u) := by
  intro N
  induction N with
  | zero => intro u e he; cases he
  | succ N ih =>
    intro u e he
    unfold wk_it at he
    split at he
    · cases he
    · split at he
      · simp only [List.mem_cons] at he
        rcases he with rfl | rfl | rfl | rfl | he
        · exact show (0 : Int) ≠ 5 from by decide
        · exact show (3 : Int) ≠ 5 from by decide
        · exact show (0 : Int) ≠ 5 from by decide
        · exact show (4 : Int) ≠ 5 from by decide
        · exact ih _ e he
      · simp only [List.mem_cons] at he
        rcases he with rfl | he
        · exact show (0 : Int) ≠ 5 from by decide
        · exact ih _ e he
theorem wk_n5_a {P Q : List wk_E} (h1 : wk_n5 P) (h2 : wk_n5 Q) : wk_n5 (P ++ Q) := fun e he => (List.mem_append.mp he).elim (h1 e) (h2 e)
theorem wk_n5_0 : wk_n5 [] := fun e he => by cases he
theorem wk_n5_c {e : wk_E} {P : List wk_E} (h1 : e.1 ≠ 5) (h2 : wk_n5 P) : wk_n5 (e :: P) := fun x hx => by
  rcases List.mem_cons.mp hx with rfl | hx
  · exact h1
  · exact h2 x hx
/-- what a unit by itself does, over any stack -/
theorem wk_sg_P {u : Int} {r s' : List wk_E} {c c' : Nat} (h : wk_sg g K u r c = some (s', c')) : ∃ P, wk_n5 P ∧ s' = P ++ r ∧ ∀ r', wk_ul r' = wk_ul r → wk_sg g K u r' c = some (P ++ r', c') := by
  unfold wk_sg at h
  by_cases h9 : g 119 u.toNat = 9
  · rw [if_pos h9] at h
    by_cases hc : K c = 1 ∧ wk_ul r < 12
    · rw [if_pos hc] at h
      cases h
      refine ⟨[(1, wk_rf g u, 0), (2, 1, 0)], wk_n5_c (show (1 : Int) ≠ 5 from by decide) (wk_n5_c (show (2 : Int) ≠ 5 from by decide) wk_n5_0), by unfold wk_sS; rw [if_pos h9]; rfl, fun r' hr => ?_⟩
      unfold wk_sg
      rw [if_pos h9, hr, if_pos hc]
      unfold wk_sS
      rw [if_pos h9]
      rfl
    · rw [if_neg hc] at h
      cases h
  · rw [if_neg h9] at h
    by_cases h1 : g 119 u.toNat = 1
    · rw [if_pos h1] at h
      by_cases hc : K c = 2
      · rw [if_pos hc] at h
        cases h
        refine ⟨[], wk_n5_0, rfl, fun r' hr => ?_⟩
        unfold wk_sg
        rw [if_neg h9, if_pos h1, if_pos hc]
        rfl
      · rw [if_neg hc] at h
        cases h
    · rw [if_neg h1] at h
      by_cases h2 : g 119 u.toNat = 2
      · rw [if_pos h2] at h
        by_cases hc : K c = 3
        · rw [if_pos hc] at h
          cases h
          refine ⟨[], wk_n5_0, rfl, fun r' hr => ?_⟩
          unfold wk_sg
          rw [if_neg h9, if_neg h1, if_pos h2, if_pos hc]
          rfl
        · rw [if_neg hc] at h
          cases h
      · rw [if_neg h2] at h
        cases h
        by_cases h10 : g 119 u.toNat = 10
        · refine ⟨[(1, g 120 u.toNat, 0)], wk_n5_c (show (1 : Int) ≠ 5 from by decide) wk_n5_0, by unfold wk_sS; rw [if_neg h9, if_pos h10]; rfl, fun r' hr => ?_⟩
          unfold wk_sg
          rw [if_neg h9, if_neg h1, if_neg h2]
          unfold wk_sS
          rw [if_neg h9, if_pos h10]
          rfl
        · refine ⟨[], wk_n5_0, by unfold wk_sS; rw [if_neg h9, if_neg h10]; rfl, fun r' hr => ?_⟩
          unfold wk_sg
          rw [if_neg h9, if_neg h1, if_neg h2]
          unfold wk_sS
          rw [if_neg h9, if_neg h10]
          rfl
theorem wk_pf_P {e : wk_E} {r s' : List wk_E} {c c' : Nat} (h5 : e.1 ≠ 5) (hw : e.1 = 0 → g 122 e.2.1.toNat ≠ 1) (h : wk_pf g K V (e :: r, c) = some (s', c')) : ∃ P, wk_n5 P ∧ s' = P ++ r ∧ ∀ r', wk_ul r' = wk_ul r → wk_pf g K V (e :: r', c) = some (P ++ r', c') := by
  have n2 : ((2 : Int), (0 : Int), (0 : Int)).1 ≠ 5 := show (2 : Int) ≠ 5 from by decide
  unfold wk_pf at h
  dsimp only at h
  by_cases h0 : e.1 = 0
  · rw [if_pos h0, if_neg (hw h0)] at h
    by_cases h2 : g 122 e.2.1.toNat = 2
    · rw [if_pos h2] at h
      by_cases hk : K c = 6 ∧ 0 ≤ V c ∧ V c ≤ 1000000
      · rw [if_pos hk] at h
        by_cases hv : 0 < V c
        · rw [if_pos hv] at h
          obtain ⟨P, p1, p2, p3⟩ := wk_sg_P h
          refine ⟨P ++ [(2, 0, 0)], wk_n5_a p1 (wk_n5_c n2 wk_n5_0), by rw [p2, List.append_assoc]; rfl, fun r' hr => ?_⟩
          unfold wk_pf
          dsimp only
          rw [if_pos h0, if_neg (hw h0), if_pos h2, if_pos hk, if_pos hv, p3 ((2, 0, 0) :: r') (by rw [wk_ul_o, wk_ul_o, hr]), List.append_assoc]
          rfl
        · rw [if_neg hv] at h
          cases h
          refine ⟨[(2, 0, 0)], wk_n5_c n2 wk_n5_0, rfl, fun r' hr => ?_⟩
          unfold wk_pf
          dsimp only
          rw [if_pos h0, if_neg (hw h0), if_pos h2, if_pos hk, if_neg hv]
          rfl
      · rw [if_neg hk] at h
        cases h
    · rw [if_neg h2] at h
      obtain ⟨P, p1, p2, p3⟩ := wk_sg_P h
      refine ⟨P, p1, p2, fun r' hr => ?_⟩
      unfold wk_pf
      dsimp only
      rw [if_pos h0, if_neg (hw h0), if_neg h2]
      exact p3 r' hr
  · rw [if_neg h0] at h
    by_cases h1 : e.1 = 1
    · rw [if_pos h1] at h
      by_cases hc : 1 < g 130 e.2.1.toNat
      · rw [if_pos hc] at h
        by_cases hk : K c = 4 ∧ 0 ≤ V c ∧ V c < g 130 e.2.1.toNat
        · rw [if_pos hk] at h
          cases h
          refine ⟨wk_it g 61 (g 126 (wk_alt g (V c).toNat (g 129 e.2.1.toNat)).toNat) ++ [(2, 0, 0)], wk_n5_a (wk_n5_it _ _) (wk_n5_c n2 wk_n5_0), by rw [List.append_assoc]; rfl, fun r' hr => ?_⟩
          unfold wk_pf
          dsimp only
          rw [if_neg h0, if_pos h1, if_pos hc, if_pos hk, List.append_assoc]
          rfl
        · rw [if_neg hk] at h
          cases h
      · rw [if_neg hc] at h
        cases h
        refine ⟨wk_it g 61 (g 126 (g 129 e.2.1.toNat).toNat), wk_n5_it _ _, rfl, fun r' hr => ?_⟩
        unfold wk_pf
        dsimp only
        rw [if_neg h0, if_pos h1, if_neg hc]
    · rw [if_neg h1, if_neg h5] at h
      cases h
      refine ⟨[], wk_n5_0, rfl, fun r' hr => ?_⟩
      unfold wk_pf
      dsimp only
      rw [if_neg h0, if_neg h1, if_neg h5]
      rfl
/-- only what is consumed is looked at -/
theorem wk_sg_R {u : Int} {r s' : List wk_E} {c c' : Nat} (h : wk_sg g K u r c = some (s', c')) (hk : ∀ i, c ≤ i → i < c' → K' i = K i) : wk_sg g K' u r c = some (s', c') := by
  unfold wk_sg at h ⊢
  by_cases h9 : g 119 u.toNat = 9
  · rw [if_pos h9] at h ⊢
    by_cases hc : K c = 1 ∧ wk_ul r < 12
    · rw [if_pos hc] at h
      cases h
      rw [hk c (Nat.le_refl _) (Nat.lt_succ_self _), if_pos hc]
    · rw [if_neg hc] at h
      cases h
  · rw [if_neg h9] at h ⊢
    by_cases h1 : g 119 u.toNat = 1
    · rw [if_pos h1] at h ⊢
      by_cases hc : K c = 2
      · rw [if_pos hc] at h
        cases h
        rw [hk c (Nat.le_refl _) (Nat.lt_succ_self _), if_pos hc]
      · rw [if_neg hc] at h
        cases h
    · rw [if_neg h1] at h ⊢
      by_cases h2 : g 119 u.toNat = 2
      · rw [if_pos h2] at h ⊢
        by_cases hc : K c = 3
        · rw [if_pos hc] at h
          cases h
          rw [hk c (Nat.le_refl _) (Nat.lt_succ_self _), if_pos hc]
        · rw [if_neg hc] at h
          cases h
      · rw [if_neg h2] at h ⊢
        exact h
theorem wk_pf_R {s s' : List wk_E × Nat} (h : wk_pf g K V s = some s') (hk : ∀ i, s.2 ≤ i → i < s'.2 → K' i = K i ∧ V' i = V i) : wk_pf g K' V' s = some s' := by
  obtain ⟨l, c⟩ := s
  obtain ⟨l', c'⟩ := s'
  have hk : ∀ i, c ≤ i → i < c' → K' i = K i ∧ V' i = V i := hk
  cases l with
  | nil => unfold wk_pf at h; cases h
  | cons e r =>
    unfold wk_pf at h ⊢
    dsimp only at h ⊢
    have kc : c < c' → K' c = K c ∧ V' c = V c := fun z => hk c (Nat.le_refl _) z
    by_cases h0 : e.1 = 0
    · rw [if_pos h0] at h ⊢
      by_cases h1 : g 122 e.2.1.toNat = 1
      · rw [if_pos h1] at h ⊢
        split at h
        · rename_i hc
          cases h
          obtain ⟨a, b⟩ := kc (Nat.lt_succ_self _)
          rw [a, b, if_pos hc]
        · cases h
      · rw [if_neg h1] at h ⊢
        by_cases h2 : g 122 e.2.1.toNat = 2
        · rw [if_pos h2] at h ⊢
          split at h
          · rename_i hc
            split at h
            · rename_i hv
              have hm := wk_sg_mono h
              obtain ⟨a, b⟩ := kc hm
              rw [a, b, if_pos hc, if_pos hv]
              exact wk_sg_R h (fun i i1 i2 => (hk i (by omega) i2).1)
            · rename_i hv
              cases h
              obtain ⟨a, b⟩ := kc (Nat.lt_succ_self _)
              rw [a, b, if_pos hc, if_neg hv]
          · cases h
        · rw [if_neg h2] at h ⊢
          exact wk_sg_R h (fun i i1 i2 => (hk i i1 i2).1)
    · rw [if_neg h0] at h ⊢
      by_cases h1 : e.1 = 1
      · rw [if_pos h1] at h ⊢
        by_cases hcc : 1 < g 130 e.2.1.toNat
        · rw [if_pos hcc] at h ⊢
          split at h
          · rename_i hc
            cases h
            obtain ⟨a, b⟩ := kc (Nat.lt_succ_self _)
            rw [a, b, if_pos hc]
          · cases h
        · rw [if_neg hcc] at h ⊢
          exact h
      · rw [if_neg h1] at h ⊢
        by_cases h5 : e.1 = 5
        · rw [if_pos h5] at h ⊢
          split at h
          · rename_i hv
            rw [if_pos hv]
            exact wk_sg_R h (fun i i1 i2 => (hk i i1 i2).1)
          · rename_i hv
            rw [if_neg hv]
            exact h
        · rw [if_neg h5] at h ⊢
          exact h
/-- fives on the stack: which nodes; how they are seen from the end -/
def wk_ix : List wk_E → Int → Prop
  | [], _ => True
  | e :: r, n => if e.1 = 5 then 0 ≤ e.2.2 ∧ e.2.2 < n ∧ wk_ix r e.2.2 else wk_ix r n
def wk_on (i : Nat) (r : List wk_E) : Prop := ∃ e, e ∈ r ∧ e.1 = 5 ∧ e.2.2.toNat = i
def wk_cv (D : Nat → Int) (r : List wk_E) : List wk_E := r.map (fun e => if e.1 = 5 then (5, e.2.1, D e.2.2.toNat) else e)
theorem wk_ix_mono : ∀ (r : List wk_E) (n n' : Int), wk_ix r n → n ≤ n' → wk_ix r n' := by
  intro r
  induction r with
  | nil => intro n n' _ _; trivial
  | cons e r ih =>
    intro n n' h hn
    unfold wk_ix at h ⊢
    by_cases h5 : e.1 = 5
    · rw [if_pos h5] at h ⊢
      exact ⟨h.1, by omega, h.2.2⟩
    · rw [if_neg h5] at h ⊢
      exact ih n n' h hn
theorem wk_ix_on : ∀ (r : List wk_E) (n : Int), wk_ix r n → ∀ i, wk_on i r → (i : Int) < n := by
  intro r
  induction r with
  | nil => intro n _ i hi; obtain ⟨e, he, -⟩ := hi; cases he
  | cons e r ih =>
    intro n h i hi
    unfold wk_ix at h
    obtain ⟨x, hx, x5, xi⟩ := hi
    rcases List.mem_cons.mp hx with rfl | hx
    · rw [if_pos x5] at h
      omega
    · by_cases h5 : e.1 = 5
      · rw [if_pos h5] at h
        have := ih _ h.2.2 i ⟨x, hx, x5, xi⟩
        omega
      · rw [if_neg h5] at h
        exact ih _ h i ⟨x, hx, x5, xi⟩
theorem wk_ix_P {P r : List wk_E} {n : Int} (hP : wk_n5 P) (h : wk_ix r n) : wk_ix (P ++ r) n := by
  induction P with
  | nil => exact h
  | cons e P ih =>
    show wk_ix (e :: (P ++ r)) n
    unfold wk_ix
    rw [if_neg (hP e (List.mem_cons_self ..))]
    exact ih (fun x hx => hP x (List.mem_cons_of_mem _ hx))
theorem wk_on_P {P r : List wk_E} {i : Nat} (hP : wk_n5 P) : wk_on i (P ++ r) ↔ wk_on i r := by
  constructor
  · intro ⟨e, he, e5, ei⟩
    rcases List.mem_append.mp he with he | he
    · exact absurd e5 (hP e he)
    · exact ⟨e, he, e5, ei⟩
  · intro ⟨e, he, e5, ei⟩
    exact ⟨e, List.mem_append.mpr (Or.inr he), e5, ei⟩
theorem wk_cv_P {D : Nat → Int} {P r : List wk_E} (hP : wk_n5 P) : wk_cv D (P ++ r) = P ++ wk_cv D r := by
  induction P with
  | nil => rfl
  | cons e P ih =>
    show (if e.1 = 5 then (5, e.2.1, D e.2.2.toNat) else e) :: wk_cv D (P ++ r) = e :: (P ++ wk_cv D r)
    rw [if_neg (hP e (List.mem_cons_self ..)), ih (fun x hx => hP x (List.mem_cons_of_mem _ hx))]
theorem wk_cv_c {D : Nat → Int} {e : wk_E} {r : List wk_E} (h5 : e.1 ≠ 5) : wk_cv D (e :: r) = e :: wk_cv D r := by
  show (if e.1 = 5 then (5, e.2.1, D e.2.2.toNat) else e) :: wk_cv D r = _
  rw [if_neg h5]
theorem wk_cv_5 {D : Nat → Int} {w a : Int} {r : List wk_E} : wk_cv D ((5, w, a) :: r) = (5, w, D a.toNat) :: wk_cv D r := rfl
theorem wk_cv_eq {D D' : Nat → Int} : ∀ (r : List wk_E), (∀ i, wk_on i r → D i = D' i) → wk_cv D r = wk_cv D' r := by
  intro r
  induction r with
  | nil => intro _; rfl
  | cons e r ih =>
    intro h
    have h1 := ih (fun i hi => h i (by obtain ⟨x, hx, y⟩ := hi; exact ⟨x, List.mem_cons_of_mem _ hx, y⟩))
    show (if e.1 = 5 then (5, e.2.1, D e.2.2.toNat) else e) :: wk_cv D r = (if e.1 = 5 then (5, e.2.1, D' e.2.2.toNat) else e) :: wk_cv D' r
    rw [h1]
    by_cases h5 : e.1 = 5
    · rw [if_pos h5, if_pos h5, h _ ⟨e, List.mem_cons_self .., h5, rfl⟩]
    · rw [if_neg h5, if_neg h5]
theorem wk_cv_ul {D : Nat → Int} : ∀ (r : List wk_E), wk_ul (wk_cv D r) = wk_ul r := by
  intro r
  induction r with
  | nil => rfl
  | cons e r ih =>
    have e1 : wk_ul (e :: r) = (if e.1 = 2 then e.2.1 else 0) + wk_ul r := rfl
    by_cases h5 : e.1 = 5
    · obtain ⟨x, w, a⟩ := e
      have h5 : x = 5 := h5
      subst h5
      rw [wk_cv_5, wk_ul_c (by decide), ih, wk_ul_c (by decide)]
    · rw [wk_cv_c h5]
      have e2 : wk_ul (e :: wk_cv D r) = (if e.1 = 2 then e.2.1 else 0) + wk_ul (wk_cv D r) := rfl
      rw [e1, e2, ih]
end TRC
/-! the three walks: what their traces are -/
def tp_N (g : wk_g) (K V : Nat → Int) (n : Nat) : Prop := ∃ (Tm : Nat) (st : List wk_E), Tm ≤ 40000 ∧ wk_tr g K V Tm (wk_0 g) = some (st, n) ∧ (st = [] ∨ Tm = 40000)
def tp_I (h0 : sm_H) (zt : Int) (h : sm_H) : Prop := wk_tr (mi_a h0) (wk_K 2 h0) (wk_V 2 h0) zt.toNat (wk_0 (mi_a h0)) = some (wk_stk h, (wk_n 2 h).toNat)
def tg_I (h0 : sm_H) (zt : Int) (h : sm_H) : Prop := ∀ K V : Nat → Int, (∀ i : Nat, (i : Int) < wk_n 1 h → K i = wk_K 1 h i ∧ V i = wk_V 1 h i) → wk_tr (mi_a h0) K V zt.toNat (wk_0 (mi_a h0)) = some (wk_stk h, (wk_n 1 h).toNat)
def ta_I (h0 : sm_H) (zt : Int) (h : sm_H) : Prop := wk_ix (wk_stk h) (wk_n 0 h) ∧ (∀ i, wk_on i (wk_stk h) → 0 ≤ wk_V 0 h i ∧ wk_V 0 h i ≤ zt) ∧ ∀ K V : Nat → Int, (∀ i : Nat, (i : Int) < wk_n 0 h → K i = wk_K 0 h i) → (∀ i : Nat, (i : Int) < wk_n 0 h → ¬ wk_on i (wk_stk h) → V i = wk_V 0 h i) → (∀ i : Nat, wk_on i (wk_stk h) → wk_V 0 h i ≤ V i ∧ V i ≤ 1000000) → wk_tr (mi_a h0) K V zt.toNat (wk_0 (mi_a h0)) = some (wk_cv (fun i => V i - wk_V 0 h i) (wk_stk h), (wk_n 0 h).toNat)
section INS
variable {h0 : sm_H} {Y : wk_Y}
theorem wk_tr_S {g : wk_g} {K V : Nat → Int} {s x : List wk_E × Nat} {zt : Int} (z0 : 0 ≤ zt) (h : wk_tr g K V zt.toNat s = some x) : wk_tr g K V (zt + 1).toNat s = wk_pf g K V x := by
  have e : (zt + 1).toNat = zt.toNat + 1 := by omega
  rw [e]
  show (wk_tr g K V zt.toNat s).bind (wk_pf g K V) = _
  rw [h]
  rfl
theorem tp_T {n : Nat} (hS0 : ab_Sh sx_sk h0) (hN : tp_N (mi_a h0) (wk_K 2 h0) (wk_V 2 h0) n) (hn : n ≤ 100) : wl_T Y h0 2 (tp_I h0) := by
  refine ⟨fun _ zt h hI hne z0 z1 => ?_, fun e => absurd e (by decide), fun zt h h' z0 z1 hI hS' hF hp hle hag hx => ?_, fun e => absurd e (by decide), fun e => absurd e (by decide), fun e => absurd e (by decide)⟩
  · have hg : wk_gc (mi_a h0) (mi_a h) := wk_gc_fr hI.2.1 hS0 rfl
    have hK := wk_KV2 hI.2.1 hS0 rfl
    have hT : tp_I h0 zt h := hI.2.2.2.1
    obtain ⟨Tm, st, t1, t2, t3⟩ := hN
    rw [wk_pf_g hg, hK.1, hK.2]
    by_cases hlt : zt.toNat < Tm
    · obtain ⟨y, y1, y2, y3⟩ := wk_tr_next t2 hlt hT
      exact ⟨y, y1, Nat.le_trans y3 hn⟩
    · exfalso
      have t3 : st = [] := t3.resolve_right (by omega)
      subst t3
      by_cases heq : zt.toNat = Tm
      · unfold tp_I at hT
        rw [heq, t2] at hT
        exact hne (Prod.ext_iff.mp (Option.some.inj hT)).1.symm
      · obtain ⟨y, y1, -⟩ := wk_tr_le zt.toNat (Tm + 1) hT (by omega)
        unfold wk_tr at y1
        rw [t2] at y1
        cases y1
  · have hg : wk_gc (mi_a h0) (mi_a h) := wk_gc_fr hI.2.1 hS0 rfl
    have hK := wk_KV2 (hI.2.1.trans hF) hS0 rfl
    have hT : tp_I h0 zt h := hI.2.2.2.1
    rw [wk_pf_g hg, hK.1, hK.2] at hp
    unfold tp_I
    rw [wk_tr_S z0 hT]
    exact hp
theorem tg_T (hS0 : ab_Sh sx_sk h0) : wl_T Y h0 1 (tg_I h0) := by
  refine ⟨fun e => absurd e (by decide), fun e => absurd e (by decide), fun zt h h' z0 z1 hI hS' hF hp hle hag hx K V hK => ?_, fun e => absurd e (by decide), fun e => absurd e (by decide), fun e => absurd e (by decide)⟩
  have hg : wk_gc (mi_a h0) (mi_a h) := wk_gc_fr hI.2.1 hS0 rfl
  have hT : tg_I h0 zt h := hI.2.2.2.1
  have i11 := hI.1.2.2.2.2.2.2.2.2.2.2
  rw [wk_pf_g hg] at hp
  rw [wk_tr_S z0 (hT K V (fun i hi => ?_))]
  · refine wk_pf_R hp (fun i i1 i2 => hK i ?_)
    have i2 : i < (wk_n 1 h').toNat := i2
    omega
  · obtain ⟨a1, a2⟩ := hK i (by omega)
    obtain ⟨b1, b2⟩ := hag i hi
    exact ⟨a1.trans b1, a2.trans b2⟩
theorem ta_T (hS0 : ab_Sh sx_sk h0) : wl_T Y h0 0 (ta_I h0) := by
  refine ⟨fun e => absurd e (by decide), fun _ zt h w a r hI z0 z1 hst => ?_, fun zt h h' z0 z1 hI hS' hF hp hle hag hx => ?_, fun _ zt h h' w a r z0 z1 hI hS' hF hst hw hst' hn' hk' hv' hag => ?_, fun _ zt h h' w a r z0 z1 hI hS' hF hst hst' hn' hag => ?_, fun _ zt h h' w a r z0 z1 hI hS' hF hst hst' hsg hle hag => ?_⟩
  · obtain ⟨t1, t2, -⟩ : ta_I h0 zt h := hI.2.2.2.1
    rw [hst] at t1 t2
    have t2 := t2 a.toNat ⟨_, List.mem_cons_self .., rfl, rfl⟩
    unfold wk_ix at t1
    rw [if_pos rfl] at t1
    have t1a : 0 ≤ a := t1.1
    have t1b : a < wk_n 0 h := t1.2.1
    have b16 := me_fb (c := 14016) hI.1.1 rfl
    have e : wk_n 0 h = mi_f h 14016 := rfl
    omega
  · -- a step without fives
    obtain ⟨t1, t2, t3⟩ : ta_I h0 zt h := hI.2.2.2.1
    have hg : wk_gc (mi_a h0) (mi_a h) := wk_gc_fr hI.2.1 hS0 rfl
    have i11 := hI.1.2.2.2.2.2.2.2.2.2.2
    rw [wk_pf_g hg] at hp
    cases hs : wk_stk h with
    | nil => rw [hs] at hp; unfold wk_pf at hp; cases hp
    | cons e r =>
      obtain ⟨x5, x1⟩ := hx rfl e r hs
      rw [hg 122 (by decide)] at x1
      rw [hs] at hp t1 t2 t3
      obtain ⟨P, p1, p2, p3⟩ := wk_pf_P x5 x1 hp
      have t1r : wk_ix r (wk_n 0 h) := by
        unfold wk_ix at t1
        rw [if_neg x5] at t1
        exact t1
      have onr : ∀ i, wk_on i (e :: r) ↔ wk_on i r := fun i => wk_on_P (P := [e]) (wk_n5_c x5 wk_n5_0)
      have onn : ∀ i, wk_on i (wk_stk h') ↔ wk_on i r := fun i => by rw [p2]; exact wk_on_P p1
      have lt : ∀ i, wk_on i r → (i : Int) < wk_n 0 h := wk_ix_on r _ t1r
      refine ⟨by rw [p2]; exact wk_ix_P p1 (wk_ix_mono _ _ _ t1r hle), fun i hi => ?_, fun K V k1 k2 k3 => ?_⟩
      · have hi := (onn i).mp hi
        rw [(hag i (lt i hi)).2]
        have := t2 i ((onr i).mpr hi)
        omega
      · have tr := t3 K V (fun i hi => (k1 i (by omega)).trans (hag i hi).1) (fun i hi ho => (k2 i (by omega) (fun z => ho ((onr i).mpr ((onn i).mp z)))).trans (hag i hi).2) (fun i hi => by
          have hi := (onr i).mp hi
          have := k3 i ((onn i).mpr hi)
          rw [(hag i (lt i hi)).2] at this
          exact this)
        rw [wk_tr_S z0 tr, wk_cv_c x5]
        have q := p3 (wk_cv (fun i => V i - wk_V 0 h i) r) (wk_cv_ul r)
        have q2 := wk_pf_R (K' := K) (V' := V) q (fun i i1 i2 => by
          have i1 : (wk_n 0 h).toNat ≤ i := i1
          have i2 : i < (wk_n 0 h').toNat := i2
          exact ⟨k1 i (by omega), k2 i (by omega) (fun z => by have := lt i ((onn i).mp z); omega)⟩)
        rw [q2, p2, wk_cv_P p1]
        rw [wk_cv_eq (D := fun i => V i - wk_V 0 h i) (D' := fun i => V i - wk_V 0 h' i) r (fun i hi => by rw [(hag i (lt i hi)).2])]
  · -- many: its node comes
    obtain ⟨t1, t2, t3⟩ : ta_I h0 zt h := hI.2.2.2.1
    have hg : wk_gc (mi_a h0) (mi_a h) := wk_gc_fr hI.2.1 hS0 rfl
    have i11 := hI.1.2.2.2.2.2.2.2.2.2.2
    rw [hst] at t1 t2 t3
    have t1r : wk_ix r (wk_n 0 h) := t1
    have onr : ∀ i, wk_on i ((0, w, a) :: r) ↔ wk_on i r := fun i => wk_on_P (P := [(0, w, a)]) (wk_n5_c (show (0 : Int) ≠ 5 from by decide) wk_n5_0)
    have lt : ∀ i, wk_on i r → (i : Int) < wk_n 0 h := wk_ix_on r _ t1r
    have onn : ∀ i, wk_on i (wk_stk h') ↔ (i = (wk_n 0 h).toNat ∨ wk_on i r) := fun i => by
      rw [hst']
      constructor
      · intro ⟨x, hx, x5, xi⟩
        rcases List.mem_cons.mp hx with rfl | hx
        · exact Or.inl xi.symm
        · rcases List.mem_cons.mp hx with rfl | hx
          · exact absurd x5 (show ¬ (2 : Int) = 5 from by decide)
          · exact Or.inr ⟨x, hx, x5, xi⟩
      · intro z
        rcases z with rfl | ⟨x, hx, x5, xi⟩
        · exact ⟨_, List.mem_cons_self .., rfl, rfl⟩
        · exact ⟨x, List.mem_cons_of_mem _ (List.mem_cons_of_mem _ hx), x5, xi⟩
    refine ⟨?_, fun i hi => ?_, fun K V k1 k2 k3 => ?_⟩
    · rw [hst']
      unfold wk_ix
      rw [if_pos rfl]
      exact ⟨i11, by show wk_n 0 h < wk_n 0 h'; omega, t1r⟩
    · rcases (onn i).mp hi with rfl | hi
      · rw [hv']
        omega
      · rw [(hag i (lt i hi)).2]
        have := t2 i ((onr i).mpr hi)
        omega
    · have tr := t3 K V (fun i hi => (k1 i (by omega)).trans (hag i hi).1) (fun i hi ho => (k2 i (by omega) (fun z => by
          rcases (onn i).mp z with z | z
          · omega
          · exact ho ((onr i).mpr z))).trans (hag i hi).2) (fun i hi => by
        have hi := (onr i).mp hi
        have := k3 i ((onn i).mpr (Or.inr hi))
        rw [(hag i (lt i hi)).2] at this
        exact this)
      have k3n := k3 (wk_n 0 h).toNat ((onn _).mpr (Or.inl rfl))
      rw [hv'] at k3n
      have k1n := k1 (wk_n 0 h).toNat (by omega)
      rw [hk'] at k1n
      rw [wk_tr_S z0 tr, wk_cv_c (show (0 : Int) ≠ 5 from by decide)]
      unfold wk_pf
      dsimp only
      have en : (wk_n 0 h').toNat = (wk_n 0 h).toNat + 1 := by omega
      rw [if_pos rfl, if_pos (by rw [← hg 122 (by decide)]; exact hw), if_pos ⟨k1n, k3n⟩, hst', wk_cv_5, wk_cv_c (show (2 : Int) ≠ 5 from by decide), hv', Int.sub_zero, en]
      rw [wk_cv_eq (D := fun i => V i - wk_V 0 h i) (D' := fun i => V i - wk_V 0 h' i) r (fun i hi => by rw [(hag i (lt i hi)).2])]
  · -- no more of it
    obtain ⟨t1, t2, t3⟩ : ta_I h0 zt h := hI.2.2.2.1
    have i11 := hI.1.2.2.2.2.2.2.2.2.2.2
    rw [hst] at t1 t2 t3
    have t1a : 0 ≤ a ∧ a < wk_n 0 h ∧ wk_ix r a := t1
    obtain ⟨a0, a1, t1r⟩ := t1a
    have lt : ∀ i, wk_on i r → (i : Int) < a := wk_ix_on r _ t1r
    have onr : ∀ i, wk_on i ((5, w, a) :: r) → i = a.toNat ∨ wk_on i r := fun i ⟨x, hx, x5, xi⟩ => by
      rcases List.mem_cons.mp hx with rfl | hx
      · exact Or.inl xi.symm
      · exact Or.inr ⟨x, hx, x5, xi⟩
    have onc : ∀ i, wk_on i r → wk_on i ((5, w, a) :: r) := fun i ⟨x, hx, x5, xi⟩ => ⟨x, List.mem_cons_of_mem _ hx, x5, xi⟩
    have ona : wk_on a.toNat ((5, w, a) :: r) := ⟨_, List.mem_cons_self .., rfl, rfl⟩
    refine ⟨by rw [hst', hn']; exact wk_ix_mono _ _ _ t1r (by omega), fun i hi => ?_, fun K V k1 k2 k3 => ?_⟩
    · rw [hst'] at hi
      have l := lt i hi
      rw [(hag i (by omega)).2]
      have := t2 i (onc i hi)
      omega
    · rw [hn'] at k1 k2
      rw [hst'] at k2 k3
      have va : V a.toNat = wk_V 0 h a.toNat := (k2 a.toNat (by omega) (fun z => by have := lt _ z; omega)).trans (hag a.toNat (by omega)).2
      have tr := t3 K V (fun i hi => (k1 i hi).trans (hag i hi).1) (fun i hi ho => (k2 i hi (fun z => ho (onc i z))).trans (hag i hi).2) (fun i hi => by
        rcases onr i hi with rfl | hi
        · have := t2 _ ona
          rw [va]
          omega
        · have l := lt i hi
          have := k3 i hi
          rw [(hag i (by omega)).2] at this
          exact this)
      rw [wk_tr_S z0 tr, wk_cv_5]
      unfold wk_pf
      dsimp only
      rw [if_neg (by decide), if_neg (by decide), if_pos rfl, if_neg (by omega), hst', hn']
      rw [wk_cv_eq (D := fun i => V i - wk_V 0 h i) (D' := fun i => V i - wk_V 0 h' i) r (fun i hi => by have := lt i hi; rw [(hag i (by omega)).2])]
  · -- once more
    obtain ⟨t1, t2, t3⟩ : ta_I h0 zt h := hI.2.2.2.1
    have hg : wk_gc (mi_a h0) (mi_a h) := wk_gc_fr hI.2.1 hS0 rfl
    have i11 := hI.1.2.2.2.2.2.2.2.2.2.2
    rw [hst] at t1 t2 t3
    have t1a : 0 ≤ a ∧ a < wk_n 0 h ∧ wk_ix r a := t1
    obtain ⟨a0, a1, t1r⟩ := t1a
    have lt : ∀ i, wk_on i r → (i : Int) < a := wk_ix_on r _ t1r
    have onr : ∀ i, wk_on i ((5, w, a) :: r) → i = a.toNat ∨ wk_on i r := fun i ⟨x, hx, x5, xi⟩ => by
      rcases List.mem_cons.mp hx with rfl | hx
      · exact Or.inl xi.symm
      · exact Or.inr ⟨x, hx, x5, xi⟩
    have onlt : ∀ i, wk_on i ((5, w, a) :: r) → (i : Int) < wk_n 0 h := fun i hi => by
      rcases onr i hi with rfl | hi
      · omega
      · have := lt i hi
        omega
    have ona : wk_on a.toNat ((5, w, a) :: r) := ⟨_, List.mem_cons_self .., rfl, rfl⟩
    rw [wk_sg_g hg] at hsg
    obtain ⟨P, p1, p2, p3⟩ := wk_sg_P hsg
    have onn : ∀ i, wk_on i (wk_stk h') ↔ wk_on i ((5, w, a) :: r) := fun i => by rw [p2]; exact wk_on_P p1
    refine ⟨by rw [p2]; exact wk_ix_P p1 (wk_ix_mono _ _ _ t1 hle), fun i hi => ?_, fun K V k1 k2 k3 => ?_⟩
    · have hi := (onn i).mp hi
      have := t2 i hi
      rw [(hag i (onlt i hi)).2]
      split <;> omega
    · have ka := k3 a.toNat ((onn _).mpr ona)
      rw [(hag a.toNat (by omega)).2, if_pos rfl] at ka
      have tr := t3 K V (fun i hi => (k1 i (by omega)).trans (hag i hi).1) (fun i hi ho => by
        have := k2 i (by omega) (fun z => ho ((onn i).mp z))
        rw [(hag i hi).2, if_neg (fun e => ho (by rw [e]; exact ona))] at this
        exact this) (fun i hi => by
        have h1 := k3 i ((onn i).mpr hi)
        rw [(hag i (onlt i hi)).2] at h1
        split at h1 <;> omega)
      rw [wk_tr_S z0 tr, wk_cv_5]
      unfold wk_pf
      dsimp only
      rw [if_neg (by decide), if_neg (by decide), if_pos rfl, if_pos (by omega)]
      have q := p3 ((5, w, V a.toNat - wk_V 0 h a.toNat - 1) :: wk_cv (fun i => V i - wk_V 0 h i) r) (by rw [wk_ul_c (by decide), wk_ul_c (by decide), wk_cv_ul])
      have q2 := wk_sg_R (K' := K) q (fun i i1 i2 => k1 i (by omega))
      rw [q2, p2, wk_cv_P p1, wk_cv_5, (hag a.toNat (by omega)).2, if_pos rfl]
      rw [wk_cv_eq (D := fun i => V i - wk_V 0 h i) (D' := fun i => V i - wk_V 0 h' i) r (fun i hi => by have := lt i hi; rw [(hag i (by omega)).2, if_neg (by omega)])]
      have e : V a.toNat - wk_V 0 h a.toNat - 1 = V a.toNat - (wk_V 0 h a.toNat + 1) := by omega
      rw [e]
end INS
/-! segments: tokenize -/
set_option maxRecDepth 20000 in
theorem mp_tk0_0 (h : sm_H) (d : Nat) : mi_path [(229, (8, 0, sb_229))] sx_sk h 5 [] (d + 1, 229, 0, [some (.inr (.inr 109)), none, none, none, none, none, none, none], [], [], []) = some ((d + 1, 229, 7, [some (.inr (.inr 109)), some (.inl ((0 : Int))), none, none, none, none, none, none], [], [.inl (14011, (0 : Int))], []), [0 ≤ ((0 : Int)) ∧ ((0 : Int)) ≤ 160]) := rfl
theorem mi_tab_tk0_0 : ∀ e ∈ ([(229, (8, 0, sb_229))] : mi_T), sc_P e.1 = some e.2 := mi_tb mi_P229 (mi_tb_e)
set_option maxRecDepth 20000 in
theorem ms_tk0_0 {h : sm_H} {d : Nat} {Q : Option mi_V → sm_H → Prop} (hS : ab_Sh sx_sk h)  (ho : (0 ≤ ((0 : Int)) ∧ ((0 : Int)) ≤ 160)) (kon : ∀ h1, me_W [.inl (14011, (0 : Int))] h h1 → me_E (d + 1) 229 7 [some (.inr (.inr 109)), some (.inl ((0 : Int))), none, none, none, none, none, none] [] h1 Q) : me_E (d + 1) 229 0 [some (.inr (.inr 109)), none, none, none, none, none, none, none] [] h Q := me_seg (mp_tk0_0 h d ) (mi_tab_tk0_0) hS (mi_okL_c (trivial) (mi_okL_n (mi_okL_n (mi_okL_n (mi_okL_n (mi_okL_n (mi_okL_n (mi_okL_n (mi_okL_e))))))))) (mi_okS_e) (mi_al (ho) (mi_al_e)) (fun h1 W _ hst => kon h1 W)
set_option maxRecDepth 20000 in
theorem mt_tk0 {h : sm_H} {d : Nat} {Q : Option mi_V → sm_H → Prop} (hS : ab_Sh sx_sk h)  (k0 : (∀ h1, ab_Sh sx_sk h1 → mi_f h1 14011 = (0 : Int) → ab_Fr [(14011, 14012)] h h1 → me_E (d + 1) 229 7 [some (.inr (.inr 109)), some (.inl ((0 : Int))), none, none, none, none, none, none] [] h1 Q)) : me_E (d + 1) 229 0 [some (.inr (.inr 109)), none, none, none, none, none, none, none] [] h Q := ms_tk0_0 hS ((by decide)) (fun h1 W => (k0) h1 W.1 (W.2.1 14011) (W.2.2.2.2.2 _ rfl))
set_option maxRecDepth 20000 in
theorem mp_tk1_0 (h : sm_H) (d : Nat) (zk : Int) (q2 q3 q4 q5 q6 q7 : Option mi_V) : mi_path [(229, (8, 0, sb_229))] sx_sk h 17 [1] (d + 1, 229, 7, [some (.inr (.inr 109)), some (.inl (zk)), q2, q3, q4, q5, q6, q7], [], [], []) = some ((d + 1, 229, 389, [some (.inr (.inr 109)), some (.inl (zk)), q2, q3, q4, q5, q6, q7], [], [.inr (.inr (.inl (153, Int.toNat (mi_f h 14011), mi_f h 13954))), .inr (.inr (.inl (152, Int.toNat (mi_f h 14011), (0 : Int))))], []), [(mi_f h 13954) ≤ zk, 0 ≤ (mi_f h 14011) ∧ (mi_f h 14011) < 161, (-1) ≤ ((0 : Int)) ∧ ((0 : Int)) ≤ 23, 0 ≤ (mi_f h 14011) ∧ (mi_f h 14011) < 161, 0 ≤ (mi_f h 13954) ∧ (mi_f h 13954) ≤ 160]) := rfl
theorem mi_tab_tk1_0 : ∀ e ∈ ([(229, (8, 0, sb_229))] : mi_T), sc_P e.1 = some e.2 := mi_tb mi_P229 (mi_tb_e)
set_option maxRecDepth 20000 in
theorem ms_tk1_0 {h : sm_H} {d : Nat} {Q : Option mi_V → sm_H → Prop} {zk : Int} {q2 q3 q4 q5 q6 q7 : Option mi_V} (hS : ab_Sh sx_sk h) (ok_zk : mi_in zk) (ok_q2 : ∀ v, q2 = some v → mi_ok v) (ok_q3 : ∀ v, q3 = some v → mi_ok v) (ok_q4 : ∀ v, q4 = some v → mi_ok v) (ok_q5 : ∀ v, q5 = some v → mi_ok v) (ok_q6 : ∀ v, q6 = some v → mi_ok v) (ok_q7 : ∀ v, q7 = some v → mi_ok v) (ho : ((mi_f h 13954) ≤ zk) ∧ (0 ≤ (mi_f h 14011) ∧ (mi_f h 14011) < 161) ∧ ((-1) ≤ ((0 : Int)) ∧ ((0 : Int)) ≤ 23) ∧ (0 ≤ (mi_f h 14011) ∧ (mi_f h 14011) < 161) ∧ (0 ≤ (mi_f h 13954) ∧ (mi_f h 13954) ≤ 160)) (kon : ∀ h1, me_W [.inr (.inr (.inl (153, Int.toNat (mi_f h 14011), mi_f h 13954))), .inr (.inr (.inl (152, Int.toNat (mi_f h 14011), (0 : Int))))] h h1 → Q none h1) : me_E (d + 1) 229 7 [some (.inr (.inr 109)), some (.inl (zk)), q2, q3, q4, q5, q6, q7] [] h Q := me_seg (mp_tk1_0 h d zk q2 q3 q4 q5 q6 q7) (mi_tab_tk1_0) hS (mi_okL_c (trivial) (mi_okL_c (ok_zk) (mi_okL_o ok_q2 (mi_okL_o ok_q3 (mi_okL_o ok_q4 (mi_okL_o ok_q5 (mi_okL_o ok_q6 (mi_okL_o ok_q7 (mi_okL_e))))))))) (mi_okS_e) (mi_al (ho.1) (mi_al (ho.2.1) (mi_al (ho.2.2.1) (mi_al (ho.2.2.2.1) (mi_al (ho.2.2.2.2) (mi_al_e)))))) (fun h1 W _ hst => me_ret (M := (8, 0, sb_229)) rfl rfl rfl hst (mi_al_e) (kon h1 W))
set_option maxRecDepth 20000 in
theorem mp_tk1_1 (h : sm_H) (d : Nat) (zk : Int) (q2 q3 q4 q5 q6 q7 : Option mi_V) : mi_path [(229, (8, 0, sb_229))] sx_sk h 10 [0] (d + 1, 229, 7, [some (.inr (.inr 109)), some (.inl (zk)), q2, q3, q4, q5, q6, q7], [], [], []) = some ((d + 1, 229, 23, [some (.inr (.inr 109)), some (.inl (zk)), some (.inl (mi_a h 111 (Int.toNat zk))), q3, q4, q5, q6, q7], [.inl (mi_a h 111 (Int.toNat zk))], [], []), [zk < (mi_f h 13954), 0 ≤ zk ∧ zk < 160]) := rfl
theorem mi_tab_tk1_1 : ∀ e ∈ ([(229, (8, 0, sb_229))] : mi_T), sc_P e.1 = some e.2 := mi_tb mi_P229 (mi_tb_e)
set_option maxRecDepth 20000 in
theorem ms_tk1_1 {h : sm_H} {d : Nat} {Q : Option mi_V → sm_H → Prop} {zk : Int} {q2 q3 q4 q5 q6 q7 : Option mi_V} (hS : ab_Sh sx_sk h) (ok_zk : mi_in zk) (ok_q2 : ∀ v, q2 = some v → mi_ok v) (ok_q3 : ∀ v, q3 = some v → mi_ok v) (ok_q4 : ∀ v, q4 = some v → mi_ok v) (ok_q5 : ∀ v, q5 = some v → mi_ok v) (ok_q6 : ∀ v, q6 = some v → mi_ok v) (ok_q7 : ∀ v, q7 = some v → mi_ok v) (ho : (zk < (mi_f h 13954)) ∧ (0 ≤ zk ∧ zk < 160)) (kon : ∀ h1, me_W [] h h1 → ∃ Q1, me_E (d + 0) 178 0 (mi_entry 1 [.inl (mi_a h 111 (Int.toNat zk))]) [] h1 Q1 ∧ ∀ w h2, (∀ x, w = some x → mi_ok x) → Q1 w h2 → me_E (d + 1) 229 26 [some (.inr (.inr 109)), some (.inl (zk)), some (.inl (mi_a h 111 (Int.toNat zk))), q3, q4, q5, q6, q7] (mi_back w []) h2 Q) : me_E (d + 1) 229 7 [some (.inr (.inr 109)), some (.inl (zk)), q2, q3, q4, q5, q6, q7] [] h Q := me_seg (mp_tk1_1 h d zk q2 q3 q4 q5 q6 q7) (mi_tab_tk1_1) hS (mi_okL_c (trivial) (mi_okL_c (ok_zk) (mi_okL_o ok_q2 (mi_okL_o ok_q3 (mi_okL_o ok_q4 (mi_okL_o ok_q5 (mi_okL_o ok_q6 (mi_okL_o ok_q7 (mi_okL_e))))))))) (mi_okS_e) (mi_al (ho.1) (mi_al (ho.2) (mi_al_e))) (fun h1 W _ hst => let ⟨_, k1, k2⟩ := kon h1 W; me_call (M := (8, 0, sb_229)) (M' := (1, 4, sb_178)) rfl rfl rfl rfl (Nat.le_of_ble_eq_true rfl) (Nat.le_of_ble_eq_true rfl) W.1 k1 k2)
set_option maxRecDepth 20000 in
theorem mt_tk1 {h : sm_H} {d : Nat} {Q : Option mi_V → sm_H → Prop} {zk : Int} {q2 q3 q4 q5 q6 q7 : Option mi_V} (hS : ab_Sh sx_sk h) (ok_zk : mi_in zk) (ok_q2 : ∀ v, q2 = some v → mi_ok v) (ok_q3 : ∀ v, q3 = some v → mi_ok v) (ok_q4 : ∀ v, q4 = some v → mi_ok v) (ok_q5 : ∀ v, q5 = some v → mi_ok v) (ok_q6 : ∀ v, q6 = some v → mi_ok v) (ok_q7 : ∀ v, q7 = some v → mi_ok v) (k0 : (0 ≤ mi_f h 13954 ∧ mi_f h 13954 ≤ 160) → (0 ≤ mi_f h 14011 ∧ mi_f h 14011 ≤ 160) → ((mi_f h 13954) ≤ zk) → ((0 ≤ (mi_f h 14011) ∧ (mi_f h 14011) < 161) ∧ (0 ≤ (mi_f h 13954) ∧ (mi_f h 13954) ≤ 160)) ∧ (∀ h1, ab_Sh sx_sk h1 → (∀ i, mi_a h1 152 i = if i = Int.toNat (mi_f h 14011) then (0 : Int) else (mi_a h 152 i)) → (∀ i, mi_a h1 153 i = if i = Int.toNat (mi_f h 14011) then mi_f h 13954 else (mi_a h 153 i)) → ab_Fr [(19456, 19457), (19584, 19585)] h h1 → Q none h1)) (k1 : (0 ≤ mi_f h 13954 ∧ mi_f h 13954 ≤ 160) → (zk < (mi_f h 13954)) → ((0 ≤ zk ∧ zk < 160)) ∧ (∀ h1, ab_Sh sx_sk h1 → ab_Fr [] h h1 → ∃ Q1, me_E (d + 0) 178 0 (mi_entry 1 [.inl (mi_a h 111 (Int.toNat zk))]) [] h1 Q1 ∧ ∀ w h2, (∀ x, w = some x → mi_ok x) → Q1 w h2 → me_E (d + 1) 229 26 [some (.inr (.inr 109)), some (.inl (zk)), some (.inl (mi_a h 111 (Int.toNat zk))), q3, q4, q5, q6, q7] (mi_back w []) h2 Q)) : me_E (d + 1) 229 7 [some (.inr (.inr 109)), some (.inl (zk)), q2, q3, q4, q5, q6, q7] [] h Q := Or.elim (mi_em .ge (zk) ((mi_f h 13954))) (fun c0 => ms_tk1_0 hS ok_zk ok_q2 ok_q3 ok_q4 ok_q5 ok_q6 ok_q7 ⟨c0, (k0 (me_fb hS rfl) (me_fb hS rfl) c0).1.1, (by decide), (k0 (me_fb hS rfl) (me_fb hS rfl) c0).1.1, (k0 (me_fb hS rfl) (me_fb hS rfl) c0).1.2⟩ (fun h1 W => (k0 (me_fb hS rfl) (me_fb hS rfl) c0).2 h1 W.1 (fun i => W.2.2.1 152 i) (fun i => W.2.2.1 153 i) (W.2.2.2.2.2 _ rfl))) (fun c0 => ms_tk1_1 hS ok_zk ok_q2 ok_q3 ok_q4 ok_q5 ok_q6 ok_q7 ⟨c0, (k1 (me_fb hS rfl) c0).1⟩ (fun h1 W => (k1 (me_fb hS rfl) c0).2 h1 W.1 (W.2.2.2.2.2 _ rfl)))
set_option maxRecDepth 20000 in
theorem mp_tk2_0 (h : sm_H) (d : Nat) (zk zc zz : Int) (q3 q4 q5 q6 q7 : Option mi_V) : mi_path [(229, (8, 0, sb_229))] sx_sk h 8 [1] (d + 1, 229, 26, [some (.inr (.inr 109)), some (.inl (zk)), some (.inl (zc)), q3, q4, q5, q6, q7], [.inl (zz)], [], []) = some ((d + 1, 229, 46, [some (.inr (.inr 109)), some (.inl (zk)), some (.inl (zc)), q3, q4, q5, q6, q7], [.inl (zc)], [.inr (.inr (.inl (153, Int.toNat (mi_f h 14011), zk)))], []), [zz = ((0 : Int)), 0 ≤ (mi_f h 14011) ∧ (mi_f h 14011) < 161, 0 ≤ zk ∧ zk ≤ 160]) := rfl
theorem mi_tab_tk2_0 : ∀ e ∈ ([(229, (8, 0, sb_229))] : mi_T), sc_P e.1 = some e.2 := mi_tb mi_P229 (mi_tb_e)
set_option maxRecDepth 20000 in
theorem ms_tk2_0 {h : sm_H} {d : Nat} {Q : Option mi_V → sm_H → Prop} {zk zc zz : Int} {q3 q4 q5 q6 q7 : Option mi_V} (hS : ab_Sh sx_sk h) (ok_zk : mi_in zk) (ok_zc : mi_in zc) (ok_zz : mi_in zz) (ok_q3 : ∀ v, q3 = some v → mi_ok v) (ok_q4 : ∀ v, q4 = some v → mi_ok v) (ok_q5 : ∀ v, q5 = some v → mi_ok v) (ok_q6 : ∀ v, q6 = some v → mi_ok v) (ok_q7 : ∀ v, q7 = some v → mi_ok v) (ho : (zz = ((0 : Int))) ∧ (0 ≤ (mi_f h 14011) ∧ (mi_f h 14011) < 161) ∧ (0 ≤ zk ∧ zk ≤ 160)) (kon : ∀ h1, me_W [.inr (.inr (.inl (153, Int.toNat (mi_f h 14011), zk)))] h h1 → ∃ Q1, me_E (d + 0) 180 0 (mi_entry 1 [.inl (zc)]) [] h1 Q1 ∧ ∀ w h2, (∀ x, w = some x → mi_ok x) → Q1 w h2 → me_E (d + 1) 229 49 [some (.inr (.inr 109)), some (.inl (zk)), some (.inl (zc)), q3, q4, q5, q6, q7] (mi_back w []) h2 Q) : me_E (d + 1) 229 26 [some (.inr (.inr 109)), some (.inl (zk)), some (.inl (zc)), q3, q4, q5, q6, q7] [.inl (zz)] h Q := me_seg (mp_tk2_0 h d zk zc zz q3 q4 q5 q6 q7) (mi_tab_tk2_0) hS (mi_okL_c (trivial) (mi_okL_c (ok_zk) (mi_okL_c (ok_zc) (mi_okL_o ok_q3 (mi_okL_o ok_q4 (mi_okL_o ok_q5 (mi_okL_o ok_q6 (mi_okL_o ok_q7 (mi_okL_e))))))))) (mi_okS_cons (ok_zz) (mi_okS_e)) (mi_al (ho.1) (mi_al (ho.2.1) (mi_al (ho.2.2) (mi_al_e)))) (fun h1 W _ hst => let ⟨_, k1, k2⟩ := kon h1 W; me_call (M := (8, 0, sb_229)) (M' := (1, 4, sb_180)) rfl rfl rfl rfl (Nat.le_of_ble_eq_true rfl) (Nat.le_of_ble_eq_true rfl) W.1 k1 k2)
set_option maxRecDepth 20000 in
theorem mp_tk2_1 (h : sm_H) (d : Nat) (zk zc zz : Int) (q3 q4 q5 q6 q7 : Option mi_V) : mi_path [(229, (8, 0, sb_229))] sx_sk h 3 [0] (d + 1, 229, 26, [some (.inr (.inr 109)), some (.inl (zk)), some (.inl (zc)), q3, q4, q5, q6, q7], [.inl (zz)], [], []) = some ((d + 1, 229, 7, [some (.inr (.inr 109)), some (.inl (zk + 1)), some (.inl (zc)), q3, q4, q5, q6, q7], [], [], []), [zz ≠ ((0 : Int)), -2147483648 ≤ zk + 1 ∧ zk + 1 ≤ 2147483647]) := rfl
theorem mi_tab_tk2_1 : ∀ e ∈ ([(229, (8, 0, sb_229))] : mi_T), sc_P e.1 = some e.2 := mi_tb mi_P229 (mi_tb_e)
set_option maxRecDepth 20000 in
theorem ms_tk2_1 {h : sm_H} {d : Nat} {Q : Option mi_V → sm_H → Prop} {zk zc zz : Int} {q3 q4 q5 q6 q7 : Option mi_V} (hS : ab_Sh sx_sk h) (ok_zk : mi_in zk) (ok_zc : mi_in zc) (ok_zz : mi_in zz) (ok_q3 : ∀ v, q3 = some v → mi_ok v) (ok_q4 : ∀ v, q4 = some v → mi_ok v) (ok_q5 : ∀ v, q5 = some v → mi_ok v) (ok_q6 : ∀ v, q6 = some v → mi_ok v) (ok_q7 : ∀ v, q7 = some v → mi_ok v) (ho : (zz ≠ ((0 : Int))) ∧ (-2147483648 ≤ zk + 1 ∧ zk + 1 ≤ 2147483647)) (kon : ∀ h1, me_W [] h h1 → me_E (d + 1) 229 7 [some (.inr (.inr 109)), some (.inl (zk + 1)), some (.inl (zc)), q3, q4, q5, q6, q7] [] h1 Q) : me_E (d + 1) 229 26 [some (.inr (.inr 109)), some (.inl (zk)), some (.inl (zc)), q3, q4, q5, q6, q7] [.inl (zz)] h Q := me_seg (mp_tk2_1 h d zk zc zz q3 q4 q5 q6 q7) (mi_tab_tk2_1) hS (mi_okL_c (trivial) (mi_okL_c (ok_zk) (mi_okL_c (ok_zc) (mi_okL_o ok_q3 (mi_okL_o ok_q4 (mi_okL_o ok_q5 (mi_okL_o ok_q6 (mi_okL_o ok_q7 (mi_okL_e))))))))) (mi_okS_cons (ok_zz) (mi_okS_e)) (mi_al (ho.1) (mi_al (ho.2) (mi_al_e))) (fun h1 W _ hst => kon h1 W)
set_option maxRecDepth 20000 in
theorem mt_tk2 {h : sm_H} {d : Nat} {Q : Option mi_V → sm_H → Prop} {zk zc zz : Int} {q3 q4 q5 q6 q7 : Option mi_V} (hS : ab_Sh sx_sk h) (ok_zk : mi_in zk) (ok_zc : mi_in zc) (ok_zz : mi_in zz) (ok_q3 : ∀ v, q3 = some v → mi_ok v) (ok_q4 : ∀ v, q4 = some v → mi_ok v) (ok_q5 : ∀ v, q5 = some v → mi_ok v) (ok_q6 : ∀ v, q6 = some v → mi_ok v) (ok_q7 : ∀ v, q7 = some v → mi_ok v) (k0 : (0 ≤ mi_f h 14011 ∧ mi_f h 14011 ≤ 160) → (zz = ((0 : Int))) → ((0 ≤ (mi_f h 14011) ∧ (mi_f h 14011) < 161) ∧ (0 ≤ zk ∧ zk ≤ 160)) ∧ (∀ h1, ab_Sh sx_sk h1 → (∀ i, mi_a h1 153 i = if i = Int.toNat (mi_f h 14011) then zk else (mi_a h 153 i)) → ab_Fr [(19584, 19585)] h h1 → ∃ Q1, me_E (d + 0) 180 0 (mi_entry 1 [.inl (zc)]) [] h1 Q1 ∧ ∀ w h2, (∀ x, w = some x → mi_ok x) → Q1 w h2 → me_E (d + 1) 229 49 [some (.inr (.inr 109)), some (.inl (zk)), some (.inl (zc)), q3, q4, q5, q6, q7] (mi_back w []) h2 Q)) (k1 : (zz ≠ ((0 : Int))) → ((-2147483648 ≤ zk + 1 ∧ zk + 1 ≤ 2147483647)) ∧ (∀ h1, ab_Sh sx_sk h1 → ab_Fr [] h h1 → me_E (d + 1) 229 7 [some (.inr (.inr 109)), some (.inl (zk + 1)), some (.inl (zc)), q3, q4, q5, q6, q7] [] h1 Q)) : me_E (d + 1) 229 26 [some (.inr (.inr 109)), some (.inl (zk)), some (.inl (zc)), q3, q4, q5, q6, q7] [.inl (zz)] h Q := Or.elim (mi_em .eq (zz) (((0 : Int)))) (fun c0 => ms_tk2_0 hS ok_zk ok_zc ok_zz ok_q3 ok_q4 ok_q5 ok_q6 ok_q7 ⟨c0, (k0 (me_fb hS rfl) c0).1.1, (k0 (me_fb hS rfl) c0).1.2⟩ (fun h1 W => (k0 (me_fb hS rfl) c0).2 h1 W.1 (fun i => W.2.2.1 153 i) (W.2.2.2.2.2 _ rfl))) (fun c0 => ms_tk2_1 hS ok_zk ok_zc ok_zz ok_q3 ok_q4 ok_q5 ok_q6 ok_q7 ⟨c0, (k1 c0).1⟩ (fun h1 W => (k1 c0).2 h1 W.1 (W.2.2.2.2.2 _ rfl)))
set_option maxRecDepth 20000 in
theorem mp_tk3_0 (h : sm_H) (d : Nat) (zk zc zz : Int) (q3 q4 q5 q6 q7 : Option mi_V) : mi_path [(229, (8, 0, sb_229))] sx_sk h 2 [] (d + 1, 229, 49, [some (.inr (.inr 109)), some (.inl (zk)), some (.inl (zc)), q3, q4, q5, q6, q7], [.inl (zz)], [], []) = some ((d + 1, 229, 51, [some (.inr (.inr 109)), some (.inl (zk)), some (.inl (zc)), some (.inl (zz)), q4, q5, q6, q7], [.inl (zc)], [], []), []) := rfl
theorem mi_tab_tk3_0 : ∀ e ∈ ([(229, (8, 0, sb_229))] : mi_T), sc_P e.1 = some e.2 := mi_tb mi_P229 (mi_tb_e)
set_option maxRecDepth 20000 in
theorem ms_tk3_0 {h : sm_H} {d : Nat} {Q : Option mi_V → sm_H → Prop} {zk zc zz : Int} {q3 q4 q5 q6 q7 : Option mi_V} (hS : ab_Sh sx_sk h) (ok_zk : mi_in zk) (ok_zc : mi_in zc) (ok_zz : mi_in zz) (ok_q3 : ∀ v, q3 = some v → mi_ok v) (ok_q4 : ∀ v, q4 = some v → mi_ok v) (ok_q5 : ∀ v, q5 = some v → mi_ok v) (ok_q6 : ∀ v, q6 = some v → mi_ok v) (ok_q7 : ∀ v, q7 = some v → mi_ok v) (kon : ∀ h1, me_W [] h h1 → ∃ Q1, me_E (d + 0) 182 0 (mi_entry 1 [.inl (zc)]) [] h1 Q1 ∧ ∀ w h2, (∀ x, w = some x → mi_ok x) → Q1 w h2 → me_E (d + 1) 229 54 [some (.inr (.inr 109)), some (.inl (zk)), some (.inl (zc)), some (.inl (zz)), q4, q5, q6, q7] (mi_back w []) h2 Q) : me_E (d + 1) 229 49 [some (.inr (.inr 109)), some (.inl (zk)), some (.inl (zc)), q3, q4, q5, q6, q7] [.inl (zz)] h Q := me_seg (mp_tk3_0 h d zk zc zz q3 q4 q5 q6 q7) (mi_tab_tk3_0) hS (mi_okL_c (trivial) (mi_okL_c (ok_zk) (mi_okL_c (ok_zc) (mi_okL_o ok_q3 (mi_okL_o ok_q4 (mi_okL_o ok_q5 (mi_okL_o ok_q6 (mi_okL_o ok_q7 (mi_okL_e))))))))) (mi_okS_cons (ok_zz) (mi_okS_e)) (mi_al_e) (fun h1 W _ hst => let ⟨_, k1, k2⟩ := kon h1 W; me_call (M := (8, 0, sb_229)) (M' := (1, 4, sb_182)) rfl rfl rfl rfl (Nat.le_of_ble_eq_true rfl) (Nat.le_of_ble_eq_true rfl) W.1 k1 k2)
set_option maxRecDepth 20000 in
theorem mt_tk3 {h : sm_H} {d : Nat} {Q : Option mi_V → sm_H → Prop} {zk zc zz : Int} {q3 q4 q5 q6 q7 : Option mi_V} (hS : ab_Sh sx_sk h) (ok_zk : mi_in zk) (ok_zc : mi_in zc) (ok_zz : mi_in zz) (ok_q3 : ∀ v, q3 = some v → mi_ok v) (ok_q4 : ∀ v, q4 = some v → mi_ok v) (ok_q5 : ∀ v, q5 = some v → mi_ok v) (ok_q6 : ∀ v, q6 = some v → mi_ok v) (ok_q7 : ∀ v, q7 = some v → mi_ok v) (k0 : (∀ h1, ab_Sh sx_sk h1 → ab_Fr [] h h1 → ∃ Q1, me_E (d + 0) 182 0 (mi_entry 1 [.inl (zc)]) [] h1 Q1 ∧ ∀ w h2, (∀ x, w = some x → mi_ok x) → Q1 w h2 → me_E (d + 1) 229 54 [some (.inr (.inr 109)), some (.inl (zk)), some (.inl (zc)), some (.inl (zz)), q4, q5, q6, q7] (mi_back w []) h2 Q)) : me_E (d + 1) 229 49 [some (.inr (.inr 109)), some (.inl (zk)), some (.inl (zc)), q3, q4, q5, q6, q7] [.inl (zz)] h Q := ms_tk3_0 hS ok_zk ok_zc ok_zz ok_q3 ok_q4 ok_q5 ok_q6 ok_q7 (fun h1 W => (k0) h1 W.1 (W.2.2.2.2.2 _ rfl))
set_option maxRecDepth 20000 in
theorem mp_tk4_0 (h : sm_H) (d : Nat) (zk zc zl zz : Int) (q4 q5 q6 q7 : Option mi_V) : mi_path [(229, (8, 0, sb_229))] sx_sk h 5 [8] (d + 1, 229, 54, [some (.inr (.inr 109)), some (.inl (zk)), some (.inl (zc)), some (.inl (zl)), q4, q5, q6, q7], [.inl (zz)], [], []) = some ((d + 1, 229, 61, [some (.inr (.inr 109)), some (.inl (zk)), some (.inl (zc)), some (.inl (zl)), some (.inl (zz)), some (.inl (zk + ((1 : Int)))), q6, q7], [], [], []), [-2147483648 ≤ zk + ((1 : Int)) ∧ zk + ((1 : Int)) ≤ 2147483647]) := rfl
theorem mi_tab_tk4_0 : ∀ e ∈ ([(229, (8, 0, sb_229))] : mi_T), sc_P e.1 = some e.2 := mi_tb mi_P229 (mi_tb_e)
set_option maxRecDepth 20000 in
theorem ms_tk4_0 {h : sm_H} {d : Nat} {Q : Option mi_V → sm_H → Prop} {zk zc zl zz : Int} {q4 q5 q6 q7 : Option mi_V} (hS : ab_Sh sx_sk h) (ok_zk : mi_in zk) (ok_zc : mi_in zc) (ok_zl : mi_in zl) (ok_zz : mi_in zz) (ok_q4 : ∀ v, q4 = some v → mi_ok v) (ok_q5 : ∀ v, q5 = some v → mi_ok v) (ok_q6 : ∀ v, q6 = some v → mi_ok v) (ok_q7 : ∀ v, q7 = some v → mi_ok v) (ho : (-2147483648 ≤ zk + ((1 : Int)) ∧ zk + ((1 : Int)) ≤ 2147483647)) (kon : ∀ h1, me_W [] h h1 → me_E (d + 1) 229 61 [some (.inr (.inr 109)), some (.inl (zk)), some (.inl (zc)), some (.inl (zl)), some (.inl (zz)), some (.inl (zk + ((1 : Int)))), q6, q7] [] h1 Q) : me_E (d + 1) 229 54 [some (.inr (.inr 109)), some (.inl (zk)), some (.inl (zc)), some (.inl (zl)), q4, q5, q6, q7] [.inl (zz)] h Q := me_seg (mp_tk4_0 h d zk zc zl zz q4 q5 q6 q7) (mi_tab_tk4_0) hS (mi_okL_c (trivial) (mi_okL_c (ok_zk) (mi_okL_c (ok_zc) (mi_okL_c (ok_zl) (mi_okL_o ok_q4 (mi_okL_o ok_q5 (mi_okL_o ok_q6 (mi_okL_o ok_q7 (mi_okL_e))))))))) (mi_okS_cons (ok_zz) (mi_okS_e)) (mi_al (ho) (mi_al_e)) (fun h1 W _ hst => kon h1 W)
set_option maxRecDepth 20000 in
theorem mt_tk4 {h : sm_H} {d : Nat} {Q : Option mi_V → sm_H → Prop} {zk zc zl zz : Int} {q4 q5 q6 q7 : Option mi_V} (hS : ab_Sh sx_sk h) (ok_zk : mi_in zk) (ok_zc : mi_in zc) (ok_zl : mi_in zl) (ok_zz : mi_in zz) (ok_q4 : ∀ v, q4 = some v → mi_ok v) (ok_q5 : ∀ v, q5 = some v → mi_ok v) (ok_q6 : ∀ v, q6 = some v → mi_ok v) (ok_q7 : ∀ v, q7 = some v → mi_ok v) (k0 : ((-2147483648 ≤ zk + ((1 : Int)) ∧ zk + ((1 : Int)) ≤ 2147483647)) ∧ (∀ h1, ab_Sh sx_sk h1 → ab_Fr [] h h1 → me_E (d + 1) 229 61 [some (.inr (.inr 109)), some (.inl (zk)), some (.inl (zc)), some (.inl (zl)), some (.inl (zz)), some (.inl (zk + ((1 : Int)))), q6, q7] [] h1 Q)) : me_E (d + 1) 229 54 [some (.inr (.inr 109)), some (.inl (zk)), some (.inl (zc)), some (.inl (zl)), q4, q5, q6, q7] [.inl (zz)] h Q := ms_tk4_0 hS ok_zk ok_zc ok_zl ok_zz ok_q4 ok_q5 ok_q6 ok_q7 ((k0).1) (fun h1 W => (k0).2 h1 W.1 (W.2.2.2.2.2 _ rfl))
set_option maxRecDepth 20000 in
theorem mp_tk5_0 (h : sm_H) (d : Nat) (zk zc zl zd ze : Int) (q6 q7 : Option mi_V) : mi_path [(229, (8, 0, sb_229))] sx_sk h 4 [1] (d + 1, 229, 61, [some (.inr (.inr 109)), some (.inl (zk)), some (.inl (zc)), some (.inl (zl)), some (.inl (zd)), some (.inl (ze)), q6, q7], [], [], []) = some ((d + 1, 229, 111, [some (.inr (.inr 109)), some (.inl (zk)), some (.inl (zc)), some (.inl (zl)), some (.inl (zd)), some (.inl (ze)), q6, q7], [], [], []), [(mi_f h 13954) ≤ ze]) := rfl
theorem mi_tab_tk5_0 : ∀ e ∈ ([(229, (8, 0, sb_229))] : mi_T), sc_P e.1 = some e.2 := mi_tb mi_P229 (mi_tb_e)
set_option maxRecDepth 20000 in
theorem ms_tk5_0 {h : sm_H} {d : Nat} {Q : Option mi_V → sm_H → Prop} {zk zc zl zd ze : Int} {q6 q7 : Option mi_V} (hS : ab_Sh sx_sk h) (ok_zk : mi_in zk) (ok_zc : mi_in zc) (ok_zl : mi_in zl) (ok_zd : mi_in zd) (ok_ze : mi_in ze) (ok_q6 : ∀ v, q6 = some v → mi_ok v) (ok_q7 : ∀ v, q7 = some v → mi_ok v) (ho : ((mi_f h 13954) ≤ ze)) (kon : ∀ h1, me_W [] h h1 → me_E (d + 1) 229 111 [some (.inr (.inr 109)), some (.inl (zk)), some (.inl (zc)), some (.inl (zl)), some (.inl (zd)), some (.inl (ze)), q6, q7] [] h1 Q) : me_E (d + 1) 229 61 [some (.inr (.inr 109)), some (.inl (zk)), some (.inl (zc)), some (.inl (zl)), some (.inl (zd)), some (.inl (ze)), q6, q7] [] h Q := me_seg (mp_tk5_0 h d zk zc zl zd ze q6 q7) (mi_tab_tk5_0) hS (mi_okL_c (trivial) (mi_okL_c (ok_zk) (mi_okL_c (ok_zc) (mi_okL_c (ok_zl) (mi_okL_c (ok_zd) (mi_okL_c (ok_ze) (mi_okL_o ok_q6 (mi_okL_o ok_q7 (mi_okL_e))))))))) (mi_okS_e) (mi_al (ho) (mi_al_e)) (fun h1 W _ hst => kon h1 W)
set_option maxRecDepth 20000 in
theorem mp_tk5_1 (h : sm_H) (d : Nat) (zk zc zl zd ze : Int) (q6 q7 : Option mi_V) : mi_path [(229, (8, 0, sb_229))] sx_sk h 8 [0, 1, 1] (d + 1, 229, 61, [some (.inr (.inr 109)), some (.inl (zk)), some (.inl (zc)), some (.inl (zl)), some (.inl (zd)), some (.inl (ze)), q6, q7], [], [], []) = some ((d + 1, 229, 111, [some (.inr (.inr 109)), some (.inl (zk)), some (.inl (zc)), some (.inl (zl)), some (.inl (zd)), some (.inl (ze)), q6, q7], [], [], []), [ze < (mi_f h 13954), zl = ((0 : Int)), zd = ((0 : Int))]) := rfl
theorem mi_tab_tk5_1 : ∀ e ∈ ([(229, (8, 0, sb_229))] : mi_T), sc_P e.1 = some e.2 := mi_tb mi_P229 (mi_tb_e)
set_option maxRecDepth 20000 in
theorem ms_tk5_1 {h : sm_H} {d : Nat} {Q : Option mi_V → sm_H → Prop} {zk zc zl zd ze : Int} {q6 q7 : Option mi_V} (hS : ab_Sh sx_sk h) (ok_zk : mi_in zk) (ok_zc : mi_in zc) (ok_zl : mi_in zl) (ok_zd : mi_in zd) (ok_ze : mi_in ze) (ok_q6 : ∀ v, q6 = some v → mi_ok v) (ok_q7 : ∀ v, q7 = some v → mi_ok v) (ho : (ze < (mi_f h 13954)) ∧ (zl = ((0 : Int))) ∧ (zd = ((0 : Int)))) (kon : ∀ h1, me_W [] h h1 → me_E (d + 1) 229 111 [some (.inr (.inr 109)), some (.inl (zk)), some (.inl (zc)), some (.inl (zl)), some (.inl (zd)), some (.inl (ze)), q6, q7] [] h1 Q) : me_E (d + 1) 229 61 [some (.inr (.inr 109)), some (.inl (zk)), some (.inl (zc)), some (.inl (zl)), some (.inl (zd)), some (.inl (ze)), q6, q7] [] h Q := me_seg (mp_tk5_1 h d zk zc zl zd ze q6 q7) (mi_tab_tk5_1) hS (mi_okL_c (trivial) (mi_okL_c (ok_zk) (mi_okL_c (ok_zc) (mi_okL_c (ok_zl) (mi_okL_c (ok_zd) (mi_okL_c (ok_ze) (mi_okL_o ok_q6 (mi_okL_o ok_q7 (mi_okL_e))))))))) (mi_okS_e) (mi_al (ho.1) (mi_al (ho.2.1) (mi_al (ho.2.2) (mi_al_e)))) (fun h1 W _ hst => kon h1 W)
set_option maxRecDepth 20000 in
theorem mp_tk5_2 (h : sm_H) (d : Nat) (zk zc zl zd ze : Int) (q6 q7 : Option mi_V) : mi_path [(229, (8, 0, sb_229))] sx_sk h 12 [0, 1, 0] (d + 1, 229, 61, [some (.inr (.inr 109)), some (.inl (zk)), some (.inl (zc)), some (.inl (zl)), some (.inl (zd)), some (.inl (ze)), q6, q7], [], [], []) = some ((d + 1, 229, 99, [some (.inr (.inr 109)), some (.inl (zk)), some (.inl (zc)), some (.inl (zl)), some (.inl (zd)), some (.inl (ze)), q6, q7], [.inl (mi_a h 111 (Int.toNat ze))], [], []), [ze < (mi_f h 13954), zl = ((0 : Int)), zd ≠ ((0 : Int)), 0 ≤ ze ∧ ze < 160]) := rfl
theorem mi_tab_tk5_2 : ∀ e ∈ ([(229, (8, 0, sb_229))] : mi_T), sc_P e.1 = some e.2 := mi_tb mi_P229 (mi_tb_e)
set_option maxRecDepth 20000 in
theorem ms_tk5_2 {h : sm_H} {d : Nat} {Q : Option mi_V → sm_H → Prop} {zk zc zl zd ze : Int} {q6 q7 : Option mi_V} (hS : ab_Sh sx_sk h) (ok_zk : mi_in zk) (ok_zc : mi_in zc) (ok_zl : mi_in zl) (ok_zd : mi_in zd) (ok_ze : mi_in ze) (ok_q6 : ∀ v, q6 = some v → mi_ok v) (ok_q7 : ∀ v, q7 = some v → mi_ok v) (ho : (ze < (mi_f h 13954)) ∧ (zl = ((0 : Int))) ∧ (zd ≠ ((0 : Int))) ∧ (0 ≤ ze ∧ ze < 160)) (kon : ∀ h1, me_W [] h h1 → ∃ Q1, me_E (d + 0) 182 0 (mi_entry 1 [.inl (mi_a h 111 (Int.toNat ze))]) [] h1 Q1 ∧ ∀ w h2, (∀ x, w = some x → mi_ok x) → Q1 w h2 → me_E (d + 1) 229 102 [some (.inr (.inr 109)), some (.inl (zk)), some (.inl (zc)), some (.inl (zl)), some (.inl (zd)), some (.inl (ze)), q6, q7] (mi_back w []) h2 Q) : me_E (d + 1) 229 61 [some (.inr (.inr 109)), some (.inl (zk)), some (.inl (zc)), some (.inl (zl)), some (.inl (zd)), some (.inl (ze)), q6, q7] [] h Q := me_seg (mp_tk5_2 h d zk zc zl zd ze q6 q7) (mi_tab_tk5_2) hS (mi_okL_c (trivial) (mi_okL_c (ok_zk) (mi_okL_c (ok_zc) (mi_okL_c (ok_zl) (mi_okL_c (ok_zd) (mi_okL_c (ok_ze) (mi_okL_o ok_q6 (mi_okL_o ok_q7 (mi_okL_e))))))))) (mi_okS_e) (mi_al (ho.1) (mi_al (ho.2.1) (mi_al (ho.2.2.1) (mi_al (ho.2.2.2) (mi_al_e))))) (fun h1 W _ hst => let ⟨_, k1, k2⟩ := kon h1 W; me_call (M := (8, 0, sb_229)) (M' := (1, 4, sb_182)) rfl rfl rfl rfl (Nat.le_of_ble_eq_true rfl) (Nat.le_of_ble_eq_true rfl) W.1 k1 k2)
set_option maxRecDepth 20000 in
theorem mp_tk5_3 (h : sm_H) (d : Nat) (zk zc zl zd ze : Int) (q6 q7 : Option mi_V) : mi_path [(229, (8, 0, sb_229))] sx_sk h 10 [0, 0] (d + 1, 229, 61, [some (.inr (.inr 109)), some (.inl (zk)), some (.inl (zc)), some (.inl (zl)), some (.inl (zd)), some (.inl (ze)), q6, q7], [], [], []) = some ((d + 1, 229, 81, [some (.inr (.inr 109)), some (.inl (zk)), some (.inl (zc)), some (.inl (zl)), some (.inl (zd)), some (.inl (ze)), q6, q7], [.inl (mi_a h 111 (Int.toNat ze))], [], []), [ze < (mi_f h 13954), zl ≠ ((0 : Int)), 0 ≤ ze ∧ ze < 160]) := rfl
theorem mi_tab_tk5_3 : ∀ e ∈ ([(229, (8, 0, sb_229))] : mi_T), sc_P e.1 = some e.2 := mi_tb mi_P229 (mi_tb_e)
set_option maxRecDepth 20000 in
theorem ms_tk5_3 {h : sm_H} {d : Nat} {Q : Option mi_V → sm_H → Prop} {zk zc zl zd ze : Int} {q6 q7 : Option mi_V} (hS : ab_Sh sx_sk h) (ok_zk : mi_in zk) (ok_zc : mi_in zc) (ok_zl : mi_in zl) (ok_zd : mi_in zd) (ok_ze : mi_in ze) (ok_q6 : ∀ v, q6 = some v → mi_ok v) (ok_q7 : ∀ v, q7 = some v → mi_ok v) (ho : (ze < (mi_f h 13954)) ∧ (zl ≠ ((0 : Int))) ∧ (0 ≤ ze ∧ ze < 160)) (kon : ∀ h1, me_W [] h h1 → ∃ Q1, me_E (d + 0) 180 0 (mi_entry 1 [.inl (mi_a h 111 (Int.toNat ze))]) [] h1 Q1 ∧ ∀ w h2, (∀ x, w = some x → mi_ok x) → Q1 w h2 → me_E (d + 1) 229 84 [some (.inr (.inr 109)), some (.inl (zk)), some (.inl (zc)), some (.inl (zl)), some (.inl (zd)), some (.inl (ze)), q6, q7] (mi_back w []) h2 Q) : me_E (d + 1) 229 61 [some (.inr (.inr 109)), some (.inl (zk)), some (.inl (zc)), some (.inl (zl)), some (.inl (zd)), some (.inl (ze)), q6, q7] [] h Q := me_seg (mp_tk5_3 h d zk zc zl zd ze q6 q7) (mi_tab_tk5_3) hS (mi_okL_c (trivial) (mi_okL_c (ok_zk) (mi_okL_c (ok_zc) (mi_okL_c (ok_zl) (mi_okL_c (ok_zd) (mi_okL_c (ok_ze) (mi_okL_o ok_q6 (mi_okL_o ok_q7 (mi_okL_e))))))))) (mi_okS_e) (mi_al (ho.1) (mi_al (ho.2.1) (mi_al (ho.2.2) (mi_al_e)))) (fun h1 W _ hst => let ⟨_, k1, k2⟩ := kon h1 W; me_call (M := (8, 0, sb_229)) (M' := (1, 4, sb_180)) rfl rfl rfl rfl (Nat.le_of_ble_eq_true rfl) (Nat.le_of_ble_eq_true rfl) W.1 k1 k2)
set_option maxRecDepth 20000 in
theorem mt_tk5 {h : sm_H} {d : Nat} {Q : Option mi_V → sm_H → Prop} {zk zc zl zd ze : Int} {q6 q7 : Option mi_V} (hS : ab_Sh sx_sk h) (ok_zk : mi_in zk) (ok_zc : mi_in zc) (ok_zl : mi_in zl) (ok_zd : mi_in zd) (ok_ze : mi_in ze) (ok_q6 : ∀ v, q6 = some v → mi_ok v) (ok_q7 : ∀ v, q7 = some v → mi_ok v) (k0 : (0 ≤ mi_f h 13954 ∧ mi_f h 13954 ≤ 160) → ((mi_f h 13954) ≤ ze) → (∀ h1, ab_Sh sx_sk h1 → ab_Fr [] h h1 → me_E (d + 1) 229 111 [some (.inr (.inr 109)), some (.inl (zk)), some (.inl (zc)), some (.inl (zl)), some (.inl (zd)), some (.inl (ze)), q6, q7] [] h1 Q)) (k1 : (0 ≤ mi_f h 13954 ∧ mi_f h 13954 ≤ 160) → (ze < (mi_f h 13954)) → (zl = ((0 : Int))) → (zd = ((0 : Int))) → (∀ h1, ab_Sh sx_sk h1 → ab_Fr [] h h1 → me_E (d + 1) 229 111 [some (.inr (.inr 109)), some (.inl (zk)), some (.inl (zc)), some (.inl (zl)), some (.inl (zd)), some (.inl (ze)), q6, q7] [] h1 Q)) (k2 : (0 ≤ mi_f h 13954 ∧ mi_f h 13954 ≤ 160) → (ze < (mi_f h 13954)) → (zl = ((0 : Int))) → (zd ≠ ((0 : Int))) → ((0 ≤ ze ∧ ze < 160)) ∧ (∀ h1, ab_Sh sx_sk h1 → ab_Fr [] h h1 → ∃ Q1, me_E (d + 0) 182 0 (mi_entry 1 [.inl (mi_a h 111 (Int.toNat ze))]) [] h1 Q1 ∧ ∀ w h2, (∀ x, w = some x → mi_ok x) → Q1 w h2 → me_E (d + 1) 229 102 [some (.inr (.inr 109)), some (.inl (zk)), some (.inl (zc)), some (.inl (zl)), some (.inl (zd)), some (.inl (ze)), q6, q7] (mi_back w []) h2 Q)) (k3 : (0 ≤ mi_f h 13954 ∧ mi_f h 13954 ≤ 160) → (ze < (mi_f h 13954)) → (zl ≠ ((0 : Int))) → ((0 ≤ ze ∧ ze < 160)) ∧ (∀ h1, ab_Sh sx_sk h1 → ab_Fr [] h h1 → ∃ Q1, me_E (d + 0) 180 0 (mi_entry 1 [.inl (mi_a h 111 (Int.toNat ze))]) [] h1 Q1 ∧ ∀ w h2, (∀ x, w = some x → mi_ok x) → Q1 w h2 → me_E (d + 1) 229 84 [some (.inr (.inr 109)), some (.inl (zk)), some (.inl (zc)), some (.inl (zl)), some (.inl (zd)), some (.inl (ze)), q6, q7] (mi_back w []) h2 Q)) : me_E (d + 1) 229 61 [some (.inr (.inr 109)), some (.inl (zk)), some (.inl (zc)), some (.inl (zl)), some (.inl (zd)), some (.inl (ze)), q6, q7] [] h Q := Or.elim (mi_em .ge (ze) ((mi_f h 13954))) (fun c0 => ms_tk5_0 hS ok_zk ok_zc ok_zl ok_zd ok_ze ok_q6 ok_q7 (c0) (fun h1 W => (k0 (me_fb hS rfl) c0) h1 W.1 (W.2.2.2.2.2 _ rfl))) (fun c0 => Or.elim (mi_em .eq (zl) (((0 : Int)))) (fun c1 => Or.elim (mi_em .eq (zd) (((0 : Int)))) (fun c2 => ms_tk5_1 hS ok_zk ok_zc ok_zl ok_zd ok_ze ok_q6 ok_q7 ⟨c0, c1, c2⟩ (fun h1 W => (k1 (me_fb hS rfl) c0 c1 c2) h1 W.1 (W.2.2.2.2.2 _ rfl))) (fun c2 => ms_tk5_2 hS ok_zk ok_zc ok_zl ok_zd ok_ze ok_q6 ok_q7 ⟨c0, c1, c2, (k2 (me_fb hS rfl) c0 c1 c2).1⟩ (fun h1 W => (k2 (me_fb hS rfl) c0 c1 c2).2 h1 W.1 (W.2.2.2.2.2 _ rfl)))) (fun c1 => ms_tk5_3 hS ok_zk ok_zc ok_zl ok_zd ok_ze ok_q6 ok_q7 ⟨c0, c1, (k3 (me_fb hS rfl) c0 c1).1⟩ (fun h1 W => (k3 (me_fb hS rfl) c0 c1).2 h1 W.1 (W.2.2.2.2.2 _ rfl))))
set_option maxRecDepth 20000 in
theorem mp_tk6_0 (h : sm_H) (d : Nat) (zk zc zl zd ze zz : Int) (q6 q7 : Option mi_V) : mi_path [(229, (8, 0, sb_229))] sx_sk h 3 [1] (d + 1, 229, 84, [some (.inr (.inr 109)), some (.inl (zk)), some (.inl (zc)), some (.inl (zl)), some (.inl (zd)), some (.inl (ze)), q6, q7], [.inl (zz)], [], []) = some ((d + 1, 229, 61, [some (.inr (.inr 109)), some (.inl (zk)), some (.inl (zc)), some (.inl (zl)), some (.inl (zd)), some (.inl (ze + 1)), q6, q7], [], [], []), [zz ≠ ((0 : Int)), -2147483648 ≤ ze + 1 ∧ ze + 1 ≤ 2147483647]) := rfl
theorem mi_tab_tk6_0 : ∀ e ∈ ([(229, (8, 0, sb_229))] : mi_T), sc_P e.1 = some e.2 := mi_tb mi_P229 (mi_tb_e)
set_option maxRecDepth 20000 in
theorem ms_tk6_0 {h : sm_H} {d : Nat} {Q : Option mi_V → sm_H → Prop} {zk zc zl zd ze zz : Int} {q6 q7 : Option mi_V} (hS : ab_Sh sx_sk h) (ok_zk : mi_in zk) (ok_zc : mi_in zc) (ok_zl : mi_in zl) (ok_zd : mi_in zd) (ok_ze : mi_in ze) (ok_zz : mi_in zz) (ok_q6 : ∀ v, q6 = some v → mi_ok v) (ok_q7 : ∀ v, q7 = some v → mi_ok v) (ho : (zz ≠ ((0 : Int))) ∧ (-2147483648 ≤ ze + 1 ∧ ze + 1 ≤ 2147483647)) (kon : ∀ h1, me_W [] h h1 → me_E (d + 1) 229 61 [some (.inr (.inr 109)), some (.inl (zk)), some (.inl (zc)), some (.inl (zl)), some (.inl (zd)), some (.inl (ze + 1)), q6, q7] [] h1 Q) : me_E (d + 1) 229 84 [some (.inr (.inr 109)), some (.inl (zk)), some (.inl (zc)), some (.inl (zl)), some (.inl (zd)), some (.inl (ze)), q6, q7] [.inl (zz)] h Q := me_seg (mp_tk6_0 h d zk zc zl zd ze zz q6 q7) (mi_tab_tk6_0) hS (mi_okL_c (trivial) (mi_okL_c (ok_zk) (mi_okL_c (ok_zc) (mi_okL_c (ok_zl) (mi_okL_c (ok_zd) (mi_okL_c (ok_ze) (mi_okL_o ok_q6 (mi_okL_o ok_q7 (mi_okL_e))))))))) (mi_okS_cons (ok_zz) (mi_okS_e)) (mi_al (ho.1) (mi_al (ho.2) (mi_al_e))) (fun h1 W _ hst => kon h1 W)
set_option maxRecDepth 20000 in
theorem mp_tk6_1 (h : sm_H) (d : Nat) (zk zc zl zd ze zz : Int) (q6 q7 : Option mi_V) : mi_path [(229, (8, 0, sb_229))] sx_sk h 3 [0, 1] (d + 1, 229, 84, [some (.inr (.inr 109)), some (.inl (zk)), some (.inl (zc)), some (.inl (zl)), some (.inl (zd)), some (.inl (ze)), q6, q7], [.inl (zz)], [], []) = some ((d + 1, 229, 111, [some (.inr (.inr 109)), some (.inl (zk)), some (.inl (zc)), some (.inl (zl)), some (.inl (zd)), some (.inl (ze)), q6, q7], [], [], []), [zz = ((0 : Int)), zd = ((0 : Int))]) := rfl
theorem mi_tab_tk6_1 : ∀ e ∈ ([(229, (8, 0, sb_229))] : mi_T), sc_P e.1 = some e.2 := mi_tb mi_P229 (mi_tb_e)
set_option maxRecDepth 20000 in
theorem ms_tk6_1 {h : sm_H} {d : Nat} {Q : Option mi_V → sm_H → Prop} {zk zc zl zd ze zz : Int} {q6 q7 : Option mi_V} (hS : ab_Sh sx_sk h) (ok_zk : mi_in zk) (ok_zc : mi_in zc) (ok_zl : mi_in zl) (ok_zd : mi_in zd) (ok_ze : mi_in ze) (ok_zz : mi_in zz) (ok_q6 : ∀ v, q6 = some v → mi_ok v) (ok_q7 : ∀ v, q7 = some v → mi_ok v) (ho : (zz = ((0 : Int))) ∧ (zd = ((0 : Int)))) (kon : ∀ h1, me_W [] h h1 → me_E (d + 1) 229 111 [some (.inr (.inr 109)), some (.inl (zk)), some (.inl (zc)), some (.inl (zl)), some (.inl (zd)), some (.inl (ze)), q6, q7] [] h1 Q) : me_E (d + 1) 229 84 [some (.inr (.inr 109)), some (.inl (zk)), some (.inl (zc)), some (.inl (zl)), some (.inl (zd)), some (.inl (ze)), q6, q7] [.inl (zz)] h Q := me_seg (mp_tk6_1 h d zk zc zl zd ze zz q6 q7) (mi_tab_tk6_1) hS (mi_okL_c (trivial) (mi_okL_c (ok_zk) (mi_okL_c (ok_zc) (mi_okL_c (ok_zl) (mi_okL_c (ok_zd) (mi_okL_c (ok_ze) (mi_okL_o ok_q6 (mi_okL_o ok_q7 (mi_okL_e))))))))) (mi_okS_cons (ok_zz) (mi_okS_e)) (mi_al (ho.1) (mi_al (ho.2) (mi_al_e))) (fun h1 W _ hst => kon h1 W)
set_option maxRecDepth 20000 in
theorem mp_tk6_2 (h : sm_H) (d : Nat) (zk zc zl zd ze zz : Int) (q6 q7 : Option mi_V) : mi_path [(229, (8, 0, sb_229))] sx_sk h 7 [0, 0] (d + 1, 229, 84, [some (.inr (.inr 109)), some (.inl (zk)), some (.inl (zc)), some (.inl (zl)), some (.inl (zd)), some (.inl (ze)), q6, q7], [.inl (zz)], [], []) = some ((d + 1, 229, 99, [some (.inr (.inr 109)), some (.inl (zk)), some (.inl (zc)), some (.inl (zl)), some (.inl (zd)), some (.inl (ze)), q6, q7], [.inl (mi_a h 111 (Int.toNat ze))], [], []), [zz = ((0 : Int)), zd ≠ ((0 : Int)), 0 ≤ ze ∧ ze < 160]) := rfl
theorem mi_tab_tk6_2 : ∀ e ∈ ([(229, (8, 0, sb_229))] : mi_T), sc_P e.1 = some e.2 := mi_tb mi_P229 (mi_tb_e)
set_option maxRecDepth 20000 in
theorem ms_tk6_2 {h : sm_H} {d : Nat} {Q : Option mi_V → sm_H → Prop} {zk zc zl zd ze zz : Int} {q6 q7 : Option mi_V} (hS : ab_Sh sx_sk h) (ok_zk : mi_in zk) (ok_zc : mi_in zc) (ok_zl : mi_in zl) (ok_zd : mi_in zd) (ok_ze : mi_in ze) (ok_zz : mi_in zz) (ok_q6 : ∀ v, q6 = some v → mi_ok v) (ok_q7 : ∀ v, q7 = some v → mi_ok v) (ho : (zz = ((0 : Int))) ∧ (zd ≠ ((0 : Int))) ∧ (0 ≤ ze ∧ ze < 160)) (kon : ∀ h1, me_W [] h h1 → ∃ Q1, me_E (d + 0) 182 0 (mi_entry 1 [.inl (mi_a h 111 (Int.toNat ze))]) [] h1 Q1 ∧ ∀ w h2, (∀ x, w = some x → mi_ok x) → Q1 w h2 → me_E (d + 1) 229 102 [some (.inr (.inr 109)), some (.inl (zk)), some (.inl (zc)), some (.inl (zl)), some (.inl (zd)), some (.inl (ze)), q6, q7] (mi_back w []) h2 Q) : me_E (d + 1) 229 84 [some (.inr (.inr 109)), some (.inl (zk)), some (.inl (zc)), some (.inl (zl)), some (.inl (zd)), some (.inl (ze)), q6, q7] [.inl (zz)] h Q := me_seg (mp_tk6_2 h d zk zc zl zd ze zz q6 q7) (mi_tab_tk6_2) hS (mi_okL_c (trivial) (mi_okL_c (ok_zk) (mi_okL_c (ok_zc) (mi_okL_c (ok_zl) (mi_okL_c (ok_zd) (mi_okL_c (ok_ze) (mi_okL_o ok_q6 (mi_okL_o ok_q7 (mi_okL_e))))))))) (mi_okS_cons (ok_zz) (mi_okS_e)) (mi_al (ho.1) (mi_al (ho.2.1) (mi_al (ho.2.2) (mi_al_e)))) (fun h1 W _ hst => let ⟨_, k1, k2⟩ := kon h1 W; me_call (M := (8, 0, sb_229)) (M' := (1, 4, sb_182)) rfl rfl rfl rfl (Nat.le_of_ble_eq_true rfl) (Nat.le_of_ble_eq_true rfl) W.1 k1 k2)
set_option maxRecDepth 20000 in
theorem mt_tk6 {h : sm_H} {d : Nat} {Q : Option mi_V → sm_H → Prop} {zk zc zl zd ze zz : Int} {q6 q7 : Option mi_V} (hS : ab_Sh sx_sk h) (ok_zk : mi_in zk) (ok_zc : mi_in zc) (ok_zl : mi_in zl) (ok_zd : mi_in zd) (ok_ze : mi_in ze) (ok_zz : mi_in zz) (ok_q6 : ∀ v, q6 = some v → mi_ok v) (ok_q7 : ∀ v, q7 = some v → mi_ok v) (k0 : (zz ≠ ((0 : Int))) → ((-2147483648 ≤ ze + 1 ∧ ze + 1 ≤ 2147483647)) ∧ (∀ h1, ab_Sh sx_sk h1 → ab_Fr [] h h1 → me_E (d + 1) 229 61 [some (.inr (.inr 109)), some (.inl (zk)), some (.inl (zc)), some (.inl (zl)), some (.inl (zd)), some (.inl (ze + 1)), q6, q7] [] h1 Q)) (k1 : (zz = ((0 : Int))) → (zd = ((0 : Int))) → (∀ h1, ab_Sh sx_sk h1 → ab_Fr [] h h1 → me_E (d + 1) 229 111 [some (.inr (.inr 109)), some (.inl (zk)), some (.inl (zc)), some (.inl (zl)), some (.inl (zd)), some (.inl (ze)), q6, q7] [] h1 Q)) (k2 : (zz = ((0 : Int))) → (zd ≠ ((0 : Int))) → ((0 ≤ ze ∧ ze < 160)) ∧ (∀ h1, ab_Sh sx_sk h1 → ab_Fr [] h h1 → ∃ Q1, me_E (d + 0) 182 0 (mi_entry 1 [.inl (mi_a h 111 (Int.toNat ze))]) [] h1 Q1 ∧ ∀ w h2, (∀ x, w = some x → mi_ok x) → Q1 w h2 → me_E (d + 1) 229 102 [some (.inr (.inr 109)), some (.inl (zk)), some (.inl (zc)), some (.inl (zl)), some (.inl (zd)), some (.inl (ze)), q6, q7] (mi_back w []) h2 Q)) : me_E (d + 1) 229 84 [some (.inr (.inr 109)), some (.inl (zk)), some (.inl (zc)), some (.inl (zl)), some (.inl (zd)), some (.inl (ze)), q6, q7] [.inl (zz)] h Q := Or.elim (mi_em .ne (zz) (((0 : Int)))) (fun c0 => ms_tk6_0 hS ok_zk ok_zc ok_zl ok_zd ok_ze ok_zz ok_q6 ok_q7 ⟨c0, (k0 c0).1⟩ (fun h1 W => (k0 c0).2 h1 W.1 (W.2.2.2.2.2 _ rfl))) (fun c0 => Or.elim (mi_em .eq (zd) (((0 : Int)))) (fun c1 => ms_tk6_1 hS ok_zk ok_zc ok_zl ok_zd ok_ze ok_zz ok_q6 ok_q7 ⟨c0, c1⟩ (fun h1 W => (k1 c0 c1) h1 W.1 (W.2.2.2.2.2 _ rfl))) (fun c1 => ms_tk6_2 hS ok_zk ok_zc ok_zl ok_zd ok_ze ok_zz ok_q6 ok_q7 ⟨c0, c1, (k2 c0 c1).1⟩ (fun h1 W => (k2 c0 c1).2 h1 W.1 (W.2.2.2.2.2 _ rfl))))
set_option maxRecDepth 20000 in
theorem mp_tk7_0 (h : sm_H) (d : Nat) (zk zc zl zd ze zz : Int) (q6 q7 : Option mi_V) : mi_path [(229, (8, 0, sb_229))] sx_sk h 1 [1] (d + 1, 229, 102, [some (.inr (.inr 109)), some (.inl (zk)), some (.inl (zc)), some (.inl (zl)), some (.inl (zd)), some (.inl (ze)), q6, q7], [.inl (zz)], [], []) = some ((d + 1, 229, 111, [some (.inr (.inr 109)), some (.inl (zk)), some (.inl (zc)), some (.inl (zl)), some (.inl (zd)), some (.inl (ze)), q6, q7], [], [], []), [zz = ((0 : Int))]) := rfl
theorem mi_tab_tk7_0 : ∀ e ∈ ([(229, (8, 0, sb_229))] : mi_T), sc_P e.1 = some e.2 := mi_tb mi_P229 (mi_tb_e)
set_option maxRecDepth 20000 in
theorem ms_tk7_0 {h : sm_H} {d : Nat} {Q : Option mi_V → sm_H → Prop} {zk zc zl zd ze zz : Int} {q6 q7 : Option mi_V} (hS : ab_Sh sx_sk h) (ok_zk : mi_in zk) (ok_zc : mi_in zc) (ok_zl : mi_in zl) (ok_zd : mi_in zd) (ok_ze : mi_in ze) (ok_zz : mi_in zz) (ok_q6 : ∀ v, q6 = some v → mi_ok v) (ok_q7 : ∀ v, q7 = some v → mi_ok v) (ho : (zz = ((0 : Int)))) (kon : ∀ h1, me_W [] h h1 → me_E (d + 1) 229 111 [some (.inr (.inr 109)), some (.inl (zk)), some (.inl (zc)), some (.inl (zl)), some (.inl (zd)), some (.inl (ze)), q6, q7] [] h1 Q) : me_E (d + 1) 229 102 [some (.inr (.inr 109)), some (.inl (zk)), some (.inl (zc)), some (.inl (zl)), some (.inl (zd)), some (.inl (ze)), q6, q7] [.inl (zz)] h Q := me_seg (mp_tk7_0 h d zk zc zl zd ze zz q6 q7) (mi_tab_tk7_0) hS (mi_okL_c (trivial) (mi_okL_c (ok_zk) (mi_okL_c (ok_zc) (mi_okL_c (ok_zl) (mi_okL_c (ok_zd) (mi_okL_c (ok_ze) (mi_okL_o ok_q6 (mi_okL_o ok_q7 (mi_okL_e))))))))) (mi_okS_cons (ok_zz) (mi_okS_e)) (mi_al (ho) (mi_al_e)) (fun h1 W _ hst => kon h1 W)
set_option maxRecDepth 20000 in
theorem mp_tk7_1 (h : sm_H) (d : Nat) (zk zc zl zd ze zz : Int) (q6 q7 : Option mi_V) : mi_path [(229, (8, 0, sb_229))] sx_sk h 3 [0] (d + 1, 229, 102, [some (.inr (.inr 109)), some (.inl (zk)), some (.inl (zc)), some (.inl (zl)), some (.inl (zd)), some (.inl (ze)), q6, q7], [.inl (zz)], [], []) = some ((d + 1, 229, 61, [some (.inr (.inr 109)), some (.inl (zk)), some (.inl (zc)), some (.inl (zl)), some (.inl (zd)), some (.inl (ze + 1)), q6, q7], [], [], []), [zz ≠ ((0 : Int)), -2147483648 ≤ ze + 1 ∧ ze + 1 ≤ 2147483647]) := rfl
theorem mi_tab_tk7_1 : ∀ e ∈ ([(229, (8, 0, sb_229))] : mi_T), sc_P e.1 = some e.2 := mi_tb mi_P229 (mi_tb_e)
set_option maxRecDepth 20000 in
theorem ms_tk7_1 {h : sm_H} {d : Nat} {Q : Option mi_V → sm_H → Prop} {zk zc zl zd ze zz : Int} {q6 q7 : Option mi_V} (hS : ab_Sh sx_sk h) (ok_zk : mi_in zk) (ok_zc : mi_in zc) (ok_zl : mi_in zl) (ok_zd : mi_in zd) (ok_ze : mi_in ze) (ok_zz : mi_in zz) (ok_q6 : ∀ v, q6 = some v → mi_ok v) (ok_q7 : ∀ v, q7 = some v → mi_ok v) (ho : (zz ≠ ((0 : Int))) ∧ (-2147483648 ≤ ze + 1 ∧ ze + 1 ≤ 2147483647)) (kon : ∀ h1, me_W [] h h1 → me_E (d + 1) 229 61 [some (.inr (.inr 109)), some (.inl (zk)), some (.inl (zc)), some (.inl (zl)), some (.inl (zd)), some (.inl (ze + 1)), q6, q7] [] h1 Q) : me_E (d + 1) 229 102 [some (.inr (.inr 109)), some (.inl (zk)), some (.inl (zc)), some (.inl (zl)), some (.inl (zd)), some (.inl (ze)), q6, q7] [.inl (zz)] h Q := me_seg (mp_tk7_1 h d zk zc zl zd ze zz q6 q7) (mi_tab_tk7_1) hS (mi_okL_c (trivial) (mi_okL_c (ok_zk) (mi_okL_c (ok_zc) (mi_okL_c (ok_zl) (mi_okL_c (ok_zd) (mi_okL_c (ok_ze) (mi_okL_o ok_q6 (mi_okL_o ok_q7 (mi_okL_e))))))))) (mi_okS_cons (ok_zz) (mi_okS_e)) (mi_al (ho.1) (mi_al (ho.2) (mi_al_e))) (fun h1 W _ hst => kon h1 W)
set_option maxRecDepth 20000 in
theorem mt_tk7 {h : sm_H} {d : Nat} {Q : Option mi_V → sm_H → Prop} {zk zc zl zd ze zz : Int} {q6 q7 : Option mi_V} (hS : ab_Sh sx_sk h) (ok_zk : mi_in zk) (ok_zc : mi_in zc) (ok_zl : mi_in zl) (ok_zd : mi_in zd) (ok_ze : mi_in ze) (ok_zz : mi_in zz) (ok_q6 : ∀ v, q6 = some v → mi_ok v) (ok_q7 : ∀ v, q7 = some v → mi_ok v) (k0 : (zz = ((0 : Int))) → (∀ h1, ab_Sh sx_sk h1 → ab_Fr [] h h1 → me_E (d + 1) 229 111 [some (.inr (.inr 109)), some (.inl (zk)), some (.inl (zc)), some (.inl (zl)), some (.inl (zd)), some (.inl (ze)), q6, q7] [] h1 Q)) (k1 : (zz ≠ ((0 : Int))) → ((-2147483648 ≤ ze + 1 ∧ ze + 1 ≤ 2147483647)) ∧ (∀ h1, ab_Sh sx_sk h1 → ab_Fr [] h h1 → me_E (d + 1) 229 61 [some (.inr (.inr 109)), some (.inl (zk)), some (.inl (zc)), some (.inl (zl)), some (.inl (zd)), some (.inl (ze + 1)), q6, q7] [] h1 Q)) : me_E (d + 1) 229 102 [some (.inr (.inr 109)), some (.inl (zk)), some (.inl (zc)), some (.inl (zl)), some (.inl (zd)), some (.inl (ze)), q6, q7] [.inl (zz)] h Q := Or.elim (mi_em .eq (zz) (((0 : Int)))) (fun c0 => ms_tk7_0 hS ok_zk ok_zc ok_zl ok_zd ok_ze ok_zz ok_q6 ok_q7 (c0) (fun h1 W => (k0 c0) h1 W.1 (W.2.2.2.2.2 _ rfl))) (fun c0 => ms_tk7_1 hS ok_zk ok_zc ok_zl ok_zd ok_ze ok_zz ok_q6 ok_q7 ⟨c0, (k1 c0).1⟩ (fun h1 W => (k1 c0).2 h1 W.1 (W.2.2.2.2.2 _ rfl)))
set_option maxRecDepth 20000 in
theorem mp_tk8_0 (h : sm_H) (d : Nat) (zk zc zl zd ze : Int) (q6 q7 : Option mi_V) : mi_path [(229, (8, 0, sb_229))] sx_sk h 20 [8, 1, 1] (d + 1, 229, 111, [some (.inr (.inr 109)), some (.inl (zk)), some (.inl (zc)), some (.inl (zl)), some (.inl (zd)), some (.inl (ze)), q6, q7], [], [], []) = some ((d + 1, 229, 346, [some (.inr (.inr 109)), some (.inl (zk)), some (.inl (zc)), some (.inl (zl)), some (.inl (zd)), some (.inl (ze)), some (.inl (ze - zk)), q7], [.inl (zc), .inr (.inr 109), .inl (mi_f h 14011), .inr (.inr 152)], [.inr (.inr (.inr (154, Int.toNat (mi_f h 14011), Int64.ofNat 0)))], []), [0 ≤ (mi_f h 14011) ∧ (mi_f h 14011) < 161, -2147483648 ≤ ze - zk ∧ ze - zk ≤ 2147483647, zd = ((0 : Int)), zl = ((0 : Int))]) := rfl
theorem mi_tab_tk8_0 : ∀ e ∈ ([(229, (8, 0, sb_229))] : mi_T), sc_P e.1 = some e.2 := mi_tb mi_P229 (mi_tb_e)
set_option maxRecDepth 20000 in
theorem ms_tk8_0 {h : sm_H} {d : Nat} {Q : Option mi_V → sm_H → Prop} {zk zc zl zd ze : Int} {q6 q7 : Option mi_V} (hS : ab_Sh sx_sk h) (ok_zk : mi_in zk) (ok_zc : mi_in zc) (ok_zl : mi_in zl) (ok_zd : mi_in zd) (ok_ze : mi_in ze) (ok_q6 : ∀ v, q6 = some v → mi_ok v) (ok_q7 : ∀ v, q7 = some v → mi_ok v) (ho : (0 ≤ (mi_f h 14011) ∧ (mi_f h 14011) < 161) ∧ (-2147483648 ≤ ze - zk ∧ ze - zk ≤ 2147483647) ∧ (zd = ((0 : Int))) ∧ (zl = ((0 : Int)))) (kon : ∀ h1, me_W [.inr (.inr (.inr (154, Int.toNat (mi_f h 14011), Int64.ofNat 0)))] h h1 → ∃ Q1, me_E (d + 0) 230 0 (mi_entry 3 [.inr (.inr 109), .inl (zc)]) [] h1 Q1 ∧ ∀ w h2, (∀ x, w = some x → mi_ok x) → Q1 w h2 → me_E (d + 1) 229 349 [some (.inr (.inr 109)), some (.inl (zk)), some (.inl (zc)), some (.inl (zl)), some (.inl (zd)), some (.inl (ze)), some (.inl (ze - zk)), q7] (mi_back w [.inl (mi_f h 14011), .inr (.inr 152)]) h2 Q) : me_E (d + 1) 229 111 [some (.inr (.inr 109)), some (.inl (zk)), some (.inl (zc)), some (.inl (zl)), some (.inl (zd)), some (.inl (ze)), q6, q7] [] h Q := me_seg (mp_tk8_0 h d zk zc zl zd ze q6 q7) (mi_tab_tk8_0) hS (mi_okL_c (trivial) (mi_okL_c (ok_zk) (mi_okL_c (ok_zc) (mi_okL_c (ok_zl) (mi_okL_c (ok_zd) (mi_okL_c (ok_ze) (mi_okL_o ok_q6 (mi_okL_o ok_q7 (mi_okL_e))))))))) (mi_okS_e) (mi_al (ho.1) (mi_al (ho.2.1) (mi_al (ho.2.2.1) (mi_al (ho.2.2.2) (mi_al_e))))) (fun h1 W _ hst => let ⟨_, k1, k2⟩ := kon h1 W; me_call (M := (8, 0, sb_229)) (M' := (3, 1, sb_230)) rfl rfl rfl rfl (Nat.le_of_ble_eq_true rfl) (Nat.le_of_ble_eq_true rfl) W.1 k1 k2)
set_option maxRecDepth 20000 in
theorem mp_tk8_1 (h : sm_H) (d : Nat) (zk zc zl zd ze : Int) (q6 q7 : Option mi_V) : mi_path [(229, (8, 0, sb_229))] sx_sk h 18 [8, 1, 0, 8] (d + 1, 229, 111, [some (.inr (.inr 109)), some (.inl (zk)), some (.inl (zc)), some (.inl (zl)), some (.inl (zd)), some (.inl (ze)), q6, q7], [], [], []) = some ((d + 1, 229, 222, [some (.inr (.inr 109)), some (.inl (zk)), some (.inl (zc)), some (.inl (zl)), some (.inl (zd)), some (.inl (ze)), some (.inl (ze - zk)), some (.inl (ze - ((1 : Int))))], [], [.inr (.inr (.inr (154, Int.toNat (mi_f h 14011), Int64.ofNat 0)))], []), [0 ≤ (mi_f h 14011) ∧ (mi_f h 14011) < 161, -2147483648 ≤ ze - zk ∧ ze - zk ≤ 2147483647, zd = ((0 : Int)), zl ≠ ((0 : Int)), -2147483648 ≤ ze - ((1 : Int)) ∧ ze - ((1 : Int)) ≤ 2147483647]) := rfl
theorem mi_tab_tk8_1 : ∀ e ∈ ([(229, (8, 0, sb_229))] : mi_T), sc_P e.1 = some e.2 := mi_tb mi_P229 (mi_tb_e)
set_option maxRecDepth 20000 in
theorem ms_tk8_1 {h : sm_H} {d : Nat} {Q : Option mi_V → sm_H → Prop} {zk zc zl zd ze : Int} {q6 q7 : Option mi_V} (hS : ab_Sh sx_sk h) (ok_zk : mi_in zk) (ok_zc : mi_in zc) (ok_zl : mi_in zl) (ok_zd : mi_in zd) (ok_ze : mi_in ze) (ok_q6 : ∀ v, q6 = some v → mi_ok v) (ok_q7 : ∀ v, q7 = some v → mi_ok v) (ho : (0 ≤ (mi_f h 14011) ∧ (mi_f h 14011) < 161) ∧ (-2147483648 ≤ ze - zk ∧ ze - zk ≤ 2147483647) ∧ (zd = ((0 : Int))) ∧ (zl ≠ ((0 : Int))) ∧ (-2147483648 ≤ ze - ((1 : Int)) ∧ ze - ((1 : Int)) ≤ 2147483647)) (kon : ∀ h1, me_W [.inr (.inr (.inr (154, Int.toNat (mi_f h 14011), Int64.ofNat 0)))] h h1 → me_E (d + 1) 229 222 [some (.inr (.inr 109)), some (.inl (zk)), some (.inl (zc)), some (.inl (zl)), some (.inl (zd)), some (.inl (ze)), some (.inl (ze - zk)), some (.inl (ze - ((1 : Int))))] [] h1 Q) : me_E (d + 1) 229 111 [some (.inr (.inr 109)), some (.inl (zk)), some (.inl (zc)), some (.inl (zl)), some (.inl (zd)), some (.inl (ze)), q6, q7] [] h Q := me_seg (mp_tk8_1 h d zk zc zl zd ze q6 q7) (mi_tab_tk8_1) hS (mi_okL_c (trivial) (mi_okL_c (ok_zk) (mi_okL_c (ok_zc) (mi_okL_c (ok_zl) (mi_okL_c (ok_zd) (mi_okL_c (ok_ze) (mi_okL_o ok_q6 (mi_okL_o ok_q7 (mi_okL_e))))))))) (mi_okS_e) (mi_al (ho.1) (mi_al (ho.2.1) (mi_al (ho.2.2.1) (mi_al (ho.2.2.2.1) (mi_al (ho.2.2.2.2) (mi_al_e)))))) (fun h1 W _ hst => kon h1 W)
set_option maxRecDepth 20000 in
theorem mp_tk8_2 (h : sm_H) (d : Nat) (zk zc zl zd ze : Int) (q6 q7 : Option mi_V) : mi_path [(229, (8, 0, sb_229))] sx_sk h 14 [8, 0] (d + 1, 229, 111, [some (.inr (.inr 109)), some (.inl (zk)), some (.inl (zc)), some (.inl (zl)), some (.inl (zd)), some (.inl (ze)), q6, q7], [], [], []) = some ((d + 1, 229, 135, [some (.inr (.inr 109)), some (.inl (zk)), some (.inl (zc)), some (.inl (zl)), some (.inl (zd)), some (.inl (ze)), some (.inl (ze - zk)), some (.inl (zk))], [], [.inr (.inr (.inr (154, Int.toNat (mi_f h 14011), Int64.ofNat 0)))], []), [0 ≤ (mi_f h 14011) ∧ (mi_f h 14011) < 161, -2147483648 ≤ ze - zk ∧ ze - zk ≤ 2147483647, zd ≠ ((0 : Int))]) := rfl
theorem mi_tab_tk8_2 : ∀ e ∈ ([(229, (8, 0, sb_229))] : mi_T), sc_P e.1 = some e.2 := mi_tb mi_P229 (mi_tb_e)
set_option maxRecDepth 20000 in
theorem ms_tk8_2 {h : sm_H} {d : Nat} {Q : Option mi_V → sm_H → Prop} {zk zc zl zd ze : Int} {q6 q7 : Option mi_V} (hS : ab_Sh sx_sk h) (ok_zk : mi_in zk) (ok_zc : mi_in zc) (ok_zl : mi_in zl) (ok_zd : mi_in zd) (ok_ze : mi_in ze) (ok_q6 : ∀ v, q6 = some v → mi_ok v) (ok_q7 : ∀ v, q7 = some v → mi_ok v) (ho : (0 ≤ (mi_f h 14011) ∧ (mi_f h 14011) < 161) ∧ (-2147483648 ≤ ze - zk ∧ ze - zk ≤ 2147483647) ∧ (zd ≠ ((0 : Int)))) (kon : ∀ h1, me_W [.inr (.inr (.inr (154, Int.toNat (mi_f h 14011), Int64.ofNat 0)))] h h1 → me_E (d + 1) 229 135 [some (.inr (.inr 109)), some (.inl (zk)), some (.inl (zc)), some (.inl (zl)), some (.inl (zd)), some (.inl (ze)), some (.inl (ze - zk)), some (.inl (zk))] [] h1 Q) : me_E (d + 1) 229 111 [some (.inr (.inr 109)), some (.inl (zk)), some (.inl (zc)), some (.inl (zl)), some (.inl (zd)), some (.inl (ze)), q6, q7] [] h Q := me_seg (mp_tk8_2 h d zk zc zl zd ze q6 q7) (mi_tab_tk8_2) hS (mi_okL_c (trivial) (mi_okL_c (ok_zk) (mi_okL_c (ok_zc) (mi_okL_c (ok_zl) (mi_okL_c (ok_zd) (mi_okL_c (ok_ze) (mi_okL_o ok_q6 (mi_okL_o ok_q7 (mi_okL_e))))))))) (mi_okS_e) (mi_al (ho.1) (mi_al (ho.2.1) (mi_al (ho.2.2) (mi_al_e)))) (fun h1 W _ hst => kon h1 W)
set_option maxRecDepth 20000 in
theorem mt_tk8 {h : sm_H} {d : Nat} {Q : Option mi_V → sm_H → Prop} {zk zc zl zd ze : Int} {q6 q7 : Option mi_V} (hS : ab_Sh sx_sk h) (ok_zk : mi_in zk) (ok_zc : mi_in zc) (ok_zl : mi_in zl) (ok_zd : mi_in zd) (ok_ze : mi_in ze) (ok_q6 : ∀ v, q6 = some v → mi_ok v) (ok_q7 : ∀ v, q7 = some v → mi_ok v) (k0 : (0 ≤ mi_f h 14011 ∧ mi_f h 14011 ≤ 160) → (zd = ((0 : Int))) → (zl = ((0 : Int))) → ((0 ≤ (mi_f h 14011) ∧ (mi_f h 14011) < 161) ∧ (-2147483648 ≤ ze - zk ∧ ze - zk ≤ 2147483647)) ∧ (∀ h1, ab_Sh sx_sk h1 → (∀ i, mx_b h1 154 i = if i = Int.toNat (mi_f h 14011) then Int64.ofNat 0 else (mx_b h 154 i)) → ab_Fr [(19712, 19713)] h h1 → ∃ Q1, me_E (d + 0) 230 0 (mi_entry 3 [.inr (.inr 109), .inl (zc)]) [] h1 Q1 ∧ ∀ w h2, (∀ x, w = some x → mi_ok x) → Q1 w h2 → me_E (d + 1) 229 349 [some (.inr (.inr 109)), some (.inl (zk)), some (.inl (zc)), some (.inl (zl)), some (.inl (zd)), some (.inl (ze)), some (.inl (ze - zk)), q7] (mi_back w [.inl (mi_f h 14011), .inr (.inr 152)]) h2 Q)) (k1 : (0 ≤ mi_f h 14011 ∧ mi_f h 14011 ≤ 160) → (zd = ((0 : Int))) → (zl ≠ ((0 : Int))) → ((0 ≤ (mi_f h 14011) ∧ (mi_f h 14011) < 161) ∧ (-2147483648 ≤ ze - zk ∧ ze - zk ≤ 2147483647) ∧ (-2147483648 ≤ ze - ((1 : Int)) ∧ ze - ((1 : Int)) ≤ 2147483647)) ∧ (∀ h1, ab_Sh sx_sk h1 → (∀ i, mx_b h1 154 i = if i = Int.toNat (mi_f h 14011) then Int64.ofNat 0 else (mx_b h 154 i)) → ab_Fr [(19712, 19713)] h h1 → me_E (d + 1) 229 222 [some (.inr (.inr 109)), some (.inl (zk)), some (.inl (zc)), some (.inl (zl)), some (.inl (zd)), some (.inl (ze)), some (.inl (ze - zk)), some (.inl (ze - ((1 : Int))))] [] h1 Q)) (k2 : (0 ≤ mi_f h 14011 ∧ mi_f h 14011 ≤ 160) → (zd ≠ ((0 : Int))) → ((0 ≤ (mi_f h 14011) ∧ (mi_f h 14011) < 161) ∧ (-2147483648 ≤ ze - zk ∧ ze - zk ≤ 2147483647)) ∧ (∀ h1, ab_Sh sx_sk h1 → (∀ i, mx_b h1 154 i = if i = Int.toNat (mi_f h 14011) then Int64.ofNat 0 else (mx_b h 154 i)) → ab_Fr [(19712, 19713)] h h1 → me_E (d + 1) 229 135 [some (.inr (.inr 109)), some (.inl (zk)), some (.inl (zc)), some (.inl (zl)), some (.inl (zd)), some (.inl (ze)), some (.inl (ze - zk)), some (.inl (zk))] [] h1 Q)) : me_E (d + 1) 229 111 [some (.inr (.inr 109)), some (.inl (zk)), some (.inl (zc)), some (.inl (zl)), some (.inl (zd)), some (.inl (ze)), q6, q7] [] h Q := Or.elim (mi_em .eq (zd) (((0 : Int)))) (fun c0 => Or.elim (mi_em .eq (zl) (((0 : Int)))) (fun c1 => ms_tk8_0 hS ok_zk ok_zc ok_zl ok_zd ok_ze ok_q6 ok_q7 ⟨(k0 (me_fb hS rfl) c0 c1).1.1, (k0 (me_fb hS rfl) c0 c1).1.2, c0, c1⟩ (fun h1 W => (k0 (me_fb hS rfl) c0 c1).2 h1 W.1 (fun i => W.2.2.2.2.1 154 i) (W.2.2.2.2.2 _ rfl))) (fun c1 => ms_tk8_1 hS ok_zk ok_zc ok_zl ok_zd ok_ze ok_q6 ok_q7 ⟨(k1 (me_fb hS rfl) c0 c1).1.1, (k1 (me_fb hS rfl) c0 c1).1.2.1, c0, c1, (k1 (me_fb hS rfl) c0 c1).1.2.2⟩ (fun h1 W => (k1 (me_fb hS rfl) c0 c1).2 h1 W.1 (fun i => W.2.2.2.2.1 154 i) (W.2.2.2.2.2 _ rfl)))) (fun c0 => ms_tk8_2 hS ok_zk ok_zc ok_zl ok_zd ok_ze ok_q6 ok_q7 ⟨(k2 (me_fb hS rfl) c0).1.1, (k2 (me_fb hS rfl) c0).1.2, c0⟩ (fun h1 W => (k2 (me_fb hS rfl) c0).2 h1 W.1 (fun i => W.2.2.2.2.1 154 i) (W.2.2.2.2.2 _ rfl)))
set_option maxRecDepth 20000 in
theorem mp_tk9_0 (h : sm_H) (d : Nat) (zk zc zl zd ze zn zj : Int) : mi_path [(229, (8, 0, sb_229))] sx_sk h 22 [1, 1, 8] (d + 1, 229, 135, [some (.inr (.inr 109)), some (.inl (zk)), some (.inl (zc)), some (.inl (zl)), some (.inl (zd)), some (.inl (ze)), some (.inl (zn)), some (.inl (zj))], [], [], []) = some ((d + 1, 229, 7, [some (.inr (.inr 109)), some (.inl (ze)), some (.inl (zc)), some (.inl (zl)), some (.inl (zd)), some (.inl (ze)), some (.inl (zn)), some (.inl (zj))], [], [.inl (14011, (mi_f h 14011) + ((1 : Int))), .inr (.inr (.inl (152, Int.toNat (mi_f h 14011), (-1 : Int))))], []), [ze ≤ zj, ((5 : Int)) ≤ zn, 0 ≤ (mi_f h 14011) ∧ (mi_f h 14011) < 161, (-1) ≤ ((-1 : Int)) ∧ ((-1 : Int)) ≤ 23, -2147483648 ≤ (mi_f h 14011) + ((1 : Int)) ∧ (mi_f h 14011) + ((1 : Int)) ≤ 2147483647, 0 ≤ ((mi_f h 14011) + ((1 : Int))) ∧ ((mi_f h 14011) + ((1 : Int))) ≤ 160]) := rfl
theorem mi_tab_tk9_0 : ∀ e ∈ ([(229, (8, 0, sb_229))] : mi_T), sc_P e.1 = some e.2 := mi_tb mi_P229 (mi_tb_e)
set_option maxRecDepth 20000 in
theorem ms_tk9_0 {h : sm_H} {d : Nat} {Q : Option mi_V → sm_H → Prop} {zk zc zl zd ze zn zj : Int} (hS : ab_Sh sx_sk h) (ok_zk : mi_in zk) (ok_zc : mi_in zc) (ok_zl : mi_in zl) (ok_zd : mi_in zd) (ok_ze : mi_in ze) (ok_zn : mi_in zn) (ok_zj : mi_in zj) (ho : (ze ≤ zj) ∧ (((5 : Int)) ≤ zn) ∧ (0 ≤ (mi_f h 14011) ∧ (mi_f h 14011) < 161) ∧ ((-1) ≤ ((-1 : Int)) ∧ ((-1 : Int)) ≤ 23) ∧ (-2147483648 ≤ (mi_f h 14011) + ((1 : Int)) ∧ (mi_f h 14011) + ((1 : Int)) ≤ 2147483647) ∧ (0 ≤ ((mi_f h 14011) + ((1 : Int))) ∧ ((mi_f h 14011) + ((1 : Int))) ≤ 160)) (kon : ∀ h1, me_W [.inl (14011, (mi_f h 14011) + ((1 : Int))), .inr (.inr (.inl (152, Int.toNat (mi_f h 14011), (-1 : Int))))] h h1 → me_E (d + 1) 229 7 [some (.inr (.inr 109)), some (.inl (ze)), some (.inl (zc)), some (.inl (zl)), some (.inl (zd)), some (.inl (ze)), some (.inl (zn)), some (.inl (zj))] [] h1 Q) : me_E (d + 1) 229 135 [some (.inr (.inr 109)), some (.inl (zk)), some (.inl (zc)), some (.inl (zl)), some (.inl (zd)), some (.inl (ze)), some (.inl (zn)), some (.inl (zj))] [] h Q := me_seg (mp_tk9_0 h d zk zc zl zd ze zn zj) (mi_tab_tk9_0) hS (mi_okL_c (trivial) (mi_okL_c (ok_zk) (mi_okL_c (ok_zc) (mi_okL_c (ok_zl) (mi_okL_c (ok_zd) (mi_okL_c (ok_ze) (mi_okL_c (ok_zn) (mi_okL_c (ok_zj) (mi_okL_e))))))))) (mi_okS_e) (mi_al (ho.1) (mi_al (ho.2.1) (mi_al (ho.2.2.1) (mi_al (ho.2.2.2.1) (mi_al (ho.2.2.2.2.1) (mi_al (ho.2.2.2.2.2) (mi_al_e))))))) (fun h1 W _ hst => kon h1 W)
set_option maxRecDepth 20000 in
theorem mp_tk9_1 (h : sm_H) (d : Nat) (zk zc zl zd ze zn zj : Int) : mi_path [(229, (8, 0, sb_229))] sx_sk h 23 [1, 0, 8] (d + 1, 229, 135, [some (.inr (.inr 109)), some (.inl (zk)), some (.inl (zc)), some (.inl (zl)), some (.inl (zd)), some (.inl (ze)), some (.inl (zn)), some (.inl (zj))], [], [], []) = some ((d + 1, 229, 7, [some (.inr (.inr 109)), some (.inl (ze)), some (.inl (zc)), some (.inl (zl)), some (.inl (zd)), some (.inl (ze)), some (.inl (zn)), some (.inl (zj))], [], [.inl (14011, (mi_f h 14011) + ((1 : Int))), .inr (.inr (.inl (152, Int.toNat (mi_f h 14011), (1 : Int))))], []), [ze ≤ zj, zn < ((5 : Int)), 0 ≤ (mi_f h 14011) ∧ (mi_f h 14011) < 161, (-1) ≤ ((1 : Int)) ∧ ((1 : Int)) ≤ 23, -2147483648 ≤ (mi_f h 14011) + ((1 : Int)) ∧ (mi_f h 14011) + ((1 : Int)) ≤ 2147483647, 0 ≤ ((mi_f h 14011) + ((1 : Int))) ∧ ((mi_f h 14011) + ((1 : Int))) ≤ 160]) := rfl
theorem mi_tab_tk9_1 : ∀ e ∈ ([(229, (8, 0, sb_229))] : mi_T), sc_P e.1 = some e.2 := mi_tb mi_P229 (mi_tb_e)
set_option maxRecDepth 20000 in
theorem ms_tk9_1 {h : sm_H} {d : Nat} {Q : Option mi_V → sm_H → Prop} {zk zc zl zd ze zn zj : Int} (hS : ab_Sh sx_sk h) (ok_zk : mi_in zk) (ok_zc : mi_in zc) (ok_zl : mi_in zl) (ok_zd : mi_in zd) (ok_ze : mi_in ze) (ok_zn : mi_in zn) (ok_zj : mi_in zj) (ho : (ze ≤ zj) ∧ (zn < ((5 : Int))) ∧ (0 ≤ (mi_f h 14011) ∧ (mi_f h 14011) < 161) ∧ ((-1) ≤ ((1 : Int)) ∧ ((1 : Int)) ≤ 23) ∧ (-2147483648 ≤ (mi_f h 14011) + ((1 : Int)) ∧ (mi_f h 14011) + ((1 : Int)) ≤ 2147483647) ∧ (0 ≤ ((mi_f h 14011) + ((1 : Int))) ∧ ((mi_f h 14011) + ((1 : Int))) ≤ 160)) (kon : ∀ h1, me_W [.inl (14011, (mi_f h 14011) + ((1 : Int))), .inr (.inr (.inl (152, Int.toNat (mi_f h 14011), (1 : Int))))] h h1 → me_E (d + 1) 229 7 [some (.inr (.inr 109)), some (.inl (ze)), some (.inl (zc)), some (.inl (zl)), some (.inl (zd)), some (.inl (ze)), some (.inl (zn)), some (.inl (zj))] [] h1 Q) : me_E (d + 1) 229 135 [some (.inr (.inr 109)), some (.inl (zk)), some (.inl (zc)), some (.inl (zl)), some (.inl (zd)), some (.inl (ze)), some (.inl (zn)), some (.inl (zj))] [] h Q := me_seg (mp_tk9_1 h d zk zc zl zd ze zn zj) (mi_tab_tk9_1) hS (mi_okL_c (trivial) (mi_okL_c (ok_zk) (mi_okL_c (ok_zc) (mi_okL_c (ok_zl) (mi_okL_c (ok_zd) (mi_okL_c (ok_ze) (mi_okL_c (ok_zn) (mi_okL_c (ok_zj) (mi_okL_e))))))))) (mi_okS_e) (mi_al (ho.1) (mi_al (ho.2.1) (mi_al (ho.2.2.1) (mi_al (ho.2.2.2.1) (mi_al (ho.2.2.2.2.1) (mi_al (ho.2.2.2.2.2) (mi_al_e))))))) (fun h1 W _ hst => kon h1 W)
set_option maxRecDepth 20000 in
theorem mp_tk9_2 (h : sm_H) (d : Nat) (zk zc zl zd ze zn zj : Int) : mi_path [(229, (8, 0, sb_229))] sx_sk h 25 [0, 1, 1, 8] (d + 1, 229, 135, [some (.inr (.inr 109)), some (.inl (zk)), some (.inl (zc)), some (.inl (zl)), some (.inl (zd)), some (.inl (ze)), some (.inl (zn)), some (.inl (zj))], [], [], []) = some ((d + 1, 229, 7, [some (.inr (.inr 109)), some (.inl (ze)), some (.inl (zc)), some (.inl (zl)), some (.inl (zd)), some (.inl (ze)), some (.inl (zn)), some (.inl (zj))], [], [.inl (14011, (mi_f h 14011) + ((1 : Int))), .inr (.inr (.inl (152, Int.toNat (mi_f h 14011), (-1 : Int))))], []), [zj < ze, ((5 : Int)) ≤ zn, ((5 : Int)) ≤ zn, 0 ≤ (mi_f h 14011) ∧ (mi_f h 14011) < 161, (-1) ≤ ((-1 : Int)) ∧ ((-1 : Int)) ≤ 23, -2147483648 ≤ (mi_f h 14011) + ((1 : Int)) ∧ (mi_f h 14011) + ((1 : Int)) ≤ 2147483647, 0 ≤ ((mi_f h 14011) + ((1 : Int))) ∧ ((mi_f h 14011) + ((1 : Int))) ≤ 160]) := rfl
theorem mi_tab_tk9_2 : ∀ e ∈ ([(229, (8, 0, sb_229))] : mi_T), sc_P e.1 = some e.2 := mi_tb mi_P229 (mi_tb_e)
set_option maxRecDepth 20000 in
theorem ms_tk9_2 {h : sm_H} {d : Nat} {Q : Option mi_V → sm_H → Prop} {zk zc zl zd ze zn zj : Int} (hS : ab_Sh sx_sk h) (ok_zk : mi_in zk) (ok_zc : mi_in zc) (ok_zl : mi_in zl) (ok_zd : mi_in zd) (ok_ze : mi_in ze) (ok_zn : mi_in zn) (ok_zj : mi_in zj) (ho : (zj < ze) ∧ (((5 : Int)) ≤ zn) ∧ (((5 : Int)) ≤ zn) ∧ (0 ≤ (mi_f h 14011) ∧ (mi_f h 14011) < 161) ∧ ((-1) ≤ ((-1 : Int)) ∧ ((-1 : Int)) ≤ 23) ∧ (-2147483648 ≤ (mi_f h 14011) + ((1 : Int)) ∧ (mi_f h 14011) + ((1 : Int)) ≤ 2147483647) ∧ (0 ≤ ((mi_f h 14011) + ((1 : Int))) ∧ ((mi_f h 14011) + ((1 : Int))) ≤ 160)) (kon : ∀ h1, me_W [.inl (14011, (mi_f h 14011) + ((1 : Int))), .inr (.inr (.inl (152, Int.toNat (mi_f h 14011), (-1 : Int))))] h h1 → me_E (d + 1) 229 7 [some (.inr (.inr 109)), some (.inl (ze)), some (.inl (zc)), some (.inl (zl)), some (.inl (zd)), some (.inl (ze)), some (.inl (zn)), some (.inl (zj))] [] h1 Q) : me_E (d + 1) 229 135 [some (.inr (.inr 109)), some (.inl (zk)), some (.inl (zc)), some (.inl (zl)), some (.inl (zd)), some (.inl (ze)), some (.inl (zn)), some (.inl (zj))] [] h Q := me_seg (mp_tk9_2 h d zk zc zl zd ze zn zj) (mi_tab_tk9_2) hS (mi_okL_c (trivial) (mi_okL_c (ok_zk) (mi_okL_c (ok_zc) (mi_okL_c (ok_zl) (mi_okL_c (ok_zd) (mi_okL_c (ok_ze) (mi_okL_c (ok_zn) (mi_okL_c (ok_zj) (mi_okL_e))))))))) (mi_okS_e) (mi_al (ho.1) (mi_al (ho.2.1) (mi_al (ho.2.2.1) (mi_al (ho.2.2.2.1) (mi_al (ho.2.2.2.2.1) (mi_al (ho.2.2.2.2.2.1) (mi_al (ho.2.2.2.2.2.2) (mi_al_e)))))))) (fun h1 W _ hst => kon h1 W)
set_option maxRecDepth 20000 in
theorem mp_tk9_3 (h : sm_H) (d : Nat) (zk zc zl zd ze zn zj : Int) : mi_path [(229, (8, 0, sb_229))] sx_sk h 28 [0, 0] (d + 1, 229, 135, [some (.inr (.inr 109)), some (.inl (zk)), some (.inl (zc)), some (.inl (zl)), some (.inl (zd)), some (.inl (ze)), some (.inl (zn)), some (.inl (zj))], [], [], []) = some ((d + 1, 229, 135, [some (.inr (.inr 109)), some (.inl (zk)), some (.inl (zc)), some (.inl (zl)), some (.inl (zd)), some (.inl (ze)), some (.inl (zn)), some (.inl (zj + 1))], [], [.inr (.inr (.inr (154, Int.toNat (mi_f h 14011), (((Int64.ofNat 10) * (mx_b h 154 (Int.toNat (mi_f h 14011)))) + ((Int32.ofInt (mi_a h 111 (Int.toNat zj))).toInt64)) - (Int64.ofNat 48))))], []), [zj < ze, zn < ((5 : Int)), 0 ≤ (mi_f h 14011) ∧ (mi_f h 14011) < 161, 0 ≤ zj ∧ zj < 160, 0 ≤ (mi_f h 14011) ∧ (mi_f h 14011) < 161, -2147483648 ≤ zj + 1 ∧ zj + 1 ≤ 2147483647]) := rfl
theorem mi_tab_tk9_3 : ∀ e ∈ ([(229, (8, 0, sb_229))] : mi_T), sc_P e.1 = some e.2 := mi_tb mi_P229 (mi_tb_e)
set_option maxRecDepth 20000 in
theorem ms_tk9_3 {h : sm_H} {d : Nat} {Q : Option mi_V → sm_H → Prop} {zk zc zl zd ze zn zj : Int} (hS : ab_Sh sx_sk h) (ok_zk : mi_in zk) (ok_zc : mi_in zc) (ok_zl : mi_in zl) (ok_zd : mi_in zd) (ok_ze : mi_in ze) (ok_zn : mi_in zn) (ok_zj : mi_in zj) (ho : (zj < ze) ∧ (zn < ((5 : Int))) ∧ (0 ≤ (mi_f h 14011) ∧ (mi_f h 14011) < 161) ∧ (0 ≤ zj ∧ zj < 160) ∧ (0 ≤ (mi_f h 14011) ∧ (mi_f h 14011) < 161) ∧ (-2147483648 ≤ zj + 1 ∧ zj + 1 ≤ 2147483647)) (kon : ∀ h1, me_W [.inr (.inr (.inr (154, Int.toNat (mi_f h 14011), (((Int64.ofNat 10) * (mx_b h 154 (Int.toNat (mi_f h 14011)))) + ((Int32.ofInt (mi_a h 111 (Int.toNat zj))).toInt64)) - (Int64.ofNat 48))))] h h1 → me_E (d + 1) 229 135 [some (.inr (.inr 109)), some (.inl (zk)), some (.inl (zc)), some (.inl (zl)), some (.inl (zd)), some (.inl (ze)), some (.inl (zn)), some (.inl (zj + 1))] [] h1 Q) : me_E (d + 1) 229 135 [some (.inr (.inr 109)), some (.inl (zk)), some (.inl (zc)), some (.inl (zl)), some (.inl (zd)), some (.inl (ze)), some (.inl (zn)), some (.inl (zj))] [] h Q := me_seg (mp_tk9_3 h d zk zc zl zd ze zn zj) (mi_tab_tk9_3) hS (mi_okL_c (trivial) (mi_okL_c (ok_zk) (mi_okL_c (ok_zc) (mi_okL_c (ok_zl) (mi_okL_c (ok_zd) (mi_okL_c (ok_ze) (mi_okL_c (ok_zn) (mi_okL_c (ok_zj) (mi_okL_e))))))))) (mi_okS_e) (mi_al (ho.1) (mi_al (ho.2.1) (mi_al (ho.2.2.1) (mi_al (ho.2.2.2.1) (mi_al (ho.2.2.2.2.1) (mi_al (ho.2.2.2.2.2) (mi_al_e))))))) (fun h1 W _ hst => kon h1 W)
set_option maxRecDepth 20000 in
theorem mt_tk9 {h : sm_H} {d : Nat} {Q : Option mi_V → sm_H → Prop} {zk zc zl zd ze zn zj : Int} (hS : ab_Sh sx_sk h) (ok_zk : mi_in zk) (ok_zc : mi_in zc) (ok_zl : mi_in zl) (ok_zd : mi_in zd) (ok_ze : mi_in ze) (ok_zn : mi_in zn) (ok_zj : mi_in zj) (k0 : (0 ≤ mi_f h 14011 ∧ mi_f h 14011 ≤ 160) → (ze ≤ zj) → (((5 : Int)) ≤ zn) → ((0 ≤ (mi_f h 14011) ∧ (mi_f h 14011) < 161) ∧ (-2147483648 ≤ (mi_f h 14011) + ((1 : Int)) ∧ (mi_f h 14011) + ((1 : Int)) ≤ 2147483647) ∧ (0 ≤ ((mi_f h 14011) + ((1 : Int))) ∧ ((mi_f h 14011) + ((1 : Int))) ≤ 160)) ∧ (∀ h1, ab_Sh sx_sk h1 → mi_f h1 14011 = (mi_f h 14011) + ((1 : Int)) → (∀ i, mi_a h1 152 i = if i = Int.toNat (mi_f h 14011) then (-1 : Int) else (mi_a h 152 i)) → ab_Fr [(14011, 14012), (19456, 19457)] h h1 → me_E (d + 1) 229 7 [some (.inr (.inr 109)), some (.inl (ze)), some (.inl (zc)), some (.inl (zl)), some (.inl (zd)), some (.inl (ze)), some (.inl (zn)), some (.inl (zj))] [] h1 Q)) (k1 : (0 ≤ mi_f h 14011 ∧ mi_f h 14011 ≤ 160) → (ze ≤ zj) → (zn < ((5 : Int))) → ((0 ≤ (mi_f h 14011) ∧ (mi_f h 14011) < 161) ∧ (-2147483648 ≤ (mi_f h 14011) + ((1 : Int)) ∧ (mi_f h 14011) + ((1 : Int)) ≤ 2147483647) ∧ (0 ≤ ((mi_f h 14011) + ((1 : Int))) ∧ ((mi_f h 14011) + ((1 : Int))) ≤ 160)) ∧ (∀ h1, ab_Sh sx_sk h1 → mi_f h1 14011 = (mi_f h 14011) + ((1 : Int)) → (∀ i, mi_a h1 152 i = if i = Int.toNat (mi_f h 14011) then (1 : Int) else (mi_a h 152 i)) → ab_Fr [(14011, 14012), (19456, 19457)] h h1 → me_E (d + 1) 229 7 [some (.inr (.inr 109)), some (.inl (ze)), some (.inl (zc)), some (.inl (zl)), some (.inl (zd)), some (.inl (ze)), some (.inl (zn)), some (.inl (zj))] [] h1 Q)) (k2 : (0 ≤ mi_f h 14011 ∧ mi_f h 14011 ≤ 160) → (zj < ze) → (((5 : Int)) ≤ zn) → ((0 ≤ (mi_f h 14011) ∧ (mi_f h 14011) < 161) ∧ (-2147483648 ≤ (mi_f h 14011) + ((1 : Int)) ∧ (mi_f h 14011) + ((1 : Int)) ≤ 2147483647) ∧ (0 ≤ ((mi_f h 14011) + ((1 : Int))) ∧ ((mi_f h 14011) + ((1 : Int))) ≤ 160)) ∧ (∀ h1, ab_Sh sx_sk h1 → mi_f h1 14011 = (mi_f h 14011) + ((1 : Int)) → (∀ i, mi_a h1 152 i = if i = Int.toNat (mi_f h 14011) then (-1 : Int) else (mi_a h 152 i)) → ab_Fr [(14011, 14012), (19456, 19457)] h h1 → me_E (d + 1) 229 7 [some (.inr (.inr 109)), some (.inl (ze)), some (.inl (zc)), some (.inl (zl)), some (.inl (zd)), some (.inl (ze)), some (.inl (zn)), some (.inl (zj))] [] h1 Q)) (k3 : (0 ≤ mi_f h 14011 ∧ mi_f h 14011 ≤ 160) → (zj < ze) → (zn < ((5 : Int))) → ((0 ≤ (mi_f h 14011) ∧ (mi_f h 14011) < 161) ∧ (0 ≤ zj ∧ zj < 160) ∧ (-2147483648 ≤ zj + 1 ∧ zj + 1 ≤ 2147483647)) ∧ (∀ h1, ab_Sh sx_sk h1 → (∀ i, mx_b h1 154 i = if i = Int.toNat (mi_f h 14011) then (((Int64.ofNat 10) * (mx_b h 154 (Int.toNat (mi_f h 14011)))) + ((Int32.ofInt (mi_a h 111 (Int.toNat zj))).toInt64)) - (Int64.ofNat 48) else (mx_b h 154 i)) → ab_Fr [(19712, 19713)] h h1 → me_E (d + 1) 229 135 [some (.inr (.inr 109)), some (.inl (zk)), some (.inl (zc)), some (.inl (zl)), some (.inl (zd)), some (.inl (ze)), some (.inl (zn)), some (.inl (zj + 1))] [] h1 Q)) : me_E (d + 1) 229 135 [some (.inr (.inr 109)), some (.inl (zk)), some (.inl (zc)), some (.inl (zl)), some (.inl (zd)), some (.inl (ze)), some (.inl (zn)), some (.inl (zj))] [] h Q := Or.elim (mi_em .ge (zj) (ze)) (fun c0 => Or.elim (mi_em .ge (zn) (((5 : Int)))) (fun c1 => ms_tk9_0 hS ok_zk ok_zc ok_zl ok_zd ok_ze ok_zn ok_zj ⟨c0, c1, (k0 (me_fb hS rfl) c0 c1).1.1, (by decide), (k0 (me_fb hS rfl) c0 c1).1.2.1, (k0 (me_fb hS rfl) c0 c1).1.2.2⟩ (fun h1 W => (k0 (me_fb hS rfl) c0 c1).2 h1 W.1 (W.2.1 14011) (fun i => W.2.2.1 152 i) (W.2.2.2.2.2 _ rfl))) (fun c1 => ms_tk9_1 hS ok_zk ok_zc ok_zl ok_zd ok_ze ok_zn ok_zj ⟨c0, c1, (k1 (me_fb hS rfl) c0 c1).1.1, (by decide), (k1 (me_fb hS rfl) c0 c1).1.2.1, (k1 (me_fb hS rfl) c0 c1).1.2.2⟩ (fun h1 W => (k1 (me_fb hS rfl) c0 c1).2 h1 W.1 (W.2.1 14011) (fun i => W.2.2.1 152 i) (W.2.2.2.2.2 _ rfl)))) (fun c0 => Or.elim (mi_em .ge (zn) (((5 : Int)))) (fun c1 => ms_tk9_2 hS ok_zk ok_zc ok_zl ok_zd ok_ze ok_zn ok_zj ⟨c0, c1, c1, (k2 (me_fb hS rfl) c0 c1).1.1, (by decide), (k2 (me_fb hS rfl) c0 c1).1.2.1, (k2 (me_fb hS rfl) c0 c1).1.2.2⟩ (fun h1 W => (k2 (me_fb hS rfl) c0 c1).2 h1 W.1 (W.2.1 14011) (fun i => W.2.2.1 152 i) (W.2.2.2.2.2 _ rfl))) (fun c1 => ms_tk9_3 hS ok_zk ok_zc ok_zl ok_zd ok_ze ok_zn ok_zj ⟨c0, c1, (k3 (me_fb hS rfl) c0 c1).1.1, (k3 (me_fb hS rfl) c0 c1).1.2.1, (k3 (me_fb hS rfl) c0 c1).1.1, (k3 (me_fb hS rfl) c0 c1).1.2.2⟩ (fun h1 W => (k3 (me_fb hS rfl) c0 c1).2 h1 W.1 (fun i => W.2.2.2.2.1 154 i) (W.2.2.2.2.2 _ rfl))))
set_option maxRecDepth 20000 in
theorem mp_tk10_0 (h : sm_H) (d : Nat) (zk zc zl zd ze zn zj : Int) : mi_path [(229, (8, 0, sb_229))] sx_sk h 29 [1, 1, 1, 1, 8] (d + 1, 229, 222, [some (.inr (.inr 109)), some (.inl (zk)), some (.inl (zc)), some (.inl (zl)), some (.inl (zd)), some (.inl (ze)), some (.inl (zn)), some (.inl (zj))], [], [], []) = some ((d + 1, 229, 7, [some (.inr (.inr 109)), some (.inl (ze)), some (.inl (zc)), some (.inl (zl)), some (.inl (zd)), some (.inl (ze)), some (.inl (zn)), some (.inl ((-1 : Int)))], [], [.inl (14011, (mi_f h 14011) + ((1 : Int))), .inr (.inr (.inl (152, Int.toNat (mi_f h 14011), (2 : Int))))], []), [zj < zk, ((7 : Int)) ≤ zn, zn ≤ ((6 : Int)), ((-1 : Int)) < ((0 : Int)), 0 ≤ (mi_f h 14011) ∧ (mi_f h 14011) < 161, (-1) ≤ ((2 : Int)) ∧ ((2 : Int)) ≤ 23, -2147483648 ≤ (mi_f h 14011) + ((1 : Int)) ∧ (mi_f h 14011) + ((1 : Int)) ≤ 2147483647, 0 ≤ ((mi_f h 14011) + ((1 : Int))) ∧ ((mi_f h 14011) + ((1 : Int))) ≤ 160]) := rfl
theorem mi_tab_tk10_0 : ∀ e ∈ ([(229, (8, 0, sb_229))] : mi_T), sc_P e.1 = some e.2 := mi_tb mi_P229 (mi_tb_e)
set_option maxRecDepth 20000 in
theorem ms_tk10_0 {h : sm_H} {d : Nat} {Q : Option mi_V → sm_H → Prop} {zk zc zl zd ze zn zj : Int} (hS : ab_Sh sx_sk h) (ok_zk : mi_in zk) (ok_zc : mi_in zc) (ok_zl : mi_in zl) (ok_zd : mi_in zd) (ok_ze : mi_in ze) (ok_zn : mi_in zn) (ok_zj : mi_in zj) (ho : (zj < zk) ∧ (((7 : Int)) ≤ zn) ∧ (zn ≤ ((6 : Int))) ∧ (((-1 : Int)) < ((0 : Int))) ∧ (0 ≤ (mi_f h 14011) ∧ (mi_f h 14011) < 161) ∧ ((-1) ≤ ((2 : Int)) ∧ ((2 : Int)) ≤ 23) ∧ (-2147483648 ≤ (mi_f h 14011) + ((1 : Int)) ∧ (mi_f h 14011) + ((1 : Int)) ≤ 2147483647) ∧ (0 ≤ ((mi_f h 14011) + ((1 : Int))) ∧ ((mi_f h 14011) + ((1 : Int))) ≤ 160)) (kon : ∀ h1, me_W [.inl (14011, (mi_f h 14011) + ((1 : Int))), .inr (.inr (.inl (152, Int.toNat (mi_f h 14011), (2 : Int))))] h h1 → me_E (d + 1) 229 7 [some (.inr (.inr 109)), some (.inl (ze)), some (.inl (zc)), some (.inl (zl)), some (.inl (zd)), some (.inl (ze)), some (.inl (zn)), some (.inl ((-1 : Int)))] [] h1 Q) : me_E (d + 1) 229 222 [some (.inr (.inr 109)), some (.inl (zk)), some (.inl (zc)), some (.inl (zl)), some (.inl (zd)), some (.inl (ze)), some (.inl (zn)), some (.inl (zj))] [] h Q := me_seg (mp_tk10_0 h d zk zc zl zd ze zn zj) (mi_tab_tk10_0) hS (mi_okL_c (trivial) (mi_okL_c (ok_zk) (mi_okL_c (ok_zc) (mi_okL_c (ok_zl) (mi_okL_c (ok_zd) (mi_okL_c (ok_ze) (mi_okL_c (ok_zn) (mi_okL_c (ok_zj) (mi_okL_e))))))))) (mi_okS_e) (mi_al (ho.1) (mi_al (ho.2.1) (mi_al (ho.2.2.1) (mi_al (ho.2.2.2.1) (mi_al (ho.2.2.2.2.1) (mi_al (ho.2.2.2.2.2.1) (mi_al (ho.2.2.2.2.2.2.1) (mi_al (ho.2.2.2.2.2.2.2) (mi_al_e))))))))) (fun h1 W _ hst => kon h1 W)
set_option maxRecDepth 20000 in
theorem mp_tk10_1 (h : sm_H) (d : Nat) (zk zc zl zd ze zn zj : Int) : mi_path [(229, (8, 0, sb_229))] sx_sk h 28 [1, 1, 0, 8] (d + 1, 229, 222, [some (.inr (.inr 109)), some (.inl (zk)), some (.inl (zc)), some (.inl (zl)), some (.inl (zd)), some (.inl (ze)), some (.inl (zn)), some (.inl (zj))], [], [], []) = some ((d + 1, 229, 7, [some (.inr (.inr 109)), some (.inl (ze)), some (.inl (zc)), some (.inl (zl)), some (.inl (zd)), some (.inl (ze)), some (.inl (zn)), some (.inl ((-1 : Int)))], [], [.inl (14011, (mi_f h 14011) + ((1 : Int))), .inr (.inr (.inl (152, Int.toNat (mi_f h 14011), (-1 : Int))))], []), [zj < zk, ((7 : Int)) ≤ zn, ((6 : Int)) < zn, 0 ≤ (mi_f h 14011) ∧ (mi_f h 14011) < 161, (-1) ≤ ((-1 : Int)) ∧ ((-1 : Int)) ≤ 23, -2147483648 ≤ (mi_f h 14011) + ((1 : Int)) ∧ (mi_f h 14011) + ((1 : Int)) ≤ 2147483647, 0 ≤ ((mi_f h 14011) + ((1 : Int))) ∧ ((mi_f h 14011) + ((1 : Int))) ≤ 160]) := rfl
theorem mi_tab_tk10_1 : ∀ e ∈ ([(229, (8, 0, sb_229))] : mi_T), sc_P e.1 = some e.2 := mi_tb mi_P229 (mi_tb_e)
set_option maxRecDepth 20000 in
theorem ms_tk10_1 {h : sm_H} {d : Nat} {Q : Option mi_V → sm_H → Prop} {zk zc zl zd ze zn zj : Int} (hS : ab_Sh sx_sk h) (ok_zk : mi_in zk) (ok_zc : mi_in zc) (ok_zl : mi_in zl) (ok_zd : mi_in zd) (ok_ze : mi_in ze) (ok_zn : mi_in zn) (ok_zj : mi_in zj) (ho : (zj < zk) ∧ (((7 : Int)) ≤ zn) ∧ (((6 : Int)) < zn) ∧ (0 ≤ (mi_f h 14011) ∧ (mi_f h 14011) < 161) ∧ ((-1) ≤ ((-1 : Int)) ∧ ((-1 : Int)) ≤ 23) ∧ (-2147483648 ≤ (mi_f h 14011) + ((1 : Int)) ∧ (mi_f h 14011) + ((1 : Int)) ≤ 2147483647) ∧ (0 ≤ ((mi_f h 14011) + ((1 : Int))) ∧ ((mi_f h 14011) + ((1 : Int))) ≤ 160)) (kon : ∀ h1, me_W [.inl (14011, (mi_f h 14011) + ((1 : Int))), .inr (.inr (.inl (152, Int.toNat (mi_f h 14011), (-1 : Int))))] h h1 → me_E (d + 1) 229 7 [some (.inr (.inr 109)), some (.inl (ze)), some (.inl (zc)), some (.inl (zl)), some (.inl (zd)), some (.inl (ze)), some (.inl (zn)), some (.inl ((-1 : Int)))] [] h1 Q) : me_E (d + 1) 229 222 [some (.inr (.inr 109)), some (.inl (zk)), some (.inl (zc)), some (.inl (zl)), some (.inl (zd)), some (.inl (ze)), some (.inl (zn)), some (.inl (zj))] [] h Q := me_seg (mp_tk10_1 h d zk zc zl zd ze zn zj) (mi_tab_tk10_1) hS (mi_okL_c (trivial) (mi_okL_c (ok_zk) (mi_okL_c (ok_zc) (mi_okL_c (ok_zl) (mi_okL_c (ok_zd) (mi_okL_c (ok_ze) (mi_okL_c (ok_zn) (mi_okL_c (ok_zj) (mi_okL_e))))))))) (mi_okS_e) (mi_al (ho.1) (mi_al (ho.2.1) (mi_al (ho.2.2.1) (mi_al (ho.2.2.2.1) (mi_al (ho.2.2.2.2.1) (mi_al (ho.2.2.2.2.2.1) (mi_al (ho.2.2.2.2.2.2) (mi_al_e)))))))) (fun h1 W _ hst => kon h1 W)
set_option maxRecDepth 20000 in
theorem mp_tk10_2 (h : sm_H) (d : Nat) (zk zc zl zd ze zn zj : Int) : mi_path [(229, (8, 0, sb_229))] sx_sk h 12 [1, 0] (d + 1, 229, 222, [some (.inr (.inr 109)), some (.inl (zk)), some (.inl (zc)), some (.inl (zl)), some (.inl (zd)), some (.inl (ze)), some (.inl (zn)), some (.inl (zj))], [], [], []) = some ((d + 1, 229, 291, [some (.inr (.inr 109)), some (.inl (zk)), some (.inl (zc)), some (.inl (zl)), some (.inl (zd)), some (.inl (ze)), some (.inl (zn)), some (.inl (zj))], [.inr (.inl (mx_b h 154 (Int.toNat (mi_f h 14011)))), .inr (.inr 109)], [], []), [zj < zk, zn < ((7 : Int)), 0 ≤ (mi_f h 14011) ∧ (mi_f h 14011) < 161]) := rfl
theorem mi_tab_tk10_2 : ∀ e ∈ ([(229, (8, 0, sb_229))] : mi_T), sc_P e.1 = some e.2 := mi_tb mi_P229 (mi_tb_e)
set_option maxRecDepth 20000 in
theorem ms_tk10_2 {h : sm_H} {d : Nat} {Q : Option mi_V → sm_H → Prop} {zk zc zl zd ze zn zj : Int} (hS : ab_Sh sx_sk h) (ok_zk : mi_in zk) (ok_zc : mi_in zc) (ok_zl : mi_in zl) (ok_zd : mi_in zd) (ok_ze : mi_in ze) (ok_zn : mi_in zn) (ok_zj : mi_in zj) (ho : (zj < zk) ∧ (zn < ((7 : Int))) ∧ (0 ≤ (mi_f h 14011) ∧ (mi_f h 14011) < 161)) (kon : ∀ h1, me_W [] h h1 → ∃ Q1, me_E (d + 0) 216 0 (mi_entry 4 [.inr (.inr 109), .inr (.inl (mx_b h 154 (Int.toNat (mi_f h 14011))))]) [] h1 Q1 ∧ ∀ w h2, (∀ x, w = some x → mi_ok x) → Q1 w h2 → me_E (d + 1) 229 294 [some (.inr (.inr 109)), some (.inl (zk)), some (.inl (zc)), some (.inl (zl)), some (.inl (zd)), some (.inl (ze)), some (.inl (zn)), some (.inl (zj))] (mi_back w []) h2 Q) : me_E (d + 1) 229 222 [some (.inr (.inr 109)), some (.inl (zk)), some (.inl (zc)), some (.inl (zl)), some (.inl (zd)), some (.inl (ze)), some (.inl (zn)), some (.inl (zj))] [] h Q := me_seg (mp_tk10_2 h d zk zc zl zd ze zn zj) (mi_tab_tk10_2) hS (mi_okL_c (trivial) (mi_okL_c (ok_zk) (mi_okL_c (ok_zc) (mi_okL_c (ok_zl) (mi_okL_c (ok_zd) (mi_okL_c (ok_ze) (mi_okL_c (ok_zn) (mi_okL_c (ok_zj) (mi_okL_e))))))))) (mi_okS_e) (mi_al (ho.1) (mi_al (ho.2.1) (mi_al (ho.2.2) (mi_al_e)))) (fun h1 W _ hst => let ⟨_, k1, k2⟩ := kon h1 W; me_call (M := (8, 0, sb_229)) (M' := (4, 1, sb_216)) rfl rfl rfl rfl (Nat.le_of_ble_eq_true rfl) (Nat.le_of_ble_eq_true rfl) W.1 k1 k2)
set_option maxRecDepth 20000 in
theorem mp_tk10_3 (h : sm_H) (d : Nat) (zk zc zl zd ze zn zj : Int) : mi_path [(229, (8, 0, sb_229))] sx_sk h 32 [0, 1, 1, 1, 1, 8] (d + 1, 229, 222, [some (.inr (.inr 109)), some (.inl (zk)), some (.inl (zc)), some (.inl (zl)), some (.inl (zd)), some (.inl (ze)), some (.inl (zn)), some (.inl (zj))], [], [], []) = some ((d + 1, 229, 7, [some (.inr (.inr 109)), some (.inl (ze)), some (.inl (zc)), some (.inl (zl)), some (.inl (zd)), some (.inl (ze)), some (.inl (zn)), some (.inl ((-1 : Int)))], [], [.inl (14011, (mi_f h 14011) + ((1 : Int))), .inr (.inr (.inl (152, Int.toNat (mi_f h 14011), (2 : Int))))], []), [zk ≤ zj, ((7 : Int)) ≤ zn, ((7 : Int)) ≤ zn, zn ≤ ((6 : Int)), ((-1 : Int)) < ((0 : Int)), 0 ≤ (mi_f h 14011) ∧ (mi_f h 14011) < 161, (-1) ≤ ((2 : Int)) ∧ ((2 : Int)) ≤ 23, -2147483648 ≤ (mi_f h 14011) + ((1 : Int)) ∧ (mi_f h 14011) + ((1 : Int)) ≤ 2147483647, 0 ≤ ((mi_f h 14011) + ((1 : Int))) ∧ ((mi_f h 14011) + ((1 : Int))) ≤ 160]) := rfl
theorem mi_tab_tk10_3 : ∀ e ∈ ([(229, (8, 0, sb_229))] : mi_T), sc_P e.1 = some e.2 := mi_tb mi_P229 (mi_tb_e)
set_option maxRecDepth 20000 in
theorem ms_tk10_3 {h : sm_H} {d : Nat} {Q : Option mi_V → sm_H → Prop} {zk zc zl zd ze zn zj : Int} (hS : ab_Sh sx_sk h) (ok_zk : mi_in zk) (ok_zc : mi_in zc) (ok_zl : mi_in zl) (ok_zd : mi_in zd) (ok_ze : mi_in ze) (ok_zn : mi_in zn) (ok_zj : mi_in zj) (ho : (zk ≤ zj) ∧ (((7 : Int)) ≤ zn) ∧ (((7 : Int)) ≤ zn) ∧ (zn ≤ ((6 : Int))) ∧ (((-1 : Int)) < ((0 : Int))) ∧ (0 ≤ (mi_f h 14011) ∧ (mi_f h 14011) < 161) ∧ ((-1) ≤ ((2 : Int)) ∧ ((2 : Int)) ≤ 23) ∧ (-2147483648 ≤ (mi_f h 14011) + ((1 : Int)) ∧ (mi_f h 14011) + ((1 : Int)) ≤ 2147483647) ∧ (0 ≤ ((mi_f h 14011) + ((1 : Int))) ∧ ((mi_f h 14011) + ((1 : Int))) ≤ 160)) (kon : ∀ h1, me_W [.inl (14011, (mi_f h 14011) + ((1 : Int))), .inr (.inr (.inl (152, Int.toNat (mi_f h 14011), (2 : Int))))] h h1 → me_E (d + 1) 229 7 [some (.inr (.inr 109)), some (.inl (ze)), some (.inl (zc)), some (.inl (zl)), some (.inl (zd)), some (.inl (ze)), some (.inl (zn)), some (.inl ((-1 : Int)))] [] h1 Q) : me_E (d + 1) 229 222 [some (.inr (.inr 109)), some (.inl (zk)), some (.inl (zc)), some (.inl (zl)), some (.inl (zd)), some (.inl (ze)), some (.inl (zn)), some (.inl (zj))] [] h Q := me_seg (mp_tk10_3 h d zk zc zl zd ze zn zj) (mi_tab_tk10_3) hS (mi_okL_c (trivial) (mi_okL_c (ok_zk) (mi_okL_c (ok_zc) (mi_okL_c (ok_zl) (mi_okL_c (ok_zd) (mi_okL_c (ok_ze) (mi_okL_c (ok_zn) (mi_okL_c (ok_zj) (mi_okL_e))))))))) (mi_okS_e) (mi_al (ho.1) (mi_al (ho.2.1) (mi_al (ho.2.2.1) (mi_al (ho.2.2.2.1) (mi_al (ho.2.2.2.2.1) (mi_al (ho.2.2.2.2.2.1) (mi_al (ho.2.2.2.2.2.2.1) (mi_al (ho.2.2.2.2.2.2.2.1) (mi_al (ho.2.2.2.2.2.2.2.2) (mi_al_e)))))))))) (fun h1 W _ hst => kon h1 W)
set_option maxRecDepth 20000 in
theorem mp_tk10_4 (h : sm_H) (d : Nat) (zk zc zl zd ze zn zj : Int) : mi_path [(229, (8, 0, sb_229))] sx_sk h 31 [0, 1, 1, 0, 8] (d + 1, 229, 222, [some (.inr (.inr 109)), some (.inl (zk)), some (.inl (zc)), some (.inl (zl)), some (.inl (zd)), some (.inl (ze)), some (.inl (zn)), some (.inl (zj))], [], [], []) = some ((d + 1, 229, 7, [some (.inr (.inr 109)), some (.inl (ze)), some (.inl (zc)), some (.inl (zl)), some (.inl (zd)), some (.inl (ze)), some (.inl (zn)), some (.inl ((-1 : Int)))], [], [.inl (14011, (mi_f h 14011) + ((1 : Int))), .inr (.inr (.inl (152, Int.toNat (mi_f h 14011), (-1 : Int))))], []), [zk ≤ zj, ((7 : Int)) ≤ zn, ((7 : Int)) ≤ zn, ((6 : Int)) < zn, 0 ≤ (mi_f h 14011) ∧ (mi_f h 14011) < 161, (-1) ≤ ((-1 : Int)) ∧ ((-1 : Int)) ≤ 23, -2147483648 ≤ (mi_f h 14011) + ((1 : Int)) ∧ (mi_f h 14011) + ((1 : Int)) ≤ 2147483647, 0 ≤ ((mi_f h 14011) + ((1 : Int))) ∧ ((mi_f h 14011) + ((1 : Int))) ≤ 160]) := rfl
theorem mi_tab_tk10_4 : ∀ e ∈ ([(229, (8, 0, sb_229))] : mi_T), sc_P e.1 = some e.2 := mi_tb mi_P229 (mi_tb_e)
set_option maxRecDepth 20000 in
theorem ms_tk10_4 {h : sm_H} {d : Nat} {Q : Option mi_V → sm_H → Prop} {zk zc zl zd ze zn zj : Int} (hS : ab_Sh sx_sk h) (ok_zk : mi_in zk) (ok_zc : mi_in zc) (ok_zl : mi_in zl) (ok_zd : mi_in zd) (ok_ze : mi_in ze) (ok_zn : mi_in zn) (ok_zj : mi_in zj) (ho : (zk ≤ zj) ∧ (((7 : Int)) ≤ zn) ∧ (((7 : Int)) ≤ zn) ∧ (((6 : Int)) < zn) ∧ (0 ≤ (mi_f h 14011) ∧ (mi_f h 14011) < 161) ∧ ((-1) ≤ ((-1 : Int)) ∧ ((-1 : Int)) ≤ 23) ∧ (-2147483648 ≤ (mi_f h 14011) + ((1 : Int)) ∧ (mi_f h 14011) + ((1 : Int)) ≤ 2147483647) ∧ (0 ≤ ((mi_f h 14011) + ((1 : Int))) ∧ ((mi_f h 14011) + ((1 : Int))) ≤ 160)) (kon : ∀ h1, me_W [.inl (14011, (mi_f h 14011) + ((1 : Int))), .inr (.inr (.inl (152, Int.toNat (mi_f h 14011), (-1 : Int))))] h h1 → me_E (d + 1) 229 7 [some (.inr (.inr 109)), some (.inl (ze)), some (.inl (zc)), some (.inl (zl)), some (.inl (zd)), some (.inl (ze)), some (.inl (zn)), some (.inl ((-1 : Int)))] [] h1 Q) : me_E (d + 1) 229 222 [some (.inr (.inr 109)), some (.inl (zk)), some (.inl (zc)), some (.inl (zl)), some (.inl (zd)), some (.inl (ze)), some (.inl (zn)), some (.inl (zj))] [] h Q := me_seg (mp_tk10_4 h d zk zc zl zd ze zn zj) (mi_tab_tk10_4) hS (mi_okL_c (trivial) (mi_okL_c (ok_zk) (mi_okL_c (ok_zc) (mi_okL_c (ok_zl) (mi_okL_c (ok_zd) (mi_okL_c (ok_ze) (mi_okL_c (ok_zn) (mi_okL_c (ok_zj) (mi_okL_e))))))))) (mi_okS_e) (mi_al (ho.1) (mi_al (ho.2.1) (mi_al (ho.2.2.1) (mi_al (ho.2.2.2.1) (mi_al (ho.2.2.2.2.1) (mi_al (ho.2.2.2.2.2.1) (mi_al (ho.2.2.2.2.2.2.1) (mi_al (ho.2.2.2.2.2.2.2) (mi_al_e))))))))) (fun h1 W _ hst => kon h1 W)
set_option maxRecDepth 20000 in
theorem mp_tk10_5 (h : sm_H) (d : Nat) (zk zc zl zd ze zn zj : Int) : mi_path [(229, (8, 0, sb_229))] sx_sk h 28 [0, 0] (d + 1, 229, 222, [some (.inr (.inr 109)), some (.inl (zk)), some (.inl (zc)), some (.inl (zl)), some (.inl (zd)), some (.inl (ze)), some (.inl (zn)), some (.inl (zj))], [], [], []) = some ((d + 1, 229, 222, [some (.inr (.inr 109)), some (.inl (zk)), some (.inl (zc)), some (.inl (zl)), some (.inl (zd)), some (.inl (ze)), some (.inl (zn)), some (.inl (zj + (-1)))], [], [.inr (.inr (.inr (154, Int.toNat (mi_f h 14011), ((mx_b h 154 (Int.toNat (mi_f h 14011))) <<< ((Int32.ofInt ((5 : Int))).toInt64 &&& 63)) ||| (((Int32.ofInt (mi_a h 111 (Int.toNat zj))).toInt64) - (Int64.ofNat 96)))))], []), [zk ≤ zj, zn < ((7 : Int)), 0 ≤ (mi_f h 14011) ∧ (mi_f h 14011) < 161, 0 ≤ zj ∧ zj < 160, 0 ≤ (mi_f h 14011) ∧ (mi_f h 14011) < 161, -2147483648 ≤ zj + (-1) ∧ zj + (-1) ≤ 2147483647]) := rfl
theorem mi_tab_tk10_5 : ∀ e ∈ ([(229, (8, 0, sb_229))] : mi_T), sc_P e.1 = some e.2 := mi_tb mi_P229 (mi_tb_e)
set_option maxRecDepth 20000 in
theorem ms_tk10_5 {h : sm_H} {d : Nat} {Q : Option mi_V → sm_H → Prop} {zk zc zl zd ze zn zj : Int} (hS : ab_Sh sx_sk h) (ok_zk : mi_in zk) (ok_zc : mi_in zc) (ok_zl : mi_in zl) (ok_zd : mi_in zd) (ok_ze : mi_in ze) (ok_zn : mi_in zn) (ok_zj : mi_in zj) (ho : (zk ≤ zj) ∧ (zn < ((7 : Int))) ∧ (0 ≤ (mi_f h 14011) ∧ (mi_f h 14011) < 161) ∧ (0 ≤ zj ∧ zj < 160) ∧ (0 ≤ (mi_f h 14011) ∧ (mi_f h 14011) < 161) ∧ (-2147483648 ≤ zj + (-1) ∧ zj + (-1) ≤ 2147483647)) (kon : ∀ h1, me_W [.inr (.inr (.inr (154, Int.toNat (mi_f h 14011), ((mx_b h 154 (Int.toNat (mi_f h 14011))) <<< ((Int32.ofInt ((5 : Int))).toInt64 &&& 63)) ||| (((Int32.ofInt (mi_a h 111 (Int.toNat zj))).toInt64) - (Int64.ofNat 96)))))] h h1 → me_E (d + 1) 229 222 [some (.inr (.inr 109)), some (.inl (zk)), some (.inl (zc)), some (.inl (zl)), some (.inl (zd)), some (.inl (ze)), some (.inl (zn)), some (.inl (zj + (-1)))] [] h1 Q) : me_E (d + 1) 229 222 [some (.inr (.inr 109)), some (.inl (zk)), some (.inl (zc)), some (.inl (zl)), some (.inl (zd)), some (.inl (ze)), some (.inl (zn)), some (.inl (zj))] [] h Q := me_seg (mp_tk10_5 h d zk zc zl zd ze zn zj) (mi_tab_tk10_5) hS (mi_okL_c (trivial) (mi_okL_c (ok_zk) (mi_okL_c (ok_zc) (mi_okL_c (ok_zl) (mi_okL_c (ok_zd) (mi_okL_c (ok_ze) (mi_okL_c (ok_zn) (mi_okL_c (ok_zj) (mi_okL_e))))))))) (mi_okS_e) (mi_al (ho.1) (mi_al (ho.2.1) (mi_al (ho.2.2.1) (mi_al (ho.2.2.2.1) (mi_al (ho.2.2.2.2.1) (mi_al (ho.2.2.2.2.2) (mi_al_e))))))) (fun h1 W _ hst => kon h1 W)
set_option maxRecDepth 20000 in
theorem mt_tk10 {h : sm_H} {d : Nat} {Q : Option mi_V → sm_H → Prop} {zk zc zl zd ze zn zj : Int} (hS : ab_Sh sx_sk h) (ok_zk : mi_in zk) (ok_zc : mi_in zc) (ok_zl : mi_in zl) (ok_zd : mi_in zd) (ok_ze : mi_in ze) (ok_zn : mi_in zn) (ok_zj : mi_in zj) (k0 : (0 ≤ mi_f h 14011 ∧ mi_f h 14011 ≤ 160) → (zj < zk) → (((7 : Int)) ≤ zn) → (zn ≤ ((6 : Int))) → ((0 ≤ (mi_f h 14011) ∧ (mi_f h 14011) < 161) ∧ (-2147483648 ≤ (mi_f h 14011) + ((1 : Int)) ∧ (mi_f h 14011) + ((1 : Int)) ≤ 2147483647) ∧ (0 ≤ ((mi_f h 14011) + ((1 : Int))) ∧ ((mi_f h 14011) + ((1 : Int))) ≤ 160)) ∧ (∀ h1, ab_Sh sx_sk h1 → mi_f h1 14011 = (mi_f h 14011) + ((1 : Int)) → (∀ i, mi_a h1 152 i = if i = Int.toNat (mi_f h 14011) then (2 : Int) else (mi_a h 152 i)) → ab_Fr [(14011, 14012), (19456, 19457)] h h1 → me_E (d + 1) 229 7 [some (.inr (.inr 109)), some (.inl (ze)), some (.inl (zc)), some (.inl (zl)), some (.inl (zd)), some (.inl (ze)), some (.inl (zn)), some (.inl ((-1 : Int)))] [] h1 Q)) (k1 : (0 ≤ mi_f h 14011 ∧ mi_f h 14011 ≤ 160) → (zj < zk) → (((7 : Int)) ≤ zn) → (((6 : Int)) < zn) → ((0 ≤ (mi_f h 14011) ∧ (mi_f h 14011) < 161) ∧ (-2147483648 ≤ (mi_f h 14011) + ((1 : Int)) ∧ (mi_f h 14011) + ((1 : Int)) ≤ 2147483647) ∧ (0 ≤ ((mi_f h 14011) + ((1 : Int))) ∧ ((mi_f h 14011) + ((1 : Int))) ≤ 160)) ∧ (∀ h1, ab_Sh sx_sk h1 → mi_f h1 14011 = (mi_f h 14011) + ((1 : Int)) → (∀ i, mi_a h1 152 i = if i = Int.toNat (mi_f h 14011) then (-1 : Int) else (mi_a h 152 i)) → ab_Fr [(14011, 14012), (19456, 19457)] h h1 → me_E (d + 1) 229 7 [some (.inr (.inr 109)), some (.inl (ze)), some (.inl (zc)), some (.inl (zl)), some (.inl (zd)), some (.inl (ze)), some (.inl (zn)), some (.inl ((-1 : Int)))] [] h1 Q)) (k2 : (0 ≤ mi_f h 14011 ∧ mi_f h 14011 ≤ 160) → (zj < zk) → (zn < ((7 : Int))) → ((0 ≤ (mi_f h 14011) ∧ (mi_f h 14011) < 161)) ∧ (∀ h1, ab_Sh sx_sk h1 → ab_Fr [] h h1 → ∃ Q1, me_E (d + 0) 216 0 (mi_entry 4 [.inr (.inr 109), .inr (.inl (mx_b h 154 (Int.toNat (mi_f h 14011))))]) [] h1 Q1 ∧ ∀ w h2, (∀ x, w = some x → mi_ok x) → Q1 w h2 → me_E (d + 1) 229 294 [some (.inr (.inr 109)), some (.inl (zk)), some (.inl (zc)), some (.inl (zl)), some (.inl (zd)), some (.inl (ze)), some (.inl (zn)), some (.inl (zj))] (mi_back w []) h2 Q)) (k3 : (0 ≤ mi_f h 14011 ∧ mi_f h 14011 ≤ 160) → (zk ≤ zj) → (((7 : Int)) ≤ zn) → (zn ≤ ((6 : Int))) → ((0 ≤ (mi_f h 14011) ∧ (mi_f h 14011) < 161) ∧ (-2147483648 ≤ (mi_f h 14011) + ((1 : Int)) ∧ (mi_f h 14011) + ((1 : Int)) ≤ 2147483647) ∧ (0 ≤ ((mi_f h 14011) + ((1 : Int))) ∧ ((mi_f h 14011) + ((1 : Int))) ≤ 160)) ∧ (∀ h1, ab_Sh sx_sk h1 → mi_f h1 14011 = (mi_f h 14011) + ((1 : Int)) → (∀ i, mi_a h1 152 i = if i = Int.toNat (mi_f h 14011) then (2 : Int) else (mi_a h 152 i)) → ab_Fr [(14011, 14012), (19456, 19457)] h h1 → me_E (d + 1) 229 7 [some (.inr (.inr 109)), some (.inl (ze)), some (.inl (zc)), some (.inl (zl)), some (.inl (zd)), some (.inl (ze)), some (.inl (zn)), some (.inl ((-1 : Int)))] [] h1 Q)) (k4 : (0 ≤ mi_f h 14011 ∧ mi_f h 14011 ≤ 160) → (zk ≤ zj) → (((7 : Int)) ≤ zn) → (((6 : Int)) < zn) → ((0 ≤ (mi_f h 14011) ∧ (mi_f h 14011) < 161) ∧ (-2147483648 ≤ (mi_f h 14011) + ((1 : Int)) ∧ (mi_f h 14011) + ((1 : Int)) ≤ 2147483647) ∧ (0 ≤ ((mi_f h 14011) + ((1 : Int))) ∧ ((mi_f h 14011) + ((1 : Int))) ≤ 160)) ∧ (∀ h1, ab_Sh sx_sk h1 → mi_f h1 14011 = (mi_f h 14011) + ((1 : Int)) → (∀ i, mi_a h1 152 i = if i = Int.toNat (mi_f h 14011) then (-1 : Int) else (mi_a h 152 i)) → ab_Fr [(14011, 14012), (19456, 19457)] h h1 → me_E (d + 1) 229 7 [some (.inr (.inr 109)), some (.inl (ze)), some (.inl (zc)), some (.inl (zl)), some (.inl (zd)), some (.inl (ze)), some (.inl (zn)), some (.inl ((-1 : Int)))] [] h1 Q)) (k5 : (0 ≤ mi_f h 14011 ∧ mi_f h 14011 ≤ 160) → (zk ≤ zj) → (zn < ((7 : Int))) → ((0 ≤ (mi_f h 14011) ∧ (mi_f h 14011) < 161) ∧ (0 ≤ zj ∧ zj < 160) ∧ (-2147483648 ≤ zj + (-1) ∧ zj + (-1) ≤ 2147483647)) ∧ (∀ h1, ab_Sh sx_sk h1 → (∀ i, mx_b h1 154 i = if i = Int.toNat (mi_f h 14011) then ((mx_b h 154 (Int.toNat (mi_f h 14011))) <<< ((Int32.ofInt ((5 : Int))).toInt64 &&& 63)) ||| (((Int32.ofInt (mi_a h 111 (Int.toNat zj))).toInt64) - (Int64.ofNat 96)) else (mx_b h 154 i)) → ab_Fr [(19712, 19713)] h h1 → me_E (d + 1) 229 222 [some (.inr (.inr 109)), some (.inl (zk)), some (.inl (zc)), some (.inl (zl)), some (.inl (zd)), some (.inl (ze)), some (.inl (zn)), some (.inl (zj + (-1)))] [] h1 Q)) : me_E (d + 1) 229 222 [some (.inr (.inr 109)), some (.inl (zk)), some (.inl (zc)), some (.inl (zl)), some (.inl (zd)), some (.inl (ze)), some (.inl (zn)), some (.inl (zj))] [] h Q := Or.elim (mi_em .lt (zj) (zk)) (fun c0 => Or.elim (mi_em .ge (zn) (((7 : Int)))) (fun c1 => Or.elim (mi_em .le (zn) (((6 : Int)))) (fun c2 => ms_tk10_0 hS ok_zk ok_zc ok_zl ok_zd ok_ze ok_zn ok_zj ⟨c0, c1, c2, (by decide), (k0 (me_fb hS rfl) c0 c1 c2).1.1, (by decide), (k0 (me_fb hS rfl) c0 c1 c2).1.2.1, (k0 (me_fb hS rfl) c0 c1 c2).1.2.2⟩ (fun h1 W => (k0 (me_fb hS rfl) c0 c1 c2).2 h1 W.1 (W.2.1 14011) (fun i => W.2.2.1 152 i) (W.2.2.2.2.2 _ rfl))) (fun c2 => ms_tk10_1 hS ok_zk ok_zc ok_zl ok_zd ok_ze ok_zn ok_zj ⟨c0, c1, c2, (k1 (me_fb hS rfl) c0 c1 c2).1.1, (by decide), (k1 (me_fb hS rfl) c0 c1 c2).1.2.1, (k1 (me_fb hS rfl) c0 c1 c2).1.2.2⟩ (fun h1 W => (k1 (me_fb hS rfl) c0 c1 c2).2 h1 W.1 (W.2.1 14011) (fun i => W.2.2.1 152 i) (W.2.2.2.2.2 _ rfl)))) (fun c1 => ms_tk10_2 hS ok_zk ok_zc ok_zl ok_zd ok_ze ok_zn ok_zj ⟨c0, c1, (k2 (me_fb hS rfl) c0 c1).1⟩ (fun h1 W => (k2 (me_fb hS rfl) c0 c1).2 h1 W.1 (W.2.2.2.2.2 _ rfl)))) (fun c0 => Or.elim (mi_em .ge (zn) (((7 : Int)))) (fun c1 => Or.elim (mi_em .le (zn) (((6 : Int)))) (fun c2 => ms_tk10_3 hS ok_zk ok_zc ok_zl ok_zd ok_ze ok_zn ok_zj ⟨c0, c1, c1, c2, (by decide), (k3 (me_fb hS rfl) c0 c1 c2).1.1, (by decide), (k3 (me_fb hS rfl) c0 c1 c2).1.2.1, (k3 (me_fb hS rfl) c0 c1 c2).1.2.2⟩ (fun h1 W => (k3 (me_fb hS rfl) c0 c1 c2).2 h1 W.1 (W.2.1 14011) (fun i => W.2.2.1 152 i) (W.2.2.2.2.2 _ rfl))) (fun c2 => ms_tk10_4 hS ok_zk ok_zc ok_zl ok_zd ok_ze ok_zn ok_zj ⟨c0, c1, c1, c2, (k4 (me_fb hS rfl) c0 c1 c2).1.1, (by decide), (k4 (me_fb hS rfl) c0 c1 c2).1.2.1, (k4 (me_fb hS rfl) c0 c1 c2).1.2.2⟩ (fun h1 W => (k4 (me_fb hS rfl) c0 c1 c2).2 h1 W.1 (W.2.1 14011) (fun i => W.2.2.1 152 i) (W.2.2.2.2.2 _ rfl)))) (fun c1 => ms_tk10_5 hS ok_zk ok_zc ok_zl ok_zd ok_ze ok_zn ok_zj ⟨c0, c1, (k5 (me_fb hS rfl) c0 c1).1.1, (k5 (me_fb hS rfl) c0 c1).1.2.1, (k5 (me_fb hS rfl) c0 c1).1.1, (k5 (me_fb hS rfl) c0 c1).1.2.2⟩ (fun h1 W => (k5 (me_fb hS rfl) c0 c1).2 h1 W.1 (fun i => W.2.2.2.2.1 154 i) (W.2.2.2.2.2 _ rfl))))
set_option maxRecDepth 20000 in
theorem mp_tk11_0 (h : sm_H) (d : Nat) (zk zc zl zd ze zn zj zz : Int) : mi_path [(229, (8, 0, sb_229))] sx_sk h 23 [1, 1, 8] (d + 1, 229, 294, [some (.inr (.inr 109)), some (.inl (zk)), some (.inl (zc)), some (.inl (zl)), some (.inl (zd)), some (.inl (ze)), some (.inl (zn)), some (.inl (zj))], [.inl (zz)], [], []) = some ((d + 1, 229, 7, [some (.inr (.inr 109)), some (.inl (ze)), some (.inl (zc)), some (.inl (zl)), some (.inl (zd)), some (.inl (ze)), some (.inl (zn)), some (.inl (zz))], [], [.inl (14011, (mi_f h 14011) + ((1 : Int))), .inr (.inr (.inl (152, Int.toNat (mi_f h 14011), (2 : Int))))], []), [zn ≤ ((6 : Int)), zz < ((0 : Int)), 0 ≤ (mi_f h 14011) ∧ (mi_f h 14011) < 161, (-1) ≤ ((2 : Int)) ∧ ((2 : Int)) ≤ 23, -2147483648 ≤ (mi_f h 14011) + ((1 : Int)) ∧ (mi_f h 14011) + ((1 : Int)) ≤ 2147483647, 0 ≤ ((mi_f h 14011) + ((1 : Int))) ∧ ((mi_f h 14011) + ((1 : Int))) ≤ 160]) := rfl
theorem mi_tab_tk11_0 : ∀ e ∈ ([(229, (8, 0, sb_229))] : mi_T), sc_P e.1 = some e.2 := mi_tb mi_P229 (mi_tb_e)
set_option maxRecDepth 20000 in
theorem ms_tk11_0 {h : sm_H} {d : Nat} {Q : Option mi_V → sm_H → Prop} {zk zc zl zd ze zn zj zz : Int} (hS : ab_Sh sx_sk h) (ok_zk : mi_in zk) (ok_zc : mi_in zc) (ok_zl : mi_in zl) (ok_zd : mi_in zd) (ok_ze : mi_in ze) (ok_zn : mi_in zn) (ok_zj : mi_in zj) (ok_zz : mi_in zz) (ho : (zn ≤ ((6 : Int))) ∧ (zz < ((0 : Int))) ∧ (0 ≤ (mi_f h 14011) ∧ (mi_f h 14011) < 161) ∧ ((-1) ≤ ((2 : Int)) ∧ ((2 : Int)) ≤ 23) ∧ (-2147483648 ≤ (mi_f h 14011) + ((1 : Int)) ∧ (mi_f h 14011) + ((1 : Int)) ≤ 2147483647) ∧ (0 ≤ ((mi_f h 14011) + ((1 : Int))) ∧ ((mi_f h 14011) + ((1 : Int))) ≤ 160)) (kon : ∀ h1, me_W [.inl (14011, (mi_f h 14011) + ((1 : Int))), .inr (.inr (.inl (152, Int.toNat (mi_f h 14011), (2 : Int))))] h h1 → me_E (d + 1) 229 7 [some (.inr (.inr 109)), some (.inl (ze)), some (.inl (zc)), some (.inl (zl)), some (.inl (zd)), some (.inl (ze)), some (.inl (zn)), some (.inl (zz))] [] h1 Q) : me_E (d + 1) 229 294 [some (.inr (.inr 109)), some (.inl (zk)), some (.inl (zc)), some (.inl (zl)), some (.inl (zd)), some (.inl (ze)), some (.inl (zn)), some (.inl (zj))] [.inl (zz)] h Q := me_seg (mp_tk11_0 h d zk zc zl zd ze zn zj zz) (mi_tab_tk11_0) hS (mi_okL_c (trivial) (mi_okL_c (ok_zk) (mi_okL_c (ok_zc) (mi_okL_c (ok_zl) (mi_okL_c (ok_zd) (mi_okL_c (ok_ze) (mi_okL_c (ok_zn) (mi_okL_c (ok_zj) (mi_okL_e))))))))) (mi_okS_cons (ok_zz) (mi_okS_e)) (mi_al (ho.1) (mi_al (ho.2.1) (mi_al (ho.2.2.1) (mi_al (ho.2.2.2.1) (mi_al (ho.2.2.2.2.1) (mi_al (ho.2.2.2.2.2) (mi_al_e))))))) (fun h1 W _ hst => kon h1 W)
set_option maxRecDepth 20000 in
theorem mp_tk11_1 (h : sm_H) (d : Nat) (zk zc zl zd ze zn zj zz : Int) : mi_path [(229, (8, 0, sb_229))] sx_sk h 26 [1, 0, 8, 8] (d + 1, 229, 294, [some (.inr (.inr 109)), some (.inl (zk)), some (.inl (zc)), some (.inl (zl)), some (.inl (zd)), some (.inl (ze)), some (.inl (zn)), some (.inl (zj))], [.inl (zz)], [], []) = some ((d + 1, 229, 7, [some (.inr (.inr 109)), some (.inl (ze)), some (.inl (zc)), some (.inl (zl)), some (.inl (zd)), some (.inl (ze)), some (.inl (zn)), some (.inl (zz))], [], [.inl (14011, (mi_f h 14011) + ((1 : Int))), .inr (.inr (.inl (152, Int.toNat (mi_f h 14011), ((3 : Int)) + zz)))], []), [zn ≤ ((6 : Int)), ((0 : Int)) ≤ zz, -2147483648 ≤ ((3 : Int)) + zz ∧ ((3 : Int)) + zz ≤ 2147483647, 0 ≤ (mi_f h 14011) ∧ (mi_f h 14011) < 161, (-1) ≤ (((3 : Int)) + zz) ∧ (((3 : Int)) + zz) ≤ 23, -2147483648 ≤ (mi_f h 14011) + ((1 : Int)) ∧ (mi_f h 14011) + ((1 : Int)) ≤ 2147483647, 0 ≤ ((mi_f h 14011) + ((1 : Int))) ∧ ((mi_f h 14011) + ((1 : Int))) ≤ 160]) := rfl
theorem mi_tab_tk11_1 : ∀ e ∈ ([(229, (8, 0, sb_229))] : mi_T), sc_P e.1 = some e.2 := mi_tb mi_P229 (mi_tb_e)
set_option maxRecDepth 20000 in
theorem ms_tk11_1 {h : sm_H} {d : Nat} {Q : Option mi_V → sm_H → Prop} {zk zc zl zd ze zn zj zz : Int} (hS : ab_Sh sx_sk h) (ok_zk : mi_in zk) (ok_zc : mi_in zc) (ok_zl : mi_in zl) (ok_zd : mi_in zd) (ok_ze : mi_in ze) (ok_zn : mi_in zn) (ok_zj : mi_in zj) (ok_zz : mi_in zz) (ho : (zn ≤ ((6 : Int))) ∧ (((0 : Int)) ≤ zz) ∧ (-2147483648 ≤ ((3 : Int)) + zz ∧ ((3 : Int)) + zz ≤ 2147483647) ∧ (0 ≤ (mi_f h 14011) ∧ (mi_f h 14011) < 161) ∧ ((-1) ≤ (((3 : Int)) + zz) ∧ (((3 : Int)) + zz) ≤ 23) ∧ (-2147483648 ≤ (mi_f h 14011) + ((1 : Int)) ∧ (mi_f h 14011) + ((1 : Int)) ≤ 2147483647) ∧ (0 ≤ ((mi_f h 14011) + ((1 : Int))) ∧ ((mi_f h 14011) + ((1 : Int))) ≤ 160)) (kon : ∀ h1, me_W [.inl (14011, (mi_f h 14011) + ((1 : Int))), .inr (.inr (.inl (152, Int.toNat (mi_f h 14011), ((3 : Int)) + zz)))] h h1 → me_E (d + 1) 229 7 [some (.inr (.inr 109)), some (.inl (ze)), some (.inl (zc)), some (.inl (zl)), some (.inl (zd)), some (.inl (ze)), some (.inl (zn)), some (.inl (zz))] [] h1 Q) : me_E (d + 1) 229 294 [some (.inr (.inr 109)), some (.inl (zk)), some (.inl (zc)), some (.inl (zl)), some (.inl (zd)), some (.inl (ze)), some (.inl (zn)), some (.inl (zj))] [.inl (zz)] h Q := me_seg (mp_tk11_1 h d zk zc zl zd ze zn zj zz) (mi_tab_tk11_1) hS (mi_okL_c (trivial) (mi_okL_c (ok_zk) (mi_okL_c (ok_zc) (mi_okL_c (ok_zl) (mi_okL_c (ok_zd) (mi_okL_c (ok_ze) (mi_okL_c (ok_zn) (mi_okL_c (ok_zj) (mi_okL_e))))))))) (mi_okS_cons (ok_zz) (mi_okS_e)) (mi_al (ho.1) (mi_al (ho.2.1) (mi_al (ho.2.2.1) (mi_al (ho.2.2.2.1) (mi_al (ho.2.2.2.2.1) (mi_al (ho.2.2.2.2.2.1) (mi_al (ho.2.2.2.2.2.2) (mi_al_e)))))))) (fun h1 W _ hst => kon h1 W)
set_option maxRecDepth 20000 in
theorem mp_tk11_2 (h : sm_H) (d : Nat) (zk zc zl zd ze zn zj zz : Int) : mi_path [(229, (8, 0, sb_229))] sx_sk h 22 [0, 8] (d + 1, 229, 294, [some (.inr (.inr 109)), some (.inl (zk)), some (.inl (zc)), some (.inl (zl)), some (.inl (zd)), some (.inl (ze)), some (.inl (zn)), some (.inl (zj))], [.inl (zz)], [], []) = some ((d + 1, 229, 7, [some (.inr (.inr 109)), some (.inl (ze)), some (.inl (zc)), some (.inl (zl)), some (.inl (zd)), some (.inl (ze)), some (.inl (zn)), some (.inl (zz))], [], [.inl (14011, (mi_f h 14011) + ((1 : Int))), .inr (.inr (.inl (152, Int.toNat (mi_f h 14011), (-1 : Int))))], []), [((6 : Int)) < zn, 0 ≤ (mi_f h 14011) ∧ (mi_f h 14011) < 161, (-1) ≤ ((-1 : Int)) ∧ ((-1 : Int)) ≤ 23, -2147483648 ≤ (mi_f h 14011) + ((1 : Int)) ∧ (mi_f h 14011) + ((1 : Int)) ≤ 2147483647, 0 ≤ ((mi_f h 14011) + ((1 : Int))) ∧ ((mi_f h 14011) + ((1 : Int))) ≤ 160]) := rfl
theorem mi_tab_tk11_2 : ∀ e ∈ ([(229, (8, 0, sb_229))] : mi_T), sc_P e.1 = some e.2 := mi_tb mi_P229 (mi_tb_e)
set_option maxRecDepth 20000 in
theorem ms_tk11_2 {h : sm_H} {d : Nat} {Q : Option mi_V → sm_H → Prop} {zk zc zl zd ze zn zj zz : Int} (hS : ab_Sh sx_sk h) (ok_zk : mi_in zk) (ok_zc : mi_in zc) (ok_zl : mi_in zl) (ok_zd : mi_in zd) (ok_ze : mi_in ze) (ok_zn : mi_in zn) (ok_zj : mi_in zj) (ok_zz : mi_in zz) (ho : (((6 : Int)) < zn) ∧ (0 ≤ (mi_f h 14011) ∧ (mi_f h 14011) < 161) ∧ ((-1) ≤ ((-1 : Int)) ∧ ((-1 : Int)) ≤ 23) ∧ (-2147483648 ≤ (mi_f h 14011) + ((1 : Int)) ∧ (mi_f h 14011) + ((1 : Int)) ≤ 2147483647) ∧ (0 ≤ ((mi_f h 14011) + ((1 : Int))) ∧ ((mi_f h 14011) + ((1 : Int))) ≤ 160)) (kon : ∀ h1, me_W [.inl (14011, (mi_f h 14011) + ((1 : Int))), .inr (.inr (.inl (152, Int.toNat (mi_f h 14011), (-1 : Int))))] h h1 → me_E (d + 1) 229 7 [some (.inr (.inr 109)), some (.inl (ze)), some (.inl (zc)), some (.inl (zl)), some (.inl (zd)), some (.inl (ze)), some (.inl (zn)), some (.inl (zz))] [] h1 Q) : me_E (d + 1) 229 294 [some (.inr (.inr 109)), some (.inl (zk)), some (.inl (zc)), some (.inl (zl)), some (.inl (zd)), some (.inl (ze)), some (.inl (zn)), some (.inl (zj))] [.inl (zz)] h Q := me_seg (mp_tk11_2 h d zk zc zl zd ze zn zj zz) (mi_tab_tk11_2) hS (mi_okL_c (trivial) (mi_okL_c (ok_zk) (mi_okL_c (ok_zc) (mi_okL_c (ok_zl) (mi_okL_c (ok_zd) (mi_okL_c (ok_ze) (mi_okL_c (ok_zn) (mi_okL_c (ok_zj) (mi_okL_e))))))))) (mi_okS_cons (ok_zz) (mi_okS_e)) (mi_al (ho.1) (mi_al (ho.2.1) (mi_al (ho.2.2.1) (mi_al (ho.2.2.2.1) (mi_al (ho.2.2.2.2) (mi_al_e)))))) (fun h1 W _ hst => kon h1 W)
set_option maxRecDepth 20000 in
theorem mt_tk11 {h : sm_H} {d : Nat} {Q : Option mi_V → sm_H → Prop} {zk zc zl zd ze zn zj zz : Int} (hS : ab_Sh sx_sk h) (ok_zk : mi_in zk) (ok_zc : mi_in zc) (ok_zl : mi_in zl) (ok_zd : mi_in zd) (ok_ze : mi_in ze) (ok_zn : mi_in zn) (ok_zj : mi_in zj) (ok_zz : mi_in zz) (k0 : (0 ≤ mi_f h 14011 ∧ mi_f h 14011 ≤ 160) → (zn ≤ ((6 : Int))) → (zz < ((0 : Int))) → ((0 ≤ (mi_f h 14011) ∧ (mi_f h 14011) < 161) ∧ (-2147483648 ≤ (mi_f h 14011) + ((1 : Int)) ∧ (mi_f h 14011) + ((1 : Int)) ≤ 2147483647) ∧ (0 ≤ ((mi_f h 14011) + ((1 : Int))) ∧ ((mi_f h 14011) + ((1 : Int))) ≤ 160)) ∧ (∀ h1, ab_Sh sx_sk h1 → mi_f h1 14011 = (mi_f h 14011) + ((1 : Int)) → (∀ i, mi_a h1 152 i = if i = Int.toNat (mi_f h 14011) then (2 : Int) else (mi_a h 152 i)) → ab_Fr [(14011, 14012), (19456, 19457)] h h1 → me_E (d + 1) 229 7 [some (.inr (.inr 109)), some (.inl (ze)), some (.inl (zc)), some (.inl (zl)), some (.inl (zd)), some (.inl (ze)), some (.inl (zn)), some (.inl (zz))] [] h1 Q)) (k1 : (0 ≤ mi_f h 14011 ∧ mi_f h 14011 ≤ 160) → (zn ≤ ((6 : Int))) → (((0 : Int)) ≤ zz) → ((-2147483648 ≤ ((3 : Int)) + zz ∧ ((3 : Int)) + zz ≤ 2147483647) ∧ (0 ≤ (mi_f h 14011) ∧ (mi_f h 14011) < 161) ∧ ((-1) ≤ (((3 : Int)) + zz) ∧ (((3 : Int)) + zz) ≤ 23) ∧ (-2147483648 ≤ (mi_f h 14011) + ((1 : Int)) ∧ (mi_f h 14011) + ((1 : Int)) ≤ 2147483647) ∧ (0 ≤ ((mi_f h 14011) + ((1 : Int))) ∧ ((mi_f h 14011) + ((1 : Int))) ≤ 160)) ∧ (∀ h1, ab_Sh sx_sk h1 → mi_f h1 14011 = (mi_f h 14011) + ((1 : Int)) → (∀ i, mi_a h1 152 i = if i = Int.toNat (mi_f h 14011) then ((3 : Int)) + zz else (mi_a h 152 i)) → ab_Fr [(14011, 14012), (19456, 19457)] h h1 → me_E (d + 1) 229 7 [some (.inr (.inr 109)), some (.inl (ze)), some (.inl (zc)), some (.inl (zl)), some (.inl (zd)), some (.inl (ze)), some (.inl (zn)), some (.inl (zz))] [] h1 Q)) (k2 : (0 ≤ mi_f h 14011 ∧ mi_f h 14011 ≤ 160) → (((6 : Int)) < zn) → ((0 ≤ (mi_f h 14011) ∧ (mi_f h 14011) < 161) ∧ (-2147483648 ≤ (mi_f h 14011) + ((1 : Int)) ∧ (mi_f h 14011) + ((1 : Int)) ≤ 2147483647) ∧ (0 ≤ ((mi_f h 14011) + ((1 : Int))) ∧ ((mi_f h 14011) + ((1 : Int))) ≤ 160)) ∧ (∀ h1, ab_Sh sx_sk h1 → mi_f h1 14011 = (mi_f h 14011) + ((1 : Int)) → (∀ i, mi_a h1 152 i = if i = Int.toNat (mi_f h 14011) then (-1 : Int) else (mi_a h 152 i)) → ab_Fr [(14011, 14012), (19456, 19457)] h h1 → me_E (d + 1) 229 7 [some (.inr (.inr 109)), some (.inl (ze)), some (.inl (zc)), some (.inl (zl)), some (.inl (zd)), some (.inl (ze)), some (.inl (zn)), some (.inl (zz))] [] h1 Q)) : me_E (d + 1) 229 294 [some (.inr (.inr 109)), some (.inl (zk)), some (.inl (zc)), some (.inl (zl)), some (.inl (zd)), some (.inl (ze)), some (.inl (zn)), some (.inl (zj))] [.inl (zz)] h Q := Or.elim (mi_em .le (zn) (((6 : Int)))) (fun c0 => Or.elim (mi_em .lt (zz) (((0 : Int)))) (fun c1 => ms_tk11_0 hS ok_zk ok_zc ok_zl ok_zd ok_ze ok_zn ok_zj ok_zz ⟨c0, c1, (k0 (me_fb hS rfl) c0 c1).1.1, (by decide), (k0 (me_fb hS rfl) c0 c1).1.2.1, (k0 (me_fb hS rfl) c0 c1).1.2.2⟩ (fun h1 W => (k0 (me_fb hS rfl) c0 c1).2 h1 W.1 (W.2.1 14011) (fun i => W.2.2.1 152 i) (W.2.2.2.2.2 _ rfl))) (fun c1 => ms_tk11_1 hS ok_zk ok_zc ok_zl ok_zd ok_ze ok_zn ok_zj ok_zz ⟨c0, c1, (k1 (me_fb hS rfl) c0 c1).1.1, (k1 (me_fb hS rfl) c0 c1).1.2.1, (k1 (me_fb hS rfl) c0 c1).1.2.2.1, (k1 (me_fb hS rfl) c0 c1).1.2.2.2.1, (k1 (me_fb hS rfl) c0 c1).1.2.2.2.2⟩ (fun h1 W => (k1 (me_fb hS rfl) c0 c1).2 h1 W.1 (W.2.1 14011) (fun i => W.2.2.1 152 i) (W.2.2.2.2.2 _ rfl)))) (fun c0 => ms_tk11_2 hS ok_zk ok_zc ok_zl ok_zd ok_ze ok_zn ok_zj ok_zz ⟨c0, (k2 (me_fb hS rfl) c0).1.1, (by decide), (k2 (me_fb hS rfl) c0).1.2.1, (k2 (me_fb hS rfl) c0).1.2.2⟩ (fun h1 W => (k2 (me_fb hS rfl) c0).2 h1 W.1 (W.2.1 14011) (fun i => W.2.2.1 152 i) (W.2.2.2.2.2 _ rfl)))
set_option maxRecDepth 20000 in
theorem mp_tk12_0 (h : sm_H) (d : Nat) (zk zc zl zd ze zn zz zt : Int) (q7 : Option mi_V) : mi_path [(229, (8, 0, sb_229))] sx_sk h 10 [8] (d + 1, 229, 349, [some (.inr (.inr 109)), some (.inl (zk)), some (.inl (zc)), some (.inl (zl)), some (.inl (zd)), some (.inl (ze)), some (.inl (zn)), q7], [.inl (zz), .inl (zt), .inr (.inr 152)], [], []) = some ((d + 1, 229, 7, [some (.inr (.inr 109)), some (.inl (ze)), some (.inl (zc)), some (.inl (zl)), some (.inl (zd)), some (.inl (ze)), some (.inl (zn)), q7], [], [.inl (14011, (mi_f h 14011) + ((1 : Int))), .inr (.inr (.inl (152, Int.toNat zt, zz)))], []), [0 ≤ zt ∧ zt < 161, (-1) ≤ zz ∧ zz ≤ 23, -2147483648 ≤ (mi_f h 14011) + ((1 : Int)) ∧ (mi_f h 14011) + ((1 : Int)) ≤ 2147483647, 0 ≤ ((mi_f h 14011) + ((1 : Int))) ∧ ((mi_f h 14011) + ((1 : Int))) ≤ 160]) := rfl
theorem mi_tab_tk12_0 : ∀ e ∈ ([(229, (8, 0, sb_229))] : mi_T), sc_P e.1 = some e.2 := mi_tb mi_P229 (mi_tb_e)
set_option maxRecDepth 20000 in
theorem ms_tk12_0 {h : sm_H} {d : Nat} {Q : Option mi_V → sm_H → Prop} {zk zc zl zd ze zn zz zt : Int} {q7 : Option mi_V} (hS : ab_Sh sx_sk h) (ok_zk : mi_in zk) (ok_zc : mi_in zc) (ok_zl : mi_in zl) (ok_zd : mi_in zd) (ok_ze : mi_in ze) (ok_zn : mi_in zn) (ok_zz : mi_in zz) (ok_zt : mi_in zt) (ok_q7 : ∀ v, q7 = some v → mi_ok v) (ho : (0 ≤ zt ∧ zt < 161) ∧ ((-1) ≤ zz ∧ zz ≤ 23) ∧ (-2147483648 ≤ (mi_f h 14011) + ((1 : Int)) ∧ (mi_f h 14011) + ((1 : Int)) ≤ 2147483647) ∧ (0 ≤ ((mi_f h 14011) + ((1 : Int))) ∧ ((mi_f h 14011) + ((1 : Int))) ≤ 160)) (kon : ∀ h1, me_W [.inl (14011, (mi_f h 14011) + ((1 : Int))), .inr (.inr (.inl (152, Int.toNat zt, zz)))] h h1 → me_E (d + 1) 229 7 [some (.inr (.inr 109)), some (.inl (ze)), some (.inl (zc)), some (.inl (zl)), some (.inl (zd)), some (.inl (ze)), some (.inl (zn)), q7] [] h1 Q) : me_E (d + 1) 229 349 [some (.inr (.inr 109)), some (.inl (zk)), some (.inl (zc)), some (.inl (zl)), some (.inl (zd)), some (.inl (ze)), some (.inl (zn)), q7] [.inl (zz), .inl (zt), .inr (.inr 152)] h Q := me_seg (mp_tk12_0 h d zk zc zl zd ze zn zz zt q7) (mi_tab_tk12_0) hS (mi_okL_c (trivial) (mi_okL_c (ok_zk) (mi_okL_c (ok_zc) (mi_okL_c (ok_zl) (mi_okL_c (ok_zd) (mi_okL_c (ok_ze) (mi_okL_c (ok_zn) (mi_okL_o ok_q7 (mi_okL_e))))))))) (mi_okS_cons (ok_zz) (mi_okS_cons (ok_zt) (mi_okS_cons (trivial) (mi_okS_e)))) (mi_al (ho.1) (mi_al (ho.2.1) (mi_al (ho.2.2.1) (mi_al (ho.2.2.2) (mi_al_e))))) (fun h1 W _ hst => kon h1 W)
set_option maxRecDepth 20000 in
theorem mt_tk12 {h : sm_H} {d : Nat} {Q : Option mi_V → sm_H → Prop} {zk zc zl zd ze zn zz zt : Int} {q7 : Option mi_V} (hS : ab_Sh sx_sk h) (ok_zk : mi_in zk) (ok_zc : mi_in zc) (ok_zl : mi_in zl) (ok_zd : mi_in zd) (ok_ze : mi_in ze) (ok_zn : mi_in zn) (ok_zz : mi_in zz) (ok_zt : mi_in zt) (ok_q7 : ∀ v, q7 = some v → mi_ok v) (k0 : (0 ≤ mi_f h 14011 ∧ mi_f h 14011 ≤ 160) → ((0 ≤ zt ∧ zt < 161) ∧ ((-1) ≤ zz ∧ zz ≤ 23) ∧ (-2147483648 ≤ (mi_f h 14011) + ((1 : Int)) ∧ (mi_f h 14011) + ((1 : Int)) ≤ 2147483647) ∧ (0 ≤ ((mi_f h 14011) + ((1 : Int))) ∧ ((mi_f h 14011) + ((1 : Int))) ≤ 160)) ∧ (∀ h1, ab_Sh sx_sk h1 → mi_f h1 14011 = (mi_f h 14011) + ((1 : Int)) → (∀ i, mi_a h1 152 i = if i = Int.toNat zt then zz else (mi_a h 152 i)) → ab_Fr [(14011, 14012), (19456, 19457)] h h1 → me_E (d + 1) 229 7 [some (.inr (.inr 109)), some (.inl (ze)), some (.inl (zc)), some (.inl (zl)), some (.inl (zd)), some (.inl (ze)), some (.inl (zn)), q7] [] h1 Q)) : me_E (d + 1) 229 349 [some (.inr (.inr 109)), some (.inl (zk)), some (.inl (zc)), some (.inl (zl)), some (.inl (zd)), some (.inl (ze)), some (.inl (zn)), q7] [.inl (zz), .inl (zt), .inr (.inr 152)] h Q := ms_tk12_0 hS ok_zk ok_zc ok_zl ok_zd ok_ze ok_zn ok_zz ok_zt ok_q7 ⟨(k0 (me_fb hS rfl)).1.1, (k0 (me_fb hS rfl)).1.2.1, (k0 (me_fb hS rfl)).1.2.2.1, (k0 (me_fb hS rfl)).1.2.2.2⟩ (fun h1 W => (k0 (me_fb hS rfl)).2 h1 W.1 (W.2.1 14011) (fun i => W.2.2.1 152 i) (W.2.2.2.2.2 _ rfl))
