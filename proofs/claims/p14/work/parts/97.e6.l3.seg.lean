/-! segments of the class: node, set, output, compare, which may throw -/
set_option maxRecDepth 20000 in
theorem mp_kndA_0 (h : sm_H) (d : Nat) (zk zw : Int) : mj_path [(160, (3, 2, sb_160)), (16, (3, 0, sb_16)), (49, (2, 1, sb_49))] sx_sk h 2 [1] (d + 2, 160, 0, [some (.inr (.inr 51)), some (.inl (zk)), some (.inl (zw))], [], [], []) = some ((d + 2, 160, 15, [some (.inr (.inr 51)), some (.inl (zk)), some (.inl (zw))], [], [], []), [zk < ((0 : Int))]) := rfl
theorem mi_tab_kndA_0 : ∀ e ∈ ([(160, (3, 2, sb_160)), (16, (3, 0, sb_16)), (49, (2, 1, sb_49))] : mi_T), sc_P e.1 = some e.2 := mi_tb mi_P160 (mi_tb mi_P16 (mi_tb mi_P49 (mi_tb_e)))
set_option maxRecDepth 20000 in
theorem ms_kndA_0 {h : sm_H} {d : Nat} {QT : Nat → sm_H → Prop} {Q : Option mi_V → sm_H → Prop} {zk zw : Int} (hS : ab_Sh sx_sk h) (ok_zk : mi_in zk) (ok_zw : mi_in zw) (ho : (zk < ((0 : Int)))) (kon : ∀ h1, me_W [] h h1 → mg_E QT (d + 2) 160 15 [some (.inr (.inr 51)), some (.inl (zk)), some (.inl (zw))] [] h1 Q) : mg_E QT (d + 2) 160 0 [some (.inr (.inr 51)), some (.inl (zk)), some (.inl (zw))] [] h Q := mg_seg (mp_kndA_0 h d zk zw) (mi_tab_kndA_0) hS (mi_okL_c (trivial) (mi_okL_c (ok_zk) (mi_okL_c (ok_zw) (mi_okL_e)))) (mi_okS_e) (mi_al (ho) (mi_al_e)) (fun h1 W _ hst => kon h1 W)
set_option maxRecDepth 20000 in
theorem mp_kndA_1 (h : sm_H) (d : Nat) (zk zw : Int) : mj_path [(160, (3, 2, sb_160)), (16, (3, 0, sb_16)), (49, (2, 1, sb_49))] sx_sk h 23 [0, 1, 0, 0, 1] (d + 2, 160, 0, [some (.inr (.inr 51)), some (.inl (zk)), some (.inl (zw))], [], [], []) = some ((d + 2, 160, 68, [some (.inr (.inr 51)), some (.inl (zk)), some (.inl (zw))], [.inr (.inl ((Int32.ofInt ((0 : Int))).toInt64))], [], []), [((0 : Int)) ≤ zk, zk < (mi_f h 12032), zw = 0 + 0 ∧ zw ≤ 3, ((0 : Int)) ≤ zk, ((100 : Int)) ≤ zk]) := rfl
theorem mi_tab_kndA_1 : ∀ e ∈ ([(160, (3, 2, sb_160)), (16, (3, 0, sb_16)), (49, (2, 1, sb_49))] : mi_T), sc_P e.1 = some e.2 := mi_tb mi_P160 (mi_tb mi_P16 (mi_tb mi_P49 (mi_tb_e)))
set_option maxRecDepth 20000 in
theorem ms_kndA_1 {h : sm_H} {d : Nat} {QT : Nat → sm_H → Prop} {Q : Option mi_V → sm_H → Prop} {zk zw : Int} (hS : ab_Sh sx_sk h) (ok_zk : mi_in zk) (ok_zw : mi_in zw) (ho : (((0 : Int)) ≤ zk) ∧ (zk < (mi_f h 12032)) ∧ (zw = 0 + 0 ∧ zw ≤ 3) ∧ (((0 : Int)) ≤ zk) ∧ (((100 : Int)) ≤ zk)) (kon : ∀ h1, me_W [] h h1 → Q (some (.inr (.inl ((Int32.ofInt ((0 : Int))).toInt64)))) h1) : mg_E QT (d + 2) 160 0 [some (.inr (.inr 51)), some (.inl (zk)), some (.inl (zw))] [] h Q := mg_seg (mp_kndA_1 h d zk zw) (mi_tab_kndA_1) hS (mi_okL_c (trivial) (mi_okL_c (ok_zk) (mi_okL_c (ok_zw) (mi_okL_e)))) (mi_okS_e) (mi_al (ho.1) (mi_al (ho.2.1) (mi_al (ho.2.2.1) (mi_al (ho.2.2.2.1) (mi_al (ho.2.2.2.2) (mi_al_e)))))) (fun h1 W _ hst => mg_ret (M := (3, 2, sb_160)) rfl rfl rfl hst (mi_al_e) (kon h1 W))
set_option maxRecDepth 20000 in
theorem mp_kndA_2 (h : sm_H) (d : Nat) (zk zw : Int) : mj_path [(160, (3, 2, sb_160)), (16, (3, 0, sb_16)), (49, (2, 1, sb_49))] sx_sk h 26 [0, 1, 0, 0, 0] (d + 2, 160, 0, [some (.inr (.inr 51)), some (.inl (zk)), some (.inl (zw))], [], [], []) = some ((d + 2, 160, 68, [some (.inr (.inr 51)), some (.inl (zk)), some (.inl (zw))], [.inr (.inl ((Int32.ofInt (mi_a h 95 (Int.toNat zk))).toInt64))], [], []), [((0 : Int)) ≤ zk, zk < (mi_f h 12032), zw = 0 + 0 ∧ zw ≤ 3, ((0 : Int)) ≤ zk, zk < ((100 : Int)), 0 ≤ zk ∧ zk < 100]) := rfl
theorem mi_tab_kndA_2 : ∀ e ∈ ([(160, (3, 2, sb_160)), (16, (3, 0, sb_16)), (49, (2, 1, sb_49))] : mi_T), sc_P e.1 = some e.2 := mi_tb mi_P160 (mi_tb mi_P16 (mi_tb mi_P49 (mi_tb_e)))
set_option maxRecDepth 20000 in
theorem ms_kndA_2 {h : sm_H} {d : Nat} {QT : Nat → sm_H → Prop} {Q : Option mi_V → sm_H → Prop} {zk zw : Int} (hS : ab_Sh sx_sk h) (ok_zk : mi_in zk) (ok_zw : mi_in zw) (ho : (((0 : Int)) ≤ zk) ∧ (zk < (mi_f h 12032)) ∧ (zw = 0 + 0 ∧ zw ≤ 3) ∧ (((0 : Int)) ≤ zk) ∧ (zk < ((100 : Int))) ∧ (0 ≤ zk ∧ zk < 100)) (kon : ∀ h1, me_W [] h h1 → Q (some (.inr (.inl ((Int32.ofInt (mi_a h 95 (Int.toNat zk))).toInt64)))) h1) : mg_E QT (d + 2) 160 0 [some (.inr (.inr 51)), some (.inl (zk)), some (.inl (zw))] [] h Q := mg_seg (mp_kndA_2 h d zk zw) (mi_tab_kndA_2) hS (mi_okL_c (trivial) (mi_okL_c (ok_zk) (mi_okL_c (ok_zw) (mi_okL_e)))) (mi_okS_e) (mi_al (ho.1) (mi_al (ho.2.1) (mi_al (ho.2.2.1) (mi_al (ho.2.2.2.1) (mi_al (ho.2.2.2.2.1) (mi_al (ho.2.2.2.2.2) (mi_al_e))))))) (fun h1 W _ hst => mg_ret (M := (3, 2, sb_160)) rfl rfl rfl hst (mi_al_e) (kon h1 W))
set_option maxRecDepth 20000 in
theorem mp_kndA_3 (h : sm_H) (d : Nat) (zk zw : Int) : mj_path [(160, (3, 2, sb_160)), (16, (3, 0, sb_16)), (49, (2, 1, sb_49))] sx_sk h 23 [0, 1, 1, 0, 1] (d + 2, 160, 0, [some (.inr (.inr 51)), some (.inl (zk)), some (.inl (zw))], [], [], []) = some ((d + 2, 160, 81, [some (.inr (.inr 51)), some (.inl (zk)), some (.inl (zw))], [.inr (.inl ((Int32.ofInt ((0 : Int))).toInt64))], [], []), [((0 : Int)) ≤ zk, zk < (mi_f h 12032), zw = 0 + 1 ∧ zw ≤ 3, ((0 : Int)) ≤ zk, ((100 : Int)) ≤ zk]) := rfl
theorem mi_tab_kndA_3 : ∀ e ∈ ([(160, (3, 2, sb_160)), (16, (3, 0, sb_16)), (49, (2, 1, sb_49))] : mi_T), sc_P e.1 = some e.2 := mi_tb mi_P160 (mi_tb mi_P16 (mi_tb mi_P49 (mi_tb_e)))
set_option maxRecDepth 20000 in
theorem ms_kndA_3 {h : sm_H} {d : Nat} {QT : Nat → sm_H → Prop} {Q : Option mi_V → sm_H → Prop} {zk zw : Int} (hS : ab_Sh sx_sk h) (ok_zk : mi_in zk) (ok_zw : mi_in zw) (ho : (((0 : Int)) ≤ zk) ∧ (zk < (mi_f h 12032)) ∧ (zw = 0 + 1 ∧ zw ≤ 3) ∧ (((0 : Int)) ≤ zk) ∧ (((100 : Int)) ≤ zk)) (kon : ∀ h1, me_W [] h h1 → Q (some (.inr (.inl ((Int32.ofInt ((0 : Int))).toInt64)))) h1) : mg_E QT (d + 2) 160 0 [some (.inr (.inr 51)), some (.inl (zk)), some (.inl (zw))] [] h Q := mg_seg (mp_kndA_3 h d zk zw) (mi_tab_kndA_3) hS (mi_okL_c (trivial) (mi_okL_c (ok_zk) (mi_okL_c (ok_zw) (mi_okL_e)))) (mi_okS_e) (mi_al (ho.1) (mi_al (ho.2.1) (mi_al (ho.2.2.1) (mi_al (ho.2.2.2.1) (mi_al (ho.2.2.2.2) (mi_al_e)))))) (fun h1 W _ hst => mg_ret (M := (3, 2, sb_160)) rfl rfl rfl hst (mi_al_e) (kon h1 W))
set_option maxRecDepth 20000 in
theorem mp_kndA_4 (h : sm_H) (d : Nat) (zk zw : Int) : mj_path [(160, (3, 2, sb_160)), (16, (3, 0, sb_16)), (49, (2, 1, sb_49))] sx_sk h 26 [0, 1, 1, 0, 0] (d + 2, 160, 0, [some (.inr (.inr 51)), some (.inl (zk)), some (.inl (zw))], [], [], []) = some ((d + 2, 160, 81, [some (.inr (.inr 51)), some (.inl (zk)), some (.inl (zw))], [.inr (.inl ((Int32.ofInt (mi_a h 96 (Int.toNat zk))).toInt64))], [], []), [((0 : Int)) ≤ zk, zk < (mi_f h 12032), zw = 0 + 1 ∧ zw ≤ 3, ((0 : Int)) ≤ zk, zk < ((100 : Int)), 0 ≤ zk ∧ zk < 100]) := rfl
theorem mi_tab_kndA_4 : ∀ e ∈ ([(160, (3, 2, sb_160)), (16, (3, 0, sb_16)), (49, (2, 1, sb_49))] : mi_T), sc_P e.1 = some e.2 := mi_tb mi_P160 (mi_tb mi_P16 (mi_tb mi_P49 (mi_tb_e)))
set_option maxRecDepth 20000 in
theorem ms_kndA_4 {h : sm_H} {d : Nat} {QT : Nat → sm_H → Prop} {Q : Option mi_V → sm_H → Prop} {zk zw : Int} (hS : ab_Sh sx_sk h) (ok_zk : mi_in zk) (ok_zw : mi_in zw) (ho : (((0 : Int)) ≤ zk) ∧ (zk < (mi_f h 12032)) ∧ (zw = 0 + 1 ∧ zw ≤ 3) ∧ (((0 : Int)) ≤ zk) ∧ (zk < ((100 : Int))) ∧ (0 ≤ zk ∧ zk < 100)) (kon : ∀ h1, me_W [] h h1 → Q (some (.inr (.inl ((Int32.ofInt (mi_a h 96 (Int.toNat zk))).toInt64)))) h1) : mg_E QT (d + 2) 160 0 [some (.inr (.inr 51)), some (.inl (zk)), some (.inl (zw))] [] h Q := mg_seg (mp_kndA_4 h d zk zw) (mi_tab_kndA_4) hS (mi_okL_c (trivial) (mi_okL_c (ok_zk) (mi_okL_c (ok_zw) (mi_okL_e)))) (mi_okS_e) (mi_al (ho.1) (mi_al (ho.2.1) (mi_al (ho.2.2.1) (mi_al (ho.2.2.2.1) (mi_al (ho.2.2.2.2.1) (mi_al (ho.2.2.2.2.2) (mi_al_e))))))) (fun h1 W _ hst => mg_ret (M := (3, 2, sb_160)) rfl rfl rfl hst (mi_al_e) (kon h1 W))
set_option maxRecDepth 20000 in
theorem mp_kndA_5 (h : sm_H) (d : Nat) (zk zw : Int) : mj_path [(160, (3, 2, sb_160)), (16, (3, 0, sb_16)), (49, (2, 1, sb_49))] sx_sk h 12 [0, 1, 2] (d + 2, 160, 0, [some (.inr (.inr 51)), some (.inl (zk)), some (.inl (zw))], [], [], []) = some ((d + 2, 160, 87, [some (.inr (.inr 51)), some (.inl (zk)), some (.inl (zw))], [.inl (zk), .inr (.inr 94)], [], []), [((0 : Int)) ≤ zk, zk < (mi_f h 12032), zw = 0 + 2 ∧ zw ≤ 3]) := rfl
theorem mi_tab_kndA_5 : ∀ e ∈ ([(160, (3, 2, sb_160)), (16, (3, 0, sb_16)), (49, (2, 1, sb_49))] : mi_T), sc_P e.1 = some e.2 := mi_tb mi_P160 (mi_tb mi_P16 (mi_tb mi_P49 (mi_tb_e)))
set_option maxRecDepth 20000 in
theorem ms_kndA_5 {h : sm_H} {d : Nat} {QT : Nat → sm_H → Prop} {Q : Option mi_V → sm_H → Prop} {zk zw : Int} (hS : ab_Sh sx_sk h) (ok_zk : mi_in zk) (ok_zw : mi_in zw) (ho : (((0 : Int)) ≤ zk) ∧ (zk < (mi_f h 12032)) ∧ (zw = 0 + 2 ∧ zw ≤ 3)) (kon : ∀ h1, me_W [] h h1 → ∃ Q1, me_E (d + 1) 161 0 (mi_entry 3 [.inr (.inr 94), .inl (zk)]) [] h1 Q1 ∧ ∀ w h2, (∀ x, w = some x → mi_ok x) → Q1 w h2 → mg_E QT (d + 2) 160 90 [some (.inr (.inr 51)), some (.inl (zk)), some (.inl (zw))] (mi_back w []) h2 Q) : mg_E QT (d + 2) 160 0 [some (.inr (.inr 51)), some (.inl (zk)), some (.inl (zw))] [] h Q := mg_seg (mp_kndA_5 h d zk zw) (mi_tab_kndA_5) hS (mi_okL_c (trivial) (mi_okL_c (ok_zk) (mi_okL_c (ok_zw) (mi_okL_e)))) (mi_okS_e) (mi_al (ho.1) (mi_al (ho.2.1) (mi_al (ho.2.2) (mi_al_e)))) (fun h1 W _ hst => let ⟨_, k1, k2⟩ := kon h1 W; mg_call (M := (3, 2, sb_160)) (M' := (3, 1, sb_161)) rfl rfl rfl rfl (Nat.le_of_ble_eq_true rfl) (Nat.le_of_ble_eq_true rfl) W.1 k1 k2)
set_option maxRecDepth 20000 in
theorem mp_kndA_6 (h : sm_H) (d : Nat) (zk zw : Int) : mj_path [(160, (3, 2, sb_160)), (16, (3, 0, sb_16)), (49, (2, 1, sb_49))] sx_sk h 23 [0, 1, 3, 0, 1] (d + 2, 160, 0, [some (.inr (.inr 51)), some (.inl (zk)), some (.inl (zw))], [], [], []) = some ((d + 2, 160, 104, [some (.inr (.inr 51)), some (.inl (zk)), some (.inl (zw))], [.inr (.inl ((Int32.ofInt ((0 : Int))).toInt64))], [], []), [((0 : Int)) ≤ zk, zk < (mi_f h 12032), zw = 0 + 3 ∧ zw ≤ 3, ((0 : Int)) ≤ zk, ((100 : Int)) ≤ zk]) := rfl
theorem mi_tab_kndA_6 : ∀ e ∈ ([(160, (3, 2, sb_160)), (16, (3, 0, sb_16)), (49, (2, 1, sb_49))] : mi_T), sc_P e.1 = some e.2 := mi_tb mi_P160 (mi_tb mi_P16 (mi_tb mi_P49 (mi_tb_e)))
set_option maxRecDepth 20000 in
theorem ms_kndA_6 {h : sm_H} {d : Nat} {QT : Nat → sm_H → Prop} {Q : Option mi_V → sm_H → Prop} {zk zw : Int} (hS : ab_Sh sx_sk h) (ok_zk : mi_in zk) (ok_zw : mi_in zw) (ho : (((0 : Int)) ≤ zk) ∧ (zk < (mi_f h 12032)) ∧ (zw = 0 + 3 ∧ zw ≤ 3) ∧ (((0 : Int)) ≤ zk) ∧ (((100 : Int)) ≤ zk)) (kon : ∀ h1, me_W [] h h1 → Q (some (.inr (.inl ((Int32.ofInt ((0 : Int))).toInt64)))) h1) : mg_E QT (d + 2) 160 0 [some (.inr (.inr 51)), some (.inl (zk)), some (.inl (zw))] [] h Q := mg_seg (mp_kndA_6 h d zk zw) (mi_tab_kndA_6) hS (mi_okL_c (trivial) (mi_okL_c (ok_zk) (mi_okL_c (ok_zw) (mi_okL_e)))) (mi_okS_e) (mi_al (ho.1) (mi_al (ho.2.1) (mi_al (ho.2.2.1) (mi_al (ho.2.2.2.1) (mi_al (ho.2.2.2.2) (mi_al_e)))))) (fun h1 W _ hst => mg_ret (M := (3, 2, sb_160)) rfl rfl rfl hst (mi_al_e) (kon h1 W))
set_option maxRecDepth 20000 in
theorem mp_kndA_7 (h : sm_H) (d : Nat) (zk zw : Int) : mj_path [(160, (3, 2, sb_160)), (16, (3, 0, sb_16)), (49, (2, 1, sb_49))] sx_sk h 26 [0, 1, 3, 0, 0] (d + 2, 160, 0, [some (.inr (.inr 51)), some (.inl (zk)), some (.inl (zw))], [], [], []) = some ((d + 2, 160, 104, [some (.inr (.inr 51)), some (.inl (zk)), some (.inl (zw))], [.inr (.inl ((Int32.ofInt (mi_a h 97 (Int.toNat zk))).toInt64))], [], []), [((0 : Int)) ≤ zk, zk < (mi_f h 12032), zw = 0 + 3 ∧ zw ≤ 3, ((0 : Int)) ≤ zk, zk < ((100 : Int)), 0 ≤ zk ∧ zk < 100]) := rfl
theorem mi_tab_kndA_7 : ∀ e ∈ ([(160, (3, 2, sb_160)), (16, (3, 0, sb_16)), (49, (2, 1, sb_49))] : mi_T), sc_P e.1 = some e.2 := mi_tb mi_P160 (mi_tb mi_P16 (mi_tb mi_P49 (mi_tb_e)))
set_option maxRecDepth 20000 in
theorem ms_kndA_7 {h : sm_H} {d : Nat} {QT : Nat → sm_H → Prop} {Q : Option mi_V → sm_H → Prop} {zk zw : Int} (hS : ab_Sh sx_sk h) (ok_zk : mi_in zk) (ok_zw : mi_in zw) (ho : (((0 : Int)) ≤ zk) ∧ (zk < (mi_f h 12032)) ∧ (zw = 0 + 3 ∧ zw ≤ 3) ∧ (((0 : Int)) ≤ zk) ∧ (zk < ((100 : Int))) ∧ (0 ≤ zk ∧ zk < 100)) (kon : ∀ h1, me_W [] h h1 → Q (some (.inr (.inl ((Int32.ofInt (mi_a h 97 (Int.toNat zk))).toInt64)))) h1) : mg_E QT (d + 2) 160 0 [some (.inr (.inr 51)), some (.inl (zk)), some (.inl (zw))] [] h Q := mg_seg (mp_kndA_7 h d zk zw) (mi_tab_kndA_7) hS (mi_okL_c (trivial) (mi_okL_c (ok_zk) (mi_okL_c (ok_zw) (mi_okL_e)))) (mi_okS_e) (mi_al (ho.1) (mi_al (ho.2.1) (mi_al (ho.2.2.1) (mi_al (ho.2.2.2.1) (mi_al (ho.2.2.2.2.1) (mi_al (ho.2.2.2.2.2) (mi_al_e))))))) (fun h1 W _ hst => mg_ret (M := (3, 2, sb_160)) rfl rfl rfl hst (mi_al_e) (kon h1 W))
set_option maxRecDepth 20000 in
theorem mp_kndA_8 (h : sm_H) (d : Nat) (zk zw : Int) : mj_path [(160, (3, 2, sb_160)), (16, (3, 0, sb_16)), (49, (2, 1, sb_49))] sx_sk h 9 [0, 1, 1000] (d + 2, 160, 0, [some (.inr (.inr 51)), some (.inl (zk)), some (.inl (zw))], [], [], []) = some ((d + 2, 160, 105, [some (.inr (.inr 51)), some (.inl (zk)), some (.inl (zw))], [], [], []), [((0 : Int)) ≤ zk, zk < (mi_f h 12032), zw < 0 ∨ 3 < zw]) := rfl
theorem mi_tab_kndA_8 : ∀ e ∈ ([(160, (3, 2, sb_160)), (16, (3, 0, sb_16)), (49, (2, 1, sb_49))] : mi_T), sc_P e.1 = some e.2 := mi_tb mi_P160 (mi_tb mi_P16 (mi_tb mi_P49 (mi_tb_e)))
set_option maxRecDepth 20000 in
theorem ms_kndA_8 {h : sm_H} {d : Nat} {QT : Nat → sm_H → Prop} {Q : Option mi_V → sm_H → Prop} {zk zw : Int} (hS : ab_Sh sx_sk h) (ok_zk : mi_in zk) (ok_zw : mi_in zw) (ho : (((0 : Int)) ≤ zk) ∧ (zk < (mi_f h 12032)) ∧ (zw < 0 ∨ 3 < zw)) (kon : ∀ h1, me_W [] h h1 → mg_E QT (d + 2) 160 105 [some (.inr (.inr 51)), some (.inl (zk)), some (.inl (zw))] [] h1 Q) : mg_E QT (d + 2) 160 0 [some (.inr (.inr 51)), some (.inl (zk)), some (.inl (zw))] [] h Q := mg_seg (mp_kndA_8 h d zk zw) (mi_tab_kndA_8) hS (mi_okL_c (trivial) (mi_okL_c (ok_zk) (mi_okL_c (ok_zw) (mi_okL_e)))) (mi_okS_e) (mi_al (ho.1) (mi_al (ho.2.1) (mi_al (ho.2.2) (mi_al_e)))) (fun h1 W _ hst => kon h1 W)
set_option maxRecDepth 20000 in
theorem mp_kndA_9 (h : sm_H) (d : Nat) (zk zw : Int) : mj_path [(160, (3, 2, sb_160)), (16, (3, 0, sb_16)), (49, (2, 1, sb_49))] sx_sk h 7 [0, 0] (d + 2, 160, 0, [some (.inr (.inr 51)), some (.inl (zk)), some (.inl (zw))], [], [], []) = some ((d + 2, 160, 15, [some (.inr (.inr 51)), some (.inl (zk)), some (.inl (zw))], [], [], []), [((0 : Int)) ≤ zk, (mi_f h 12032) ≤ zk]) := rfl
theorem mi_tab_kndA_9 : ∀ e ∈ ([(160, (3, 2, sb_160)), (16, (3, 0, sb_16)), (49, (2, 1, sb_49))] : mi_T), sc_P e.1 = some e.2 := mi_tb mi_P160 (mi_tb mi_P16 (mi_tb mi_P49 (mi_tb_e)))
set_option maxRecDepth 20000 in
theorem ms_kndA_9 {h : sm_H} {d : Nat} {QT : Nat → sm_H → Prop} {Q : Option mi_V → sm_H → Prop} {zk zw : Int} (hS : ab_Sh sx_sk h) (ok_zk : mi_in zk) (ok_zw : mi_in zw) (ho : (((0 : Int)) ≤ zk) ∧ ((mi_f h 12032) ≤ zk)) (kon : ∀ h1, me_W [] h h1 → mg_E QT (d + 2) 160 15 [some (.inr (.inr 51)), some (.inl (zk)), some (.inl (zw))] [] h1 Q) : mg_E QT (d + 2) 160 0 [some (.inr (.inr 51)), some (.inl (zk)), some (.inl (zw))] [] h Q := mg_seg (mp_kndA_9 h d zk zw) (mi_tab_kndA_9) hS (mi_okL_c (trivial) (mi_okL_c (ok_zk) (mi_okL_c (ok_zw) (mi_okL_e)))) (mi_okS_e) (mi_al (ho.1) (mi_al (ho.2) (mi_al_e))) (fun h1 W _ hst => kon h1 W)
set_option maxRecDepth 20000 in
theorem mt_kndA {h : sm_H} {d : Nat} {QT : Nat → sm_H → Prop} {Q : Option mi_V → sm_H → Prop} {zk zw : Int} (hS : ab_Sh sx_sk h) (ok_zk : mi_in zk) (ok_zw : mi_in zw) (k0 : (zk < ((0 : Int))) → (∀ h1, ab_Sh sx_sk h1 → ab_Fr [] h h1 → mg_E QT (d + 2) 160 15 [some (.inr (.inr 51)), some (.inl (zk)), some (.inl (zw))] [] h1 Q)) (k1 : ((-2147483648) ≤ mi_f h 12032 ∧ mi_f h 12032 ≤ 2147483647) → (((0 : Int)) ≤ zk) → (zk < (mi_f h 12032)) → (zw = 0 + 0 ∧ zw ≤ 3) → (((100 : Int)) ≤ zk) → (∀ h1, ab_Sh sx_sk h1 → ab_Fr [] h h1 → Q (some (.inr (.inl ((Int32.ofInt ((0 : Int))).toInt64)))) h1)) (k2 : ((-2147483648) ≤ mi_f h 12032 ∧ mi_f h 12032 ≤ 2147483647) → (((0 : Int)) ≤ zk) → (zk < (mi_f h 12032)) → (zw = 0 + 0 ∧ zw ≤ 3) → (zk < ((100 : Int))) → ((0 ≤ zk ∧ zk < 100)) ∧ (∀ h1, ab_Sh sx_sk h1 → ab_Fr [] h h1 → Q (some (.inr (.inl ((Int32.ofInt (mi_a h 95 (Int.toNat zk))).toInt64)))) h1)) (k3 : ((-2147483648) ≤ mi_f h 12032 ∧ mi_f h 12032 ≤ 2147483647) → (((0 : Int)) ≤ zk) → (zk < (mi_f h 12032)) → (zw = 0 + 1 ∧ zw ≤ 3) → (((100 : Int)) ≤ zk) → (∀ h1, ab_Sh sx_sk h1 → ab_Fr [] h h1 → Q (some (.inr (.inl ((Int32.ofInt ((0 : Int))).toInt64)))) h1)) (k4 : ((-2147483648) ≤ mi_f h 12032 ∧ mi_f h 12032 ≤ 2147483647) → (((0 : Int)) ≤ zk) → (zk < (mi_f h 12032)) → (zw = 0 + 1 ∧ zw ≤ 3) → (zk < ((100 : Int))) → ((0 ≤ zk ∧ zk < 100)) ∧ (∀ h1, ab_Sh sx_sk h1 → ab_Fr [] h h1 → Q (some (.inr (.inl ((Int32.ofInt (mi_a h 96 (Int.toNat zk))).toInt64)))) h1)) (k5 : ((-2147483648) ≤ mi_f h 12032 ∧ mi_f h 12032 ≤ 2147483647) → (((0 : Int)) ≤ zk) → (zk < (mi_f h 12032)) → (zw = 0 + 2 ∧ zw ≤ 3) → (∀ h1, ab_Sh sx_sk h1 → ab_Fr [] h h1 → ∃ Q1, me_E (d + 1) 161 0 (mi_entry 3 [.inr (.inr 94), .inl (zk)]) [] h1 Q1 ∧ ∀ w h2, (∀ x, w = some x → mi_ok x) → Q1 w h2 → mg_E QT (d + 2) 160 90 [some (.inr (.inr 51)), some (.inl (zk)), some (.inl (zw))] (mi_back w []) h2 Q)) (k6 : ((-2147483648) ≤ mi_f h 12032 ∧ mi_f h 12032 ≤ 2147483647) → (((0 : Int)) ≤ zk) → (zk < (mi_f h 12032)) → (zw = 0 + 3 ∧ zw ≤ 3) → (((100 : Int)) ≤ zk) → (∀ h1, ab_Sh sx_sk h1 → ab_Fr [] h h1 → Q (some (.inr (.inl ((Int32.ofInt ((0 : Int))).toInt64)))) h1)) (k7 : ((-2147483648) ≤ mi_f h 12032 ∧ mi_f h 12032 ≤ 2147483647) → (((0 : Int)) ≤ zk) → (zk < (mi_f h 12032)) → (zw = 0 + 3 ∧ zw ≤ 3) → (zk < ((100 : Int))) → ((0 ≤ zk ∧ zk < 100)) ∧ (∀ h1, ab_Sh sx_sk h1 → ab_Fr [] h h1 → Q (some (.inr (.inl ((Int32.ofInt (mi_a h 97 (Int.toNat zk))).toInt64)))) h1)) (k8 : ((-2147483648) ≤ mi_f h 12032 ∧ mi_f h 12032 ≤ 2147483647) → (((0 : Int)) ≤ zk) → (zk < (mi_f h 12032)) → (zw < 0 ∨ 3 < zw) → (∀ h1, ab_Sh sx_sk h1 → ab_Fr [] h h1 → mg_E QT (d + 2) 160 105 [some (.inr (.inr 51)), some (.inl (zk)), some (.inl (zw))] [] h1 Q)) (k9 : ((-2147483648) ≤ mi_f h 12032 ∧ mi_f h 12032 ≤ 2147483647) → (((0 : Int)) ≤ zk) → ((mi_f h 12032) ≤ zk) → (∀ h1, ab_Sh sx_sk h1 → ab_Fr [] h h1 → mg_E QT (d + 2) 160 15 [some (.inr (.inr 51)), some (.inl (zk)), some (.inl (zw))] [] h1 Q)) : mg_E QT (d + 2) 160 0 [some (.inr (.inr 51)), some (.inl (zk)), some (.inl (zw))] [] h Q := Or.elim (mi_em .lt (zk) (((0 : Int)))) (fun c0 => ms_kndA_0 hS ok_zk ok_zw (c0) (fun h1 W => (k0 c0) h1 W.1 (W.2.2.2.2.2 _ rfl))) (fun c0 => Or.elim (mi_em .lt (zk) ((mi_f h 12032))) (fun c1 => (by
  by_cases z2 : zw < 0 ∨ 3 < zw
  · exact ms_kndA_8 hS ok_zk ok_zw ⟨c0, c1, z2⟩ (fun h1 W => (k8 (me_fb hS rfl) c0 c1 z2) h1 W.1 (W.2.2.2.2.2 _ rfl))
  by_cases e2_0 : zw = 0 + 0
  · have s2_0 : zw = 0 + 0 ∧ zw ≤ 3 := ⟨e2_0, by omega⟩
    exact Or.elim (mi_em .ge (zk) (((100 : Int)))) (fun c3 => ms_kndA_1 hS ok_zk ok_zw ⟨c0, c1, s2_0, c0, c3⟩ (fun h1 W => (k1 (me_fb hS rfl) c0 c1 s2_0 c3) h1 W.1 (W.2.2.2.2.2 _ rfl))) (fun c3 => ms_kndA_2 hS ok_zk ok_zw ⟨c0, c1, s2_0, c0, c3, (k2 (me_fb hS rfl) c0 c1 s2_0 c3).1⟩ (fun h1 W => (k2 (me_fb hS rfl) c0 c1 s2_0 c3).2 h1 W.1 (W.2.2.2.2.2 _ rfl)))
  by_cases e2_1 : zw = 0 + 1
  · have s2_1 : zw = 0 + 1 ∧ zw ≤ 3 := ⟨e2_1, by omega⟩
    exact Or.elim (mi_em .ge (zk) (((100 : Int)))) (fun c3 => ms_kndA_3 hS ok_zk ok_zw ⟨c0, c1, s2_1, c0, c3⟩ (fun h1 W => (k3 (me_fb hS rfl) c0 c1 s2_1 c3) h1 W.1 (W.2.2.2.2.2 _ rfl))) (fun c3 => ms_kndA_4 hS ok_zk ok_zw ⟨c0, c1, s2_1, c0, c3, (k4 (me_fb hS rfl) c0 c1 s2_1 c3).1⟩ (fun h1 W => (k4 (me_fb hS rfl) c0 c1 s2_1 c3).2 h1 W.1 (W.2.2.2.2.2 _ rfl)))
  by_cases e2_2 : zw = 0 + 2
  · have s2_2 : zw = 0 + 2 ∧ zw ≤ 3 := ⟨e2_2, by omega⟩
    exact ms_kndA_5 hS ok_zk ok_zw ⟨c0, c1, s2_2⟩ (fun h1 W => (k5 (me_fb hS rfl) c0 c1 s2_2) h1 W.1 (W.2.2.2.2.2 _ rfl))
  by_cases e2_3 : zw = 0 + 3
  · have s2_3 : zw = 0 + 3 ∧ zw ≤ 3 := ⟨e2_3, by omega⟩
    exact Or.elim (mi_em .ge (zk) (((100 : Int)))) (fun c3 => ms_kndA_6 hS ok_zk ok_zw ⟨c0, c1, s2_3, c0, c3⟩ (fun h1 W => (k6 (me_fb hS rfl) c0 c1 s2_3 c3) h1 W.1 (W.2.2.2.2.2 _ rfl))) (fun c3 => ms_kndA_7 hS ok_zk ok_zw ⟨c0, c1, s2_3, c0, c3, (k7 (me_fb hS rfl) c0 c1 s2_3 c3).1⟩ (fun h1 W => (k7 (me_fb hS rfl) c0 c1 s2_3 c3).2 h1 W.1 (W.2.2.2.2.2 _ rfl)))
  omega)) (fun c1 => ms_kndA_9 hS ok_zk ok_zw ⟨c0, c1⟩ (fun h1 W => (k9 (me_fb hS rfl) c0 c1) h1 W.1 (W.2.2.2.2.2 _ rfl))))
set_option maxRecDepth 20000 in
theorem mp_kndB_0 (h : sm_H) (d : Nat) (zk zw zz : Int) : mj_path [(160, (3, 2, sb_160))] sx_sk h 1 [] (d + 2, 160, 90, [some (.inr (.inr 51)), some (.inl (zk)), some (.inl (zw))], [.inl (zz)], [], []) = some ((d + 2, 160, 91, [some (.inr (.inr 51)), some (.inl (zk)), some (.inl (zw))], [.inr (.inl ((Int32.ofInt zz).toInt64))], [], []), []) := rfl
theorem mi_tab_kndB_0 : ∀ e ∈ ([(160, (3, 2, sb_160))] : mi_T), sc_P e.1 = some e.2 := mi_tb mi_P160 (mi_tb_e)
set_option maxRecDepth 20000 in
theorem ms_kndB_0 {h : sm_H} {d : Nat} {QT : Nat → sm_H → Prop} {Q : Option mi_V → sm_H → Prop} {zk zw zz : Int} (hS : ab_Sh sx_sk h) (ok_zk : mi_in zk) (ok_zw : mi_in zw) (ok_zz : mi_in zz) (kon : ∀ h1, me_W [] h h1 → Q (some (.inr (.inl ((Int32.ofInt zz).toInt64)))) h1) : mg_E QT (d + 2) 160 90 [some (.inr (.inr 51)), some (.inl (zk)), some (.inl (zw))] [.inl (zz)] h Q := mg_seg (mp_kndB_0 h d zk zw zz) (mi_tab_kndB_0) hS (mi_okL_c (trivial) (mi_okL_c (ok_zk) (mi_okL_c (ok_zw) (mi_okL_e)))) (mi_okS_cons (ok_zz) (mi_okS_e)) (mi_al_e) (fun h1 W _ hst => mg_ret (M := (3, 2, sb_160)) rfl rfl rfl hst (mi_al_e) (kon h1 W))
set_option maxRecDepth 20000 in
theorem mt_kndB {h : sm_H} {d : Nat} {QT : Nat → sm_H → Prop} {Q : Option mi_V → sm_H → Prop} {zk zw zz : Int} (hS : ab_Sh sx_sk h) (ok_zk : mi_in zk) (ok_zw : mi_in zw) (ok_zz : mi_in zz) (k0 : (∀ h1, ab_Sh sx_sk h1 → ab_Fr [] h h1 → Q (some (.inr (.inl ((Int32.ofInt zz).toInt64)))) h1)) : mg_E QT (d + 2) 160 90 [some (.inr (.inr 51)), some (.inl (zk)), some (.inl (zw))] [.inl (zz)] h Q := ms_kndB_0 hS ok_zk ok_zw ok_zz (fun h1 W => (k0) h1 W.1 (W.2.2.2.2.2 _ rfl))
set_option maxRecDepth 20000 in
theorem mp_kstA_0 (h : sm_H) (d : Nat) (zk : Int) (zv : Int64) : mj_path [(162, (6, 4, sb_162)), (16, (3, 0, sb_16)), (49, (2, 1, sb_49))] sx_sk h 2 [1] (d + 2, 162, 0, [some (.inr (.inr 51)), some (.inl (zk)), some (.inr (.inl (zv))), none, none, none], [], [], []) = some ((d + 2, 162, 15, [some (.inr (.inr 51)), some (.inl (zk)), some (.inr (.inl (zv))), none, none, none], [], [], []), [zk < ((0 : Int))]) := rfl
theorem mi_tab_kstA_0 : ∀ e ∈ ([(162, (6, 4, sb_162)), (16, (3, 0, sb_16)), (49, (2, 1, sb_49))] : mi_T), sc_P e.1 = some e.2 := mi_tb mi_P162 (mi_tb mi_P16 (mi_tb mi_P49 (mi_tb_e)))
set_option maxRecDepth 20000 in
theorem ms_kstA_0 {h : sm_H} {d : Nat} {QT : Nat → sm_H → Prop} {Q : Option mi_V → sm_H → Prop} {zk : Int} {zv : Int64} (hS : ab_Sh sx_sk h) (ok_zk : mi_in zk) (ho : (zk < ((0 : Int)))) (kon : ∀ h1, me_W [] h h1 → mg_E QT (d + 2) 162 15 [some (.inr (.inr 51)), some (.inl (zk)), some (.inr (.inl (zv))), none, none, none] [] h1 Q) : mg_E QT (d + 2) 162 0 [some (.inr (.inr 51)), some (.inl (zk)), some (.inr (.inl (zv))), none, none, none] [] h Q := mg_seg (mp_kstA_0 h d zk zv) (mi_tab_kstA_0) hS (mi_okL_c (trivial) (mi_okL_c (ok_zk) (mi_okL_c (trivial) (mi_okL_n (mi_okL_n (mi_okL_n (mi_okL_e))))))) (mi_okS_e) (mi_al (ho) (mi_al_e)) (fun h1 W _ hst => kon h1 W)
set_option maxRecDepth 20000 in
theorem mp_kstA_1 (h : sm_H) (d : Nat) (zk : Int) (zv : Int64) : mj_path [(162, (6, 4, sb_162)), (16, (3, 0, sb_16)), (49, (2, 1, sb_49))] sx_sk h 21 [0, 1, 0, 1] (d + 2, 162, 0, [some (.inr (.inr 51)), some (.inl (zk)), some (.inr (.inl (zv))), none, none, none], [], [], []) = some ((d + 2, 162, 38, [some (.inr (.inr 51)), some (.inl (zk)), some (.inr (.inl (zv))), none, some (.inl ((0 : Int))), none], [], [], []), [((0 : Int)) ≤ zk, zk < (mi_f h 12032), ((0 : Int)) ≤ zk, ((100 : Int)) ≤ zk]) := rfl
theorem mi_tab_kstA_1 : ∀ e ∈ ([(162, (6, 4, sb_162)), (16, (3, 0, sb_16)), (49, (2, 1, sb_49))] : mi_T), sc_P e.1 = some e.2 := mi_tb mi_P162 (mi_tb mi_P16 (mi_tb mi_P49 (mi_tb_e)))
set_option maxRecDepth 20000 in
theorem ms_kstA_1 {h : sm_H} {d : Nat} {QT : Nat → sm_H → Prop} {Q : Option mi_V → sm_H → Prop} {zk : Int} {zv : Int64} (hS : ab_Sh sx_sk h) (ok_zk : mi_in zk) (ho : (((0 : Int)) ≤ zk) ∧ (zk < (mi_f h 12032)) ∧ (((0 : Int)) ≤ zk) ∧ (((100 : Int)) ≤ zk)) (kon : ∀ h1, me_W [] h h1 → mg_E QT (d + 2) 162 38 [some (.inr (.inr 51)), some (.inl (zk)), some (.inr (.inl (zv))), none, some (.inl ((0 : Int))), none] [] h1 Q) : mg_E QT (d + 2) 162 0 [some (.inr (.inr 51)), some (.inl (zk)), some (.inr (.inl (zv))), none, none, none] [] h Q := mg_seg (mp_kstA_1 h d zk zv) (mi_tab_kstA_1) hS (mi_okL_c (trivial) (mi_okL_c (ok_zk) (mi_okL_c (trivial) (mi_okL_n (mi_okL_n (mi_okL_n (mi_okL_e))))))) (mi_okS_e) (mi_al (ho.1) (mi_al (ho.2.1) (mi_al (ho.2.2.1) (mi_al (ho.2.2.2) (mi_al_e))))) (fun h1 W _ hst => kon h1 W)
set_option maxRecDepth 20000 in
theorem mp_kstA_2 (h : sm_H) (d : Nat) (zk : Int) (zv : Int64) : mj_path [(162, (6, 4, sb_162)), (16, (3, 0, sb_16)), (49, (2, 1, sb_49))] sx_sk h 24 [0, 1, 0, 0] (d + 2, 162, 0, [some (.inr (.inr 51)), some (.inl (zk)), some (.inr (.inl (zv))), none, none, none], [], [], []) = some ((d + 2, 162, 38, [some (.inr (.inr 51)), some (.inl (zk)), some (.inr (.inl (zv))), none, some (.inl (mi_a h 95 (Int.toNat zk))), none], [], [], []), [((0 : Int)) ≤ zk, zk < (mi_f h 12032), ((0 : Int)) ≤ zk, zk < ((100 : Int)), 0 ≤ zk ∧ zk < 100]) := rfl
theorem mi_tab_kstA_2 : ∀ e ∈ ([(162, (6, 4, sb_162)), (16, (3, 0, sb_16)), (49, (2, 1, sb_49))] : mi_T), sc_P e.1 = some e.2 := mi_tb mi_P162 (mi_tb mi_P16 (mi_tb mi_P49 (mi_tb_e)))
set_option maxRecDepth 20000 in
theorem ms_kstA_2 {h : sm_H} {d : Nat} {QT : Nat → sm_H → Prop} {Q : Option mi_V → sm_H → Prop} {zk : Int} {zv : Int64} (hS : ab_Sh sx_sk h) (ok_zk : mi_in zk) (ho : (((0 : Int)) ≤ zk) ∧ (zk < (mi_f h 12032)) ∧ (((0 : Int)) ≤ zk) ∧ (zk < ((100 : Int))) ∧ (0 ≤ zk ∧ zk < 100)) (kon : ∀ h1, me_W [] h h1 → mg_E QT (d + 2) 162 38 [some (.inr (.inr 51)), some (.inl (zk)), some (.inr (.inl (zv))), none, some (.inl (mi_a h 95 (Int.toNat zk))), none] [] h1 Q) : mg_E QT (d + 2) 162 0 [some (.inr (.inr 51)), some (.inl (zk)), some (.inr (.inl (zv))), none, none, none] [] h Q := mg_seg (mp_kstA_2 h d zk zv) (mi_tab_kstA_2) hS (mi_okL_c (trivial) (mi_okL_c (ok_zk) (mi_okL_c (trivial) (mi_okL_n (mi_okL_n (mi_okL_n (mi_okL_e))))))) (mi_okS_e) (mi_al (ho.1) (mi_al (ho.2.1) (mi_al (ho.2.2.1) (mi_al (ho.2.2.2.1) (mi_al (ho.2.2.2.2) (mi_al_e)))))) (fun h1 W _ hst => kon h1 W)
set_option maxRecDepth 20000 in
theorem mp_kstA_3 (h : sm_H) (d : Nat) (zk : Int) (zv : Int64) : mj_path [(162, (6, 4, sb_162)), (16, (3, 0, sb_16)), (49, (2, 1, sb_49))] sx_sk h 7 [0, 0] (d + 2, 162, 0, [some (.inr (.inr 51)), some (.inl (zk)), some (.inr (.inl (zv))), none, none, none], [], [], []) = some ((d + 2, 162, 15, [some (.inr (.inr 51)), some (.inl (zk)), some (.inr (.inl (zv))), none, none, none], [], [], []), [((0 : Int)) ≤ zk, (mi_f h 12032) ≤ zk]) := rfl
theorem mi_tab_kstA_3 : ∀ e ∈ ([(162, (6, 4, sb_162)), (16, (3, 0, sb_16)), (49, (2, 1, sb_49))] : mi_T), sc_P e.1 = some e.2 := mi_tb mi_P162 (mi_tb mi_P16 (mi_tb mi_P49 (mi_tb_e)))
set_option maxRecDepth 20000 in
theorem ms_kstA_3 {h : sm_H} {d : Nat} {QT : Nat → sm_H → Prop} {Q : Option mi_V → sm_H → Prop} {zk : Int} {zv : Int64} (hS : ab_Sh sx_sk h) (ok_zk : mi_in zk) (ho : (((0 : Int)) ≤ zk) ∧ ((mi_f h 12032) ≤ zk)) (kon : ∀ h1, me_W [] h h1 → mg_E QT (d + 2) 162 15 [some (.inr (.inr 51)), some (.inl (zk)), some (.inr (.inl (zv))), none, none, none] [] h1 Q) : mg_E QT (d + 2) 162 0 [some (.inr (.inr 51)), some (.inl (zk)), some (.inr (.inl (zv))), none, none, none] [] h Q := mg_seg (mp_kstA_3 h d zk zv) (mi_tab_kstA_3) hS (mi_okL_c (trivial) (mi_okL_c (ok_zk) (mi_okL_c (trivial) (mi_okL_n (mi_okL_n (mi_okL_n (mi_okL_e))))))) (mi_okS_e) (mi_al (ho.1) (mi_al (ho.2) (mi_al_e))) (fun h1 W _ hst => kon h1 W)
set_option maxRecDepth 20000 in
theorem mt_kstA {h : sm_H} {d : Nat} {QT : Nat → sm_H → Prop} {Q : Option mi_V → sm_H → Prop} {zk : Int} {zv : Int64} (hS : ab_Sh sx_sk h) (ok_zk : mi_in zk) (k0 : (zk < ((0 : Int))) → (∀ h1, ab_Sh sx_sk h1 → ab_Fr [] h h1 → mg_E QT (d + 2) 162 15 [some (.inr (.inr 51)), some (.inl (zk)), some (.inr (.inl (zv))), none, none, none] [] h1 Q)) (k1 : ((-2147483648) ≤ mi_f h 12032 ∧ mi_f h 12032 ≤ 2147483647) → (((0 : Int)) ≤ zk) → (zk < (mi_f h 12032)) → (((100 : Int)) ≤ zk) → (∀ h1, ab_Sh sx_sk h1 → ab_Fr [] h h1 → mg_E QT (d + 2) 162 38 [some (.inr (.inr 51)), some (.inl (zk)), some (.inr (.inl (zv))), none, some (.inl ((0 : Int))), none] [] h1 Q)) (k2 : ((-2147483648) ≤ mi_f h 12032 ∧ mi_f h 12032 ≤ 2147483647) → (((0 : Int)) ≤ zk) → (zk < (mi_f h 12032)) → (zk < ((100 : Int))) → ((0 ≤ zk ∧ zk < 100)) ∧ (∀ h1, ab_Sh sx_sk h1 → ab_Fr [] h h1 → mg_E QT (d + 2) 162 38 [some (.inr (.inr 51)), some (.inl (zk)), some (.inr (.inl (zv))), none, some (.inl (mi_a h 95 (Int.toNat zk))), none] [] h1 Q)) (k3 : ((-2147483648) ≤ mi_f h 12032 ∧ mi_f h 12032 ≤ 2147483647) → (((0 : Int)) ≤ zk) → ((mi_f h 12032) ≤ zk) → (∀ h1, ab_Sh sx_sk h1 → ab_Fr [] h h1 → mg_E QT (d + 2) 162 15 [some (.inr (.inr 51)), some (.inl (zk)), some (.inr (.inl (zv))), none, none, none] [] h1 Q)) : mg_E QT (d + 2) 162 0 [some (.inr (.inr 51)), some (.inl (zk)), some (.inr (.inl (zv))), none, none, none] [] h Q := Or.elim (mi_em .lt (zk) (((0 : Int)))) (fun c0 => ms_kstA_0 hS ok_zk (c0) (fun h1 W => (k0 c0) h1 W.1 (W.2.2.2.2.2 _ rfl))) (fun c0 => Or.elim (mi_em .lt (zk) ((mi_f h 12032))) (fun c1 => Or.elim (mi_em .ge (zk) (((100 : Int)))) (fun c2 => ms_kstA_1 hS ok_zk ⟨c0, c1, c0, c2⟩ (fun h1 W => (k1 (me_fb hS rfl) c0 c1 c2) h1 W.1 (W.2.2.2.2.2 _ rfl))) (fun c2 => ms_kstA_2 hS ok_zk ⟨c0, c1, c0, c2, (k2 (me_fb hS rfl) c0 c1 c2).1⟩ (fun h1 W => (k2 (me_fb hS rfl) c0 c1 c2).2 h1 W.1 (W.2.2.2.2.2 _ rfl)))) (fun c1 => ms_kstA_3 hS ok_zk ⟨c0, c1⟩ (fun h1 W => (k3 (me_fb hS rfl) c0 c1) h1 W.1 (W.2.2.2.2.2 _ rfl))))
set_option maxRecDepth 20000 in
theorem mp_kstB_0 (h : sm_H) (d : Nat) (zk zd : Int) (zv : Int64) : mj_path [(162, (6, 4, sb_162))] sx_sk h 6 [1, 1] (d + 2, 162, 38, [some (.inr (.inr 51)), some (.inl (zk)), some (.inr (.inl (zv))), none, some (.inl (zd)), none], [], [], []) = some ((d + 2, 162, 88, [some (.inr (.inr 51)), some (.inl (zk)), some (.inr (.inl (zv))), none, some (.inl (zd)), none], [], [], []), [zd ≠ ((2 : Int)), zd ≠ ((3 : Int))]) := rfl
theorem mi_tab_kstB_0 : ∀ e ∈ ([(162, (6, 4, sb_162))] : mi_T), sc_P e.1 = some e.2 := mi_tb mi_P162 (mi_tb_e)
set_option maxRecDepth 20000 in
theorem ms_kstB_0 {h : sm_H} {d : Nat} {QT : Nat → sm_H → Prop} {Q : Option mi_V → sm_H → Prop} {zk zd : Int} {zv : Int64} (hS : ab_Sh sx_sk h) (ok_zk : mi_in zk) (ok_zd : mi_in zd) (ho : (zd ≠ ((2 : Int))) ∧ (zd ≠ ((3 : Int)))) (kon : ∀ h1, me_W [] h h1 → mg_E QT (d + 2) 162 88 [some (.inr (.inr 51)), some (.inl (zk)), some (.inr (.inl (zv))), none, some (.inl (zd)), none] [] h1 Q) : mg_E QT (d + 2) 162 38 [some (.inr (.inr 51)), some (.inl (zk)), some (.inr (.inl (zv))), none, some (.inl (zd)), none] [] h Q := mg_seg (mp_kstB_0 h d zk zd zv) (mi_tab_kstB_0) hS (mi_okL_c (trivial) (mi_okL_c (ok_zk) (mi_okL_c (trivial) (mi_okL_n (mi_okL_c (ok_zd) (mi_okL_n (mi_okL_e))))))) (mi_okS_e) (mi_al (ho.1) (mi_al (ho.2) (mi_al_e))) (fun h1 W _ hst => kon h1 W)
set_option maxRecDepth 20000 in
theorem mp_kstB_1 (h : sm_H) (d : Nat) (zk zd : Int) (zv : Int64) : mj_path [(162, (6, 4, sb_162))] sx_sk h 6 [1, 0] (d + 2, 162, 38, [some (.inr (.inr 51)), some (.inl (zk)), some (.inr (.inl (zv))), none, some (.inl (zd)), none], [], [], []) = some ((d + 2, 162, 64, [some (.inr (.inr 51)), some (.inl (zk)), some (.inr (.inl (zv))), none, some (.inl (zd)), none], [], [], []), [zd ≠ ((2 : Int)), zd = ((3 : Int))]) := rfl
theorem mi_tab_kstB_1 : ∀ e ∈ ([(162, (6, 4, sb_162))] : mi_T), sc_P e.1 = some e.2 := mi_tb mi_P162 (mi_tb_e)
set_option maxRecDepth 20000 in
theorem ms_kstB_1 {h : sm_H} {d : Nat} {QT : Nat → sm_H → Prop} {Q : Option mi_V → sm_H → Prop} {zk zd : Int} {zv : Int64} (hS : ab_Sh sx_sk h) (ok_zk : mi_in zk) (ok_zd : mi_in zd) (ho : (zd ≠ ((2 : Int))) ∧ (zd = ((3 : Int)))) (kon : ∀ h1, me_W [] h h1 → mg_E QT (d + 2) 162 64 [some (.inr (.inr 51)), some (.inl (zk)), some (.inr (.inl (zv))), none, some (.inl (zd)), none] [] h1 Q) : mg_E QT (d + 2) 162 38 [some (.inr (.inr 51)), some (.inl (zk)), some (.inr (.inl (zv))), none, some (.inl (zd)), none] [] h Q := mg_seg (mp_kstB_1 h d zk zd zv) (mi_tab_kstB_1) hS (mi_okL_c (trivial) (mi_okL_c (ok_zk) (mi_okL_c (trivial) (mi_okL_n (mi_okL_c (ok_zd) (mi_okL_n (mi_okL_e))))))) (mi_okS_e) (mi_al (ho.1) (mi_al (ho.2) (mi_al_e))) (fun h1 W _ hst => kon h1 W)
set_option maxRecDepth 20000 in
theorem mp_kstB_2 (h : sm_H) (d : Nat) (zk zd : Int) (zv : Int64) : mj_path [(162, (6, 4, sb_162))] sx_sk h 10 [0, 1, 1] (d + 2, 162, 38, [some (.inr (.inr 51)), some (.inl (zk)), some (.inr (.inl (zv))), none, some (.inl (zd)), none], [], [], []) = some ((d + 2, 162, 88, [some (.inr (.inr 51)), some (.inl (zk)), some (.inr (.inl (zv))), none, some (.inl (zd)), none], [], [], []), [zd = ((2 : Int)), ((lg_cmp zv (Int64.ofNat 0)).toInt) < ((0 : Int)), zd ≠ ((3 : Int))]) := rfl
theorem mi_tab_kstB_2 : ∀ e ∈ ([(162, (6, 4, sb_162))] : mi_T), sc_P e.1 = some e.2 := mi_tb mi_P162 (mi_tb_e)
set_option maxRecDepth 20000 in
theorem ms_kstB_2 {h : sm_H} {d : Nat} {QT : Nat → sm_H → Prop} {Q : Option mi_V → sm_H → Prop} {zk zd : Int} {zv : Int64} (hS : ab_Sh sx_sk h) (ok_zk : mi_in zk) (ok_zd : mi_in zd) (ho : (zd = ((2 : Int))) ∧ (((lg_cmp zv (Int64.ofNat 0)).toInt) < ((0 : Int))) ∧ (zd ≠ ((3 : Int)))) (kon : ∀ h1, me_W [] h h1 → mg_E QT (d + 2) 162 88 [some (.inr (.inr 51)), some (.inl (zk)), some (.inr (.inl (zv))), none, some (.inl (zd)), none] [] h1 Q) : mg_E QT (d + 2) 162 38 [some (.inr (.inr 51)), some (.inl (zk)), some (.inr (.inl (zv))), none, some (.inl (zd)), none] [] h Q := mg_seg (mp_kstB_2 h d zk zd zv) (mi_tab_kstB_2) hS (mi_okL_c (trivial) (mi_okL_c (ok_zk) (mi_okL_c (trivial) (mi_okL_n (mi_okL_c (ok_zd) (mi_okL_n (mi_okL_e))))))) (mi_okS_e) (mi_al (ho.1) (mi_al (ho.2.1) (mi_al (ho.2.2) (mi_al_e)))) (fun h1 W _ hst => kon h1 W)
set_option maxRecDepth 20000 in
theorem mp_kstB_3 (h : sm_H) (d : Nat) (zk zd : Int) (zv : Int64) : mj_path [(162, (6, 4, sb_162))] sx_sk h 10 [0, 1, 0] (d + 2, 162, 38, [some (.inr (.inr 51)), some (.inl (zk)), some (.inr (.inl (zv))), none, some (.inl (zd)), none], [], [], []) = some ((d + 2, 162, 64, [some (.inr (.inr 51)), some (.inl (zk)), some (.inr (.inl (zv))), none, some (.inl (zd)), none], [], [], []), [zd = ((2 : Int)), ((lg_cmp zv (Int64.ofNat 0)).toInt) < ((0 : Int)), zd = ((3 : Int))]) := rfl
theorem mi_tab_kstB_3 : ∀ e ∈ ([(162, (6, 4, sb_162))] : mi_T), sc_P e.1 = some e.2 := mi_tb mi_P162 (mi_tb_e)
set_option maxRecDepth 20000 in
theorem ms_kstB_3 {h : sm_H} {d : Nat} {QT : Nat → sm_H → Prop} {Q : Option mi_V → sm_H → Prop} {zk zd : Int} {zv : Int64} (hS : ab_Sh sx_sk h) (ok_zk : mi_in zk) (ok_zd : mi_in zd) (ho : (zd = ((2 : Int))) ∧ (((lg_cmp zv (Int64.ofNat 0)).toInt) < ((0 : Int))) ∧ (zd = ((3 : Int)))) (kon : ∀ h1, me_W [] h h1 → mg_E QT (d + 2) 162 64 [some (.inr (.inr 51)), some (.inl (zk)), some (.inr (.inl (zv))), none, some (.inl (zd)), none] [] h1 Q) : mg_E QT (d + 2) 162 38 [some (.inr (.inr 51)), some (.inl (zk)), some (.inr (.inl (zv))), none, some (.inl (zd)), none] [] h Q := mg_seg (mp_kstB_3 h d zk zd zv) (mi_tab_kstB_3) hS (mi_okL_c (trivial) (mi_okL_c (ok_zk) (mi_okL_c (trivial) (mi_okL_n (mi_okL_c (ok_zd) (mi_okL_n (mi_okL_e))))))) (mi_okS_e) (mi_al (ho.1) (mi_al (ho.2.1) (mi_al (ho.2.2) (mi_al_e)))) (fun h1 W _ hst => kon h1 W)
set_option maxRecDepth 20000 in
theorem mp_kstB_4 (h : sm_H) (d : Nat) (zk zd : Int) (zv : Int64) : mj_path [(162, (6, 4, sb_162))] sx_sk h 11 [0, 0, 1] (d + 2, 162, 38, [some (.inr (.inr 51)), some (.inl (zk)), some (.inr (.inl (zv))), none, some (.inl (zd)), none], [], [], []) = some ((d + 2, 162, 84, [some (.inr (.inr 51)), some (.inl (zk)), some (.inr (.inl (zv))), none, some (.inl (zd)), none], [], [], []), [zd = ((2 : Int)), ((0 : Int)) ≤ ((lg_cmp zv (Int64.ofNat 0)).toInt), ((lg_cmp zv (Int64.ofNat 10000)).toInt) < ((0 : Int))]) := rfl
theorem mi_tab_kstB_4 : ∀ e ∈ ([(162, (6, 4, sb_162))] : mi_T), sc_P e.1 = some e.2 := mi_tb mi_P162 (mi_tb_e)
set_option maxRecDepth 20000 in
theorem ms_kstB_4 {h : sm_H} {d : Nat} {QT : Nat → sm_H → Prop} {Q : Option mi_V → sm_H → Prop} {zk zd : Int} {zv : Int64} (hS : ab_Sh sx_sk h) (ok_zk : mi_in zk) (ok_zd : mi_in zd) (ho : (zd = ((2 : Int))) ∧ (((0 : Int)) ≤ ((lg_cmp zv (Int64.ofNat 0)).toInt)) ∧ (((lg_cmp zv (Int64.ofNat 10000)).toInt) < ((0 : Int)))) (kon : ∀ h1, me_W [] h h1 → mg_E QT (d + 2) 162 84 [some (.inr (.inr 51)), some (.inl (zk)), some (.inr (.inl (zv))), none, some (.inl (zd)), none] [] h1 Q) : mg_E QT (d + 2) 162 38 [some (.inr (.inr 51)), some (.inl (zk)), some (.inr (.inl (zv))), none, some (.inl (zd)), none] [] h Q := mg_seg (mp_kstB_4 h d zk zd zv) (mi_tab_kstB_4) hS (mi_okL_c (trivial) (mi_okL_c (ok_zk) (mi_okL_c (trivial) (mi_okL_n (mi_okL_c (ok_zd) (mi_okL_n (mi_okL_e))))))) (mi_okS_e) (mi_al (ho.1) (mi_al (ho.2.1) (mi_al (ho.2.2) (mi_al_e)))) (fun h1 W _ hst => kon h1 W)
set_option maxRecDepth 20000 in
theorem mp_kstB_5 (h : sm_H) (d : Nat) (zk zd : Int) (zv : Int64) : mj_path [(162, (6, 4, sb_162))] sx_sk h 14 [0, 0, 0, 1] (d + 2, 162, 38, [some (.inr (.inr 51)), some (.inl (zk)), some (.inr (.inl (zv))), none, some (.inl (zd)), none], [], [], []) = some ((d + 2, 162, 88, [some (.inr (.inr 51)), some (.inl (zk)), some (.inr (.inl (zv))), none, some (.inl (zd)), none], [], [], []), [zd = ((2 : Int)), ((0 : Int)) ≤ ((lg_cmp zv (Int64.ofNat 0)).toInt), ((0 : Int)) ≤ ((lg_cmp zv (Int64.ofNat 10000)).toInt), zd ≠ ((3 : Int))]) := rfl
theorem mi_tab_kstB_5 : ∀ e ∈ ([(162, (6, 4, sb_162))] : mi_T), sc_P e.1 = some e.2 := mi_tb mi_P162 (mi_tb_e)
set_option maxRecDepth 20000 in
theorem ms_kstB_5 {h : sm_H} {d : Nat} {QT : Nat → sm_H → Prop} {Q : Option mi_V → sm_H → Prop} {zk zd : Int} {zv : Int64} (hS : ab_Sh sx_sk h) (ok_zk : mi_in zk) (ok_zd : mi_in zd) (ho : (zd = ((2 : Int))) ∧ (((0 : Int)) ≤ ((lg_cmp zv (Int64.ofNat 0)).toInt)) ∧ (((0 : Int)) ≤ ((lg_cmp zv (Int64.ofNat 10000)).toInt)) ∧ (zd ≠ ((3 : Int)))) (kon : ∀ h1, me_W [] h h1 → mg_E QT (d + 2) 162 88 [some (.inr (.inr 51)), some (.inl (zk)), some (.inr (.inl (zv))), none, some (.inl (zd)), none] [] h1 Q) : mg_E QT (d + 2) 162 38 [some (.inr (.inr 51)), some (.inl (zk)), some (.inr (.inl (zv))), none, some (.inl (zd)), none] [] h Q := mg_seg (mp_kstB_5 h d zk zd zv) (mi_tab_kstB_5) hS (mi_okL_c (trivial) (mi_okL_c (ok_zk) (mi_okL_c (trivial) (mi_okL_n (mi_okL_c (ok_zd) (mi_okL_n (mi_okL_e))))))) (mi_okS_e) (mi_al (ho.1) (mi_al (ho.2.1) (mi_al (ho.2.2.1) (mi_al (ho.2.2.2) (mi_al_e))))) (fun h1 W _ hst => kon h1 W)
set_option maxRecDepth 20000 in
theorem mp_kstB_6 (h : sm_H) (d : Nat) (zk zd : Int) (zv : Int64) : mj_path [(162, (6, 4, sb_162))] sx_sk h 14 [0, 0, 0, 0] (d + 2, 162, 38, [some (.inr (.inr 51)), some (.inl (zk)), some (.inr (.inl (zv))), none, some (.inl (zd)), none], [], [], []) = some ((d + 2, 162, 64, [some (.inr (.inr 51)), some (.inl (zk)), some (.inr (.inl (zv))), none, some (.inl (zd)), none], [], [], []), [zd = ((2 : Int)), ((0 : Int)) ≤ ((lg_cmp zv (Int64.ofNat 0)).toInt), ((0 : Int)) ≤ ((lg_cmp zv (Int64.ofNat 10000)).toInt), zd = ((3 : Int))]) := rfl
theorem mi_tab_kstB_6 : ∀ e ∈ ([(162, (6, 4, sb_162))] : mi_T), sc_P e.1 = some e.2 := mi_tb mi_P162 (mi_tb_e)
set_option maxRecDepth 20000 in
theorem ms_kstB_6 {h : sm_H} {d : Nat} {QT : Nat → sm_H → Prop} {Q : Option mi_V → sm_H → Prop} {zk zd : Int} {zv : Int64} (hS : ab_Sh sx_sk h) (ok_zk : mi_in zk) (ok_zd : mi_in zd) (ho : (zd = ((2 : Int))) ∧ (((0 : Int)) ≤ ((lg_cmp zv (Int64.ofNat 0)).toInt)) ∧ (((0 : Int)) ≤ ((lg_cmp zv (Int64.ofNat 10000)).toInt)) ∧ (zd = ((3 : Int)))) (kon : ∀ h1, me_W [] h h1 → mg_E QT (d + 2) 162 64 [some (.inr (.inr 51)), some (.inl (zk)), some (.inr (.inl (zv))), none, some (.inl (zd)), none] [] h1 Q) : mg_E QT (d + 2) 162 38 [some (.inr (.inr 51)), some (.inl (zk)), some (.inr (.inl (zv))), none, some (.inl (zd)), none] [] h Q := mg_seg (mp_kstB_6 h d zk zd zv) (mi_tab_kstB_6) hS (mi_okL_c (trivial) (mi_okL_c (ok_zk) (mi_okL_c (trivial) (mi_okL_n (mi_okL_c (ok_zd) (mi_okL_n (mi_okL_e))))))) (mi_okS_e) (mi_al (ho.1) (mi_al (ho.2.1) (mi_al (ho.2.2.1) (mi_al (ho.2.2.2) (mi_al_e))))) (fun h1 W _ hst => kon h1 W)
set_option maxRecDepth 20000 in
theorem mt_kstB {h : sm_H} {d : Nat} {QT : Nat → sm_H → Prop} {Q : Option mi_V → sm_H → Prop} {zk zd : Int} {zv : Int64} (hS : ab_Sh sx_sk h) (ok_zk : mi_in zk) (ok_zd : mi_in zd) (k0 : (zd ≠ ((2 : Int))) → (zd ≠ ((3 : Int))) → (∀ h1, ab_Sh sx_sk h1 → ab_Fr [] h h1 → mg_E QT (d + 2) 162 88 [some (.inr (.inr 51)), some (.inl (zk)), some (.inr (.inl (zv))), none, some (.inl (zd)), none] [] h1 Q)) (k1 : (zd ≠ ((2 : Int))) → (zd = ((3 : Int))) → (∀ h1, ab_Sh sx_sk h1 → ab_Fr [] h h1 → mg_E QT (d + 2) 162 64 [some (.inr (.inr 51)), some (.inl (zk)), some (.inr (.inl (zv))), none, some (.inl (zd)), none] [] h1 Q)) (k2 : (zd = ((2 : Int))) → (((lg_cmp zv (Int64.ofNat 0)).toInt) < ((0 : Int))) → (zd ≠ ((3 : Int))) → (∀ h1, ab_Sh sx_sk h1 → ab_Fr [] h h1 → mg_E QT (d + 2) 162 88 [some (.inr (.inr 51)), some (.inl (zk)), some (.inr (.inl (zv))), none, some (.inl (zd)), none] [] h1 Q)) (k3 : (zd = ((2 : Int))) → (((lg_cmp zv (Int64.ofNat 0)).toInt) < ((0 : Int))) → (zd = ((3 : Int))) → (∀ h1, ab_Sh sx_sk h1 → ab_Fr [] h h1 → mg_E QT (d + 2) 162 64 [some (.inr (.inr 51)), some (.inl (zk)), some (.inr (.inl (zv))), none, some (.inl (zd)), none] [] h1 Q)) (k4 : (zd = ((2 : Int))) → (((0 : Int)) ≤ ((lg_cmp zv (Int64.ofNat 0)).toInt)) → (((lg_cmp zv (Int64.ofNat 10000)).toInt) < ((0 : Int))) → (∀ h1, ab_Sh sx_sk h1 → ab_Fr [] h h1 → mg_E QT (d + 2) 162 84 [some (.inr (.inr 51)), some (.inl (zk)), some (.inr (.inl (zv))), none, some (.inl (zd)), none] [] h1 Q)) (k5 : (zd = ((2 : Int))) → (((0 : Int)) ≤ ((lg_cmp zv (Int64.ofNat 0)).toInt)) → (((0 : Int)) ≤ ((lg_cmp zv (Int64.ofNat 10000)).toInt)) → (zd ≠ ((3 : Int))) → (∀ h1, ab_Sh sx_sk h1 → ab_Fr [] h h1 → mg_E QT (d + 2) 162 88 [some (.inr (.inr 51)), some (.inl (zk)), some (.inr (.inl (zv))), none, some (.inl (zd)), none] [] h1 Q)) (k6 : (zd = ((2 : Int))) → (((0 : Int)) ≤ ((lg_cmp zv (Int64.ofNat 0)).toInt)) → (((0 : Int)) ≤ ((lg_cmp zv (Int64.ofNat 10000)).toInt)) → (zd = ((3 : Int))) → (∀ h1, ab_Sh sx_sk h1 → ab_Fr [] h h1 → mg_E QT (d + 2) 162 64 [some (.inr (.inr 51)), some (.inl (zk)), some (.inr (.inl (zv))), none, some (.inl (zd)), none] [] h1 Q)) : mg_E QT (d + 2) 162 38 [some (.inr (.inr 51)), some (.inl (zk)), some (.inr (.inl (zv))), none, some (.inl (zd)), none] [] h Q := Or.elim (mi_em .ne (zd) (((2 : Int)))) (fun c0 => Or.elim (mi_em .ne (zd) (((3 : Int)))) (fun c1 => ms_kstB_0 hS ok_zk ok_zd ⟨c0, c1⟩ (fun h1 W => (k0 c0 c1) h1 W.1 (W.2.2.2.2.2 _ rfl))) (fun c1 => ms_kstB_1 hS ok_zk ok_zd ⟨c0, c1⟩ (fun h1 W => (k1 c0 c1) h1 W.1 (W.2.2.2.2.2 _ rfl)))) (fun c0 => Or.elim (mi_em .lt (((lg_cmp zv (Int64.ofNat 0)).toInt)) (((0 : Int)))) (fun c1 => Or.elim (mi_em .ne (zd) (((3 : Int)))) (fun c2 => ms_kstB_2 hS ok_zk ok_zd ⟨c0, c1, c2⟩ (fun h1 W => (k2 c0 c1 c2) h1 W.1 (W.2.2.2.2.2 _ rfl))) (fun c2 => ms_kstB_3 hS ok_zk ok_zd ⟨c0, c1, c2⟩ (fun h1 W => (k3 c0 c1 c2) h1 W.1 (W.2.2.2.2.2 _ rfl)))) (fun c1 => Or.elim (mi_em .lt (((lg_cmp zv (Int64.ofNat 10000)).toInt)) (((0 : Int)))) (fun c2 => ms_kstB_4 hS ok_zk ok_zd ⟨c0, c1, c2⟩ (fun h1 W => (k4 c0 c1 c2) h1 W.1 (W.2.2.2.2.2 _ rfl))) (fun c2 => Or.elim (mi_em .ne (zd) (((3 : Int)))) (fun c3 => ms_kstB_5 hS ok_zk ok_zd ⟨c0, c1, c2, c3⟩ (fun h1 W => (k5 c0 c1 c2 c3) h1 W.1 (W.2.2.2.2.2 _ rfl))) (fun c3 => ms_kstB_6 hS ok_zk ok_zd ⟨c0, c1, c2, c3⟩ (fun h1 W => (k6 c0 c1 c2 c3) h1 W.1 (W.2.2.2.2.2 _ rfl))))))
set_option maxRecDepth 20000 in
theorem mp_kstC_0 (h : sm_H) (d : Nat) (zk zd : Int) (zv : Int64) : mj_path [(162, (6, 4, sb_162))] sx_sk h 1 [] (d + 2, 162, 64, [some (.inr (.inr 51)), some (.inl (zk)), some (.inr (.inl (zv))), none, some (.inl (zd)), none], [], [], []) = some ((d + 2, 162, 65, [some (.inr (.inr 51)), some (.inl (zk)), some (.inr (.inl (zv))), none, some (.inl (zd)), none], [.inr (.inl (zv))], [], []), []) := rfl
theorem mi_tab_kstC_0 : ∀ e ∈ ([(162, (6, 4, sb_162))] : mi_T), sc_P e.1 = some e.2 := mi_tb mi_P162 (mi_tb_e)
set_option maxRecDepth 20000 in
theorem ms_kstC_0 {h : sm_H} {d : Nat} {QT : Nat → sm_H → Prop} {Q : Option mi_V → sm_H → Prop} {zk zd : Int} {zv : Int64} (hS : ab_Sh sx_sk h) (ok_zk : mi_in zk) (ok_zd : mi_in zd) (kon : ∀ h1, me_W [] h h1 → ∃ Q1, me_E (d + 1) 163 0 (mi_entry 7 [.inr (.inl (zv))]) [] h1 Q1 ∧ ∀ w h2, (∀ x, w = some x → mi_ok x) → Q1 w h2 → mg_E QT (d + 2) 162 68 [some (.inr (.inr 51)), some (.inl (zk)), some (.inr (.inl (zv))), none, some (.inl (zd)), none] (mi_back w []) h2 Q) : mg_E QT (d + 2) 162 64 [some (.inr (.inr 51)), some (.inl (zk)), some (.inr (.inl (zv))), none, some (.inl (zd)), none] [] h Q := mg_seg (mp_kstC_0 h d zk zd zv) (mi_tab_kstC_0) hS (mi_okL_c (trivial) (mi_okL_c (ok_zk) (mi_okL_c (trivial) (mi_okL_n (mi_okL_c (ok_zd) (mi_okL_n (mi_okL_e))))))) (mi_okS_e) (mi_al_e) (fun h1 W _ hst => let ⟨_, k1, k2⟩ := kon h1 W; mg_call (M := (6, 4, sb_162)) (M' := (7, 4, sb_163)) rfl rfl rfl rfl (Nat.le_of_ble_eq_true rfl) (Nat.le_of_ble_eq_true rfl) W.1 k1 k2)
set_option maxRecDepth 20000 in
theorem mt_kstC {h : sm_H} {d : Nat} {QT : Nat → sm_H → Prop} {Q : Option mi_V → sm_H → Prop} {zk zd : Int} {zv : Int64} (hS : ab_Sh sx_sk h) (ok_zk : mi_in zk) (ok_zd : mi_in zd) (k0 : (∀ h1, ab_Sh sx_sk h1 → ab_Fr [] h h1 → ∃ Q1, me_E (d + 1) 163 0 (mi_entry 7 [.inr (.inl (zv))]) [] h1 Q1 ∧ ∀ w h2, (∀ x, w = some x → mi_ok x) → Q1 w h2 → mg_E QT (d + 2) 162 68 [some (.inr (.inr 51)), some (.inl (zk)), some (.inr (.inl (zv))), none, some (.inl (zd)), none] (mi_back w []) h2 Q)) : mg_E QT (d + 2) 162 64 [some (.inr (.inr 51)), some (.inl (zk)), some (.inr (.inl (zv))), none, some (.inl (zd)), none] [] h Q := ms_kstC_0 hS ok_zk ok_zd (fun h1 W => (k0) h1 W.1 (W.2.2.2.2.2 _ rfl))
set_option maxRecDepth 20000 in
theorem mp_kstD_0 (h : sm_H) (d : Nat) (zk zd zz : Int) (zv : Int64) : mj_path [(162, (6, 4, sb_162))] sx_sk h 1 [1] (d + 2, 162, 68, [some (.inr (.inr 51)), some (.inl (zk)), some (.inr (.inl (zv))), none, some (.inl (zd)), none], [.inl (zz)], [], []) = some ((d + 2, 162, 88, [some (.inr (.inr 51)), some (.inl (zk)), some (.inr (.inl (zv))), none, some (.inl (zd)), none], [], [], []), [zz = ((0 : Int))]) := rfl
theorem mi_tab_kstD_0 : ∀ e ∈ ([(162, (6, 4, sb_162))] : mi_T), sc_P e.1 = some e.2 := mi_tb mi_P162 (mi_tb_e)
set_option maxRecDepth 20000 in
theorem ms_kstD_0 {h : sm_H} {d : Nat} {QT : Nat → sm_H → Prop} {Q : Option mi_V → sm_H → Prop} {zk zd zz : Int} {zv : Int64} (hS : ab_Sh sx_sk h) (ok_zk : mi_in zk) (ok_zd : mi_in zd) (ok_zz : mi_in zz) (ho : (zz = ((0 : Int)))) (kon : ∀ h1, me_W [] h h1 → mg_E QT (d + 2) 162 88 [some (.inr (.inr 51)), some (.inl (zk)), some (.inr (.inl (zv))), none, some (.inl (zd)), none] [] h1 Q) : mg_E QT (d + 2) 162 68 [some (.inr (.inr 51)), some (.inl (zk)), some (.inr (.inl (zv))), none, some (.inl (zd)), none] [.inl (zz)] h Q := mg_seg (mp_kstD_0 h d zk zd zz zv) (mi_tab_kstD_0) hS (mi_okL_c (trivial) (mi_okL_c (ok_zk) (mi_okL_c (trivial) (mi_okL_n (mi_okL_c (ok_zd) (mi_okL_n (mi_okL_e))))))) (mi_okS_cons (ok_zz) (mi_okS_e)) (mi_al (ho) (mi_al_e)) (fun h1 W _ hst => kon h1 W)
set_option maxRecDepth 20000 in
theorem mp_kstD_1 (h : sm_H) (d : Nat) (zk zd zz : Int) (zv : Int64) : mj_path [(162, (6, 4, sb_162))] sx_sk h 5 [0] (d + 2, 162, 68, [some (.inr (.inr 51)), some (.inl (zk)), some (.inr (.inl (zv))), none, some (.inl (zd)), none], [.inl (zz)], [], []) = some ((d + 2, 162, 77, [some (.inr (.inr 51)), some (.inl (zk)), some (.inr (.inl (zv))), none, some (.inl (zd)), none], [.inl ((zv).toInt32.toInt), .inr (.inr 60)], [], []), [zz ≠ ((0 : Int))]) := rfl
theorem mi_tab_kstD_1 : ∀ e ∈ ([(162, (6, 4, sb_162))] : mi_T), sc_P e.1 = some e.2 := mi_tb mi_P162 (mi_tb_e)
set_option maxRecDepth 20000 in
theorem ms_kstD_1 {h : sm_H} {d : Nat} {QT : Nat → sm_H → Prop} {Q : Option mi_V → sm_H → Prop} {zk zd zz : Int} {zv : Int64} (hS : ab_Sh sx_sk h) (ok_zk : mi_in zk) (ok_zd : mi_in zd) (ok_zz : mi_in zz) (ho : (zz ≠ ((0 : Int)))) (kon : ∀ h1, me_W [] h h1 → ∃ Q1, me_E (d + 1) 58 0 (mi_entry 3 [.inr (.inr 60), .inl ((zv).toInt32.toInt)]) [] h1 Q1 ∧ ∀ w h2, (∀ x, w = some x → mi_ok x) → Q1 w h2 → mg_E QT (d + 2) 162 80 [some (.inr (.inr 51)), some (.inl (zk)), some (.inr (.inl (zv))), none, some (.inl (zd)), none] (mi_back w []) h2 Q) : mg_E QT (d + 2) 162 68 [some (.inr (.inr 51)), some (.inl (zk)), some (.inr (.inl (zv))), none, some (.inl (zd)), none] [.inl (zz)] h Q := mg_seg (mp_kstD_1 h d zk zd zz zv) (mi_tab_kstD_1) hS (mi_okL_c (trivial) (mi_okL_c (ok_zk) (mi_okL_c (trivial) (mi_okL_n (mi_okL_c (ok_zd) (mi_okL_n (mi_okL_e))))))) (mi_okS_cons (ok_zz) (mi_okS_e)) (mi_al (ho) (mi_al_e)) (fun h1 W _ hst => let ⟨_, k1, k2⟩ := kon h1 W; mg_call (M := (6, 4, sb_162)) (M' := (3, 1, sb_58)) rfl rfl rfl rfl (Nat.le_of_ble_eq_true rfl) (Nat.le_of_ble_eq_true rfl) W.1 k1 k2)
set_option maxRecDepth 20000 in
theorem mt_kstD {h : sm_H} {d : Nat} {QT : Nat → sm_H → Prop} {Q : Option mi_V → sm_H → Prop} {zk zd zz : Int} {zv : Int64} (hS : ab_Sh sx_sk h) (ok_zk : mi_in zk) (ok_zd : mi_in zd) (ok_zz : mi_in zz) (k0 : (zz = ((0 : Int))) → (∀ h1, ab_Sh sx_sk h1 → ab_Fr [] h h1 → mg_E QT (d + 2) 162 88 [some (.inr (.inr 51)), some (.inl (zk)), some (.inr (.inl (zv))), none, some (.inl (zd)), none] [] h1 Q)) (k1 : (zz ≠ ((0 : Int))) → (∀ h1, ab_Sh sx_sk h1 → ab_Fr [] h h1 → ∃ Q1, me_E (d + 1) 58 0 (mi_entry 3 [.inr (.inr 60), .inl ((zv).toInt32.toInt)]) [] h1 Q1 ∧ ∀ w h2, (∀ x, w = some x → mi_ok x) → Q1 w h2 → mg_E QT (d + 2) 162 80 [some (.inr (.inr 51)), some (.inl (zk)), some (.inr (.inl (zv))), none, some (.inl (zd)), none] (mi_back w []) h2 Q)) : mg_E QT (d + 2) 162 68 [some (.inr (.inr 51)), some (.inl (zk)), some (.inr (.inl (zv))), none, some (.inl (zd)), none] [.inl (zz)] h Q := Or.elim (mi_em .eq (zz) (((0 : Int)))) (fun c0 => ms_kstD_0 hS ok_zk ok_zd ok_zz (c0) (fun h1 W => (k0 c0) h1 W.1 (W.2.2.2.2.2 _ rfl))) (fun c0 => ms_kstD_1 hS ok_zk ok_zd ok_zz (c0) (fun h1 W => (k1 c0) h1 W.1 (W.2.2.2.2.2 _ rfl)))
set_option maxRecDepth 20000 in
theorem mp_kstE_0 (h : sm_H) (d : Nat) (zk zd zz : Int) (zv : Int64) : mj_path [(162, (6, 4, sb_162))] sx_sk h 2 [1] (d + 2, 162, 80, [some (.inr (.inr 51)), some (.inl (zk)), some (.inr (.inl (zv))), none, some (.inl (zd)), none], [.inl (zz)], [], []) = some ((d + 2, 162, 88, [some (.inr (.inr 51)), some (.inl (zk)), some (.inr (.inl (zv))), none, some (.inl (zd)), none], [], [], []), [zz ≠ ((-1 : Int))]) := rfl
theorem mi_tab_kstE_0 : ∀ e ∈ ([(162, (6, 4, sb_162))] : mi_T), sc_P e.1 = some e.2 := mi_tb mi_P162 (mi_tb_e)
set_option maxRecDepth 20000 in
theorem ms_kstE_0 {h : sm_H} {d : Nat} {QT : Nat → sm_H → Prop} {Q : Option mi_V → sm_H → Prop} {zk zd zz : Int} {zv : Int64} (hS : ab_Sh sx_sk h) (ok_zk : mi_in zk) (ok_zd : mi_in zd) (ok_zz : mi_in zz) (ho : (zz ≠ ((-1 : Int)))) (kon : ∀ h1, me_W [] h h1 → mg_E QT (d + 2) 162 88 [some (.inr (.inr 51)), some (.inl (zk)), some (.inr (.inl (zv))), none, some (.inl (zd)), none] [] h1 Q) : mg_E QT (d + 2) 162 80 [some (.inr (.inr 51)), some (.inl (zk)), some (.inr (.inl (zv))), none, some (.inl (zd)), none] [.inl (zz)] h Q := mg_seg (mp_kstE_0 h d zk zd zz zv) (mi_tab_kstE_0) hS (mi_okL_c (trivial) (mi_okL_c (ok_zk) (mi_okL_c (trivial) (mi_okL_n (mi_okL_c (ok_zd) (mi_okL_n (mi_okL_e))))))) (mi_okS_cons (ok_zz) (mi_okS_e)) (mi_al (ho) (mi_al_e)) (fun h1 W _ hst => kon h1 W)
set_option maxRecDepth 20000 in
theorem mp_kstE_1 (h : sm_H) (d : Nat) (zk zd zz : Int) (zv : Int64) : mj_path [(162, (6, 4, sb_162))] sx_sk h 2 [0] (d + 2, 162, 80, [some (.inr (.inr 51)), some (.inl (zk)), some (.inr (.inl (zv))), none, some (.inl (zd)), none], [.inl (zz)], [], []) = some ((d + 2, 162, 84, [some (.inr (.inr 51)), some (.inl (zk)), some (.inr (.inl (zv))), none, some (.inl (zd)), none], [], [], []), [zz = ((-1 : Int))]) := rfl
theorem mi_tab_kstE_1 : ∀ e ∈ ([(162, (6, 4, sb_162))] : mi_T), sc_P e.1 = some e.2 := mi_tb mi_P162 (mi_tb_e)
set_option maxRecDepth 20000 in
theorem ms_kstE_1 {h : sm_H} {d : Nat} {QT : Nat → sm_H → Prop} {Q : Option mi_V → sm_H → Prop} {zk zd zz : Int} {zv : Int64} (hS : ab_Sh sx_sk h) (ok_zk : mi_in zk) (ok_zd : mi_in zd) (ok_zz : mi_in zz) (ho : (zz = ((-1 : Int)))) (kon : ∀ h1, me_W [] h h1 → mg_E QT (d + 2) 162 84 [some (.inr (.inr 51)), some (.inl (zk)), some (.inr (.inl (zv))), none, some (.inl (zd)), none] [] h1 Q) : mg_E QT (d + 2) 162 80 [some (.inr (.inr 51)), some (.inl (zk)), some (.inr (.inl (zv))), none, some (.inl (zd)), none] [.inl (zz)] h Q := mg_seg (mp_kstE_1 h d zk zd zz zv) (mi_tab_kstE_1) hS (mi_okL_c (trivial) (mi_okL_c (ok_zk) (mi_okL_c (trivial) (mi_okL_n (mi_okL_c (ok_zd) (mi_okL_n (mi_okL_e))))))) (mi_okS_cons (ok_zz) (mi_okS_e)) (mi_al (ho) (mi_al_e)) (fun h1 W _ hst => kon h1 W)
set_option maxRecDepth 20000 in
theorem mt_kstE {h : sm_H} {d : Nat} {QT : Nat → sm_H → Prop} {Q : Option mi_V → sm_H → Prop} {zk zd zz : Int} {zv : Int64} (hS : ab_Sh sx_sk h) (ok_zk : mi_in zk) (ok_zd : mi_in zd) (ok_zz : mi_in zz) (k0 : (zz ≠ ((-1 : Int))) → (∀ h1, ab_Sh sx_sk h1 → ab_Fr [] h h1 → mg_E QT (d + 2) 162 88 [some (.inr (.inr 51)), some (.inl (zk)), some (.inr (.inl (zv))), none, some (.inl (zd)), none] [] h1 Q)) (k1 : (zz = ((-1 : Int))) → (∀ h1, ab_Sh sx_sk h1 → ab_Fr [] h h1 → mg_E QT (d + 2) 162 84 [some (.inr (.inr 51)), some (.inl (zk)), some (.inr (.inl (zv))), none, some (.inl (zd)), none] [] h1 Q)) : mg_E QT (d + 2) 162 80 [some (.inr (.inr 51)), some (.inl (zk)), some (.inr (.inl (zv))), none, some (.inl (zd)), none] [.inl (zz)] h Q := Or.elim (mi_em .ne (zz) (((-1 : Int)))) (fun c0 => ms_kstE_0 hS ok_zk ok_zd ok_zz (c0) (fun h1 W => (k0 c0) h1 W.1 (W.2.2.2.2.2 _ rfl))) (fun c0 => ms_kstE_1 hS ok_zk ok_zd ok_zz (c0) (fun h1 W => (k1 c0) h1 W.1 (W.2.2.2.2.2 _ rfl)))
set_option maxRecDepth 20000 in
theorem mp_kstF_0 (h : sm_H) (d : Nat) (zk zd : Int) (zv : Int64) : mj_path [(162, (6, 4, sb_162)), (16, (3, 0, sb_16)), (49, (2, 1, sb_49))] sx_sk h 16 [0, 1] (d + 2, 162, 84, [some (.inr (.inr 51)), some (.inl (zk)), some (.inr (.inl (zv))), none, some (.inl (zd)), none], [], [], []) = some ((d + 2, 162, 111, [some (.inr (.inr 51)), some (.inl (zk)), some (.inr (.inl (zv))), none, some (.inl (zd)), some (.inl ((1 : Int)))], [.inl ((1 : Int))], [], []), [((1 : Int)) ≠ ((0 : Int)), zk < ((0 : Int))]) := rfl
theorem mi_tab_kstF_0 : ∀ e ∈ ([(162, (6, 4, sb_162)), (16, (3, 0, sb_16)), (49, (2, 1, sb_49))] : mi_T), sc_P e.1 = some e.2 := mi_tb mi_P162 (mi_tb mi_P16 (mi_tb mi_P49 (mi_tb_e)))
set_option maxRecDepth 20000 in
theorem ms_kstF_0 {h : sm_H} {d : Nat} {QT : Nat → sm_H → Prop} {Q : Option mi_V → sm_H → Prop} {zk zd : Int} {zv : Int64} (hS : ab_Sh sx_sk h) (ok_zk : mi_in zk) (ok_zd : mi_in zd) (ho : (((1 : Int)) ≠ ((0 : Int))) ∧ (zk < ((0 : Int))) ∧ (((1 : Int)) = 0 ∨ ((1 : Int)) = 1)) (kon : ∀ h1, me_W [] h h1 → Q (some (.inl ((1 : Int)))) h1) : mg_E QT (d + 2) 162 84 [some (.inr (.inr 51)), some (.inl (zk)), some (.inr (.inl (zv))), none, some (.inl (zd)), none] [] h Q := mg_seg (mp_kstF_0 h d zk zd zv) (mi_tab_kstF_0) hS (mi_okL_c (trivial) (mi_okL_c (ok_zk) (mi_okL_c (trivial) (mi_okL_n (mi_okL_c (ok_zd) (mi_okL_n (mi_okL_e))))))) (mi_okS_e) (mi_al (ho.1) (mi_al (ho.2.1) (mi_al_e))) (fun h1 W _ hst => mg_ret (M := (6, 4, sb_162)) rfl rfl rfl hst (mi_al (ho.2.2) mi_al_e) (kon h1 W))
set_option maxRecDepth 20000 in
theorem mp_kstF_1 (h : sm_H) (d : Nat) (zk zd : Int) (zv : Int64) : mj_path [(162, (6, 4, sb_162)), (16, (3, 0, sb_16)), (49, (2, 1, sb_49))] sx_sk h 20 [0, 0, 1] (d + 2, 162, 84, [some (.inr (.inr 51)), some (.inl (zk)), some (.inr (.inl (zv))), none, some (.inl (zd)), none], [], [], []) = some ((d + 2, 162, 111, [some (.inr (.inr 51)), some (.inl (zk)), some (.inr (.inl (zv))), none, some (.inl (zd)), some (.inl ((1 : Int)))], [.inl ((1 : Int))], [], []), [((1 : Int)) ≠ ((0 : Int)), ((0 : Int)) ≤ zk, ((100 : Int)) ≤ zk]) := rfl
theorem mi_tab_kstF_1 : ∀ e ∈ ([(162, (6, 4, sb_162)), (16, (3, 0, sb_16)), (49, (2, 1, sb_49))] : mi_T), sc_P e.1 = some e.2 := mi_tb mi_P162 (mi_tb mi_P16 (mi_tb mi_P49 (mi_tb_e)))
set_option maxRecDepth 20000 in
theorem ms_kstF_1 {h : sm_H} {d : Nat} {QT : Nat → sm_H → Prop} {Q : Option mi_V → sm_H → Prop} {zk zd : Int} {zv : Int64} (hS : ab_Sh sx_sk h) (ok_zk : mi_in zk) (ok_zd : mi_in zd) (ho : (((1 : Int)) ≠ ((0 : Int))) ∧ (((0 : Int)) ≤ zk) ∧ (((100 : Int)) ≤ zk) ∧ (((1 : Int)) = 0 ∨ ((1 : Int)) = 1)) (kon : ∀ h1, me_W [] h h1 → Q (some (.inl ((1 : Int)))) h1) : mg_E QT (d + 2) 162 84 [some (.inr (.inr 51)), some (.inl (zk)), some (.inr (.inl (zv))), none, some (.inl (zd)), none] [] h Q := mg_seg (mp_kstF_1 h d zk zd zv) (mi_tab_kstF_1) hS (mi_okL_c (trivial) (mi_okL_c (ok_zk) (mi_okL_c (trivial) (mi_okL_n (mi_okL_c (ok_zd) (mi_okL_n (mi_okL_e))))))) (mi_okS_e) (mi_al (ho.1) (mi_al (ho.2.1) (mi_al (ho.2.2.1) (mi_al_e)))) (fun h1 W _ hst => mg_ret (M := (6, 4, sb_162)) rfl rfl rfl hst (mi_al (ho.2.2.2) mi_al_e) (kon h1 W))
set_option maxRecDepth 20000 in
theorem mp_kstF_2 (h : sm_H) (d : Nat) (zk zd : Int) (zv : Int64) : mj_path [(162, (6, 4, sb_162)), (16, (3, 0, sb_16)), (49, (2, 1, sb_49))] sx_sk h 24 [0, 0, 0] (d + 2, 162, 84, [some (.inr (.inr 51)), some (.inl (zk)), some (.inr (.inl (zv))), none, some (.inl (zd)), none], [], [], []) = some ((d + 2, 162, 111, [some (.inr (.inr 51)), some (.inl (zk)), some (.inr (.inl (zv))), none, some (.inl (zd)), some (.inl ((1 : Int)))], [.inl ((1 : Int))], [.inr (.inr (.inl (96, Int.toNat zk, (zv).toInt32.toInt)))], []), [((1 : Int)) ≠ ((0 : Int)), ((0 : Int)) ≤ zk, zk < ((100 : Int)), 0 ≤ zk ∧ zk < 100]) := rfl
theorem mi_tab_kstF_2 : ∀ e ∈ ([(162, (6, 4, sb_162)), (16, (3, 0, sb_16)), (49, (2, 1, sb_49))] : mi_T), sc_P e.1 = some e.2 := mi_tb mi_P162 (mi_tb mi_P16 (mi_tb mi_P49 (mi_tb_e)))
set_option maxRecDepth 20000 in
theorem ms_kstF_2 {h : sm_H} {d : Nat} {QT : Nat → sm_H → Prop} {Q : Option mi_V → sm_H → Prop} {zk zd : Int} {zv : Int64} (hS : ab_Sh sx_sk h) (ok_zk : mi_in zk) (ok_zd : mi_in zd) (ho : (((1 : Int)) ≠ ((0 : Int))) ∧ (((0 : Int)) ≤ zk) ∧ (zk < ((100 : Int))) ∧ (0 ≤ zk ∧ zk < 100) ∧ (((1 : Int)) = 0 ∨ ((1 : Int)) = 1)) (kon : ∀ h1, me_W [.inr (.inr (.inl (96, Int.toNat zk, (zv).toInt32.toInt)))] h h1 → Q (some (.inl ((1 : Int)))) h1) : mg_E QT (d + 2) 162 84 [some (.inr (.inr 51)), some (.inl (zk)), some (.inr (.inl (zv))), none, some (.inl (zd)), none] [] h Q := mg_seg (mp_kstF_2 h d zk zd zv) (mi_tab_kstF_2) hS (mi_okL_c (trivial) (mi_okL_c (ok_zk) (mi_okL_c (trivial) (mi_okL_n (mi_okL_c (ok_zd) (mi_okL_n (mi_okL_e))))))) (mi_okS_e) (mi_al (ho.1) (mi_al (ho.2.1) (mi_al (ho.2.2.1) (mi_al (ho.2.2.2.1) (mi_al_e))))) (fun h1 W _ hst => mg_ret (M := (6, 4, sb_162)) rfl rfl rfl hst (mi_al (ho.2.2.2.2) mi_al_e) (kon h1 W))
set_option maxRecDepth 20000 in
theorem mt_kstF {h : sm_H} {d : Nat} {QT : Nat → sm_H → Prop} {Q : Option mi_V → sm_H → Prop} {zk zd : Int} {zv : Int64} (hS : ab_Sh sx_sk h) (ok_zk : mi_in zk) (ok_zd : mi_in zd) (k0 : (zk < ((0 : Int))) → (∀ h1, ab_Sh sx_sk h1 → ab_Fr [] h h1 → Q (some (.inl ((1 : Int)))) h1)) (k1 : (((0 : Int)) ≤ zk) → (((100 : Int)) ≤ zk) → (∀ h1, ab_Sh sx_sk h1 → ab_Fr [] h h1 → Q (some (.inl ((1 : Int)))) h1)) (k2 : (((0 : Int)) ≤ zk) → (zk < ((100 : Int))) → ((0 ≤ zk ∧ zk < 100)) ∧ (∀ h1, ab_Sh sx_sk h1 → (∀ i, mi_a h1 96 i = if i = Int.toNat zk then (zv).toInt32.toInt else (mi_a h 96 i)) → ab_Fr [(12288, 12289)] h h1 → Q (some (.inl ((1 : Int)))) h1)) : mg_E QT (d + 2) 162 84 [some (.inr (.inr 51)), some (.inl (zk)), some (.inr (.inl (zv))), none, some (.inl (zd)), none] [] h Q := Or.elim (mi_em .lt (zk) (((0 : Int)))) (fun c0 => ms_kstF_0 hS ok_zk ok_zd ⟨(by decide), c0, (by decide)⟩ (fun h1 W => (k0 c0) h1 W.1 (W.2.2.2.2.2 _ rfl))) (fun c0 => Or.elim (mi_em .ge (zk) (((100 : Int)))) (fun c1 => ms_kstF_1 hS ok_zk ok_zd ⟨(by decide), c0, c1, (by decide)⟩ (fun h1 W => (k1 c0 c1) h1 W.1 (W.2.2.2.2.2 _ rfl))) (fun c1 => ms_kstF_2 hS ok_zk ok_zd ⟨(by decide), c0, c1, (k2 c0 c1).1, (by decide)⟩ (fun h1 W => (k2 c0 c1).2 h1 W.1 (fun i => W.2.2.1 96 i) (W.2.2.2.2.2 _ rfl))))
set_option maxRecDepth 20000 in
theorem mp_kstG_0 (h : sm_H) (d : Nat) (zk zd : Int) (zv : Int64) : mj_path [(162, (6, 4, sb_162)), (16, (3, 0, sb_16)), (49, (2, 1, sb_49))] sx_sk h 5 [1] (d + 2, 162, 88, [some (.inr (.inr 51)), some (.inl (zk)), some (.inr (.inl (zv))), none, some (.inl (zd)), none], [], [], []) = some ((d + 2, 162, 111, [some (.inr (.inr 51)), some (.inl (zk)), some (.inr (.inl (zv))), none, some (.inl (zd)), some (.inl ((0 : Int)))], [.inl ((0 : Int))], [], []), [((0 : Int)) = ((0 : Int))]) := rfl
theorem mi_tab_kstG_0 : ∀ e ∈ ([(162, (6, 4, sb_162)), (16, (3, 0, sb_16)), (49, (2, 1, sb_49))] : mi_T), sc_P e.1 = some e.2 := mi_tb mi_P162 (mi_tb mi_P16 (mi_tb mi_P49 (mi_tb_e)))
set_option maxRecDepth 20000 in
theorem ms_kstG_0 {h : sm_H} {d : Nat} {QT : Nat → sm_H → Prop} {Q : Option mi_V → sm_H → Prop} {zk zd : Int} {zv : Int64} (hS : ab_Sh sx_sk h) (ok_zk : mi_in zk) (ok_zd : mi_in zd) (ho : (((0 : Int)) = ((0 : Int))) ∧ (((0 : Int)) = 0 ∨ ((0 : Int)) = 1)) (kon : ∀ h1, me_W [] h h1 → Q (some (.inl ((0 : Int)))) h1) : mg_E QT (d + 2) 162 88 [some (.inr (.inr 51)), some (.inl (zk)), some (.inr (.inl (zv))), none, some (.inl (zd)), none] [] h Q := mg_seg (mp_kstG_0 h d zk zd zv) (mi_tab_kstG_0) hS (mi_okL_c (trivial) (mi_okL_c (ok_zk) (mi_okL_c (trivial) (mi_okL_n (mi_okL_c (ok_zd) (mi_okL_n (mi_okL_e))))))) (mi_okS_e) (mi_al (ho.1) (mi_al_e)) (fun h1 W _ hst => mg_ret (M := (6, 4, sb_162)) rfl rfl rfl hst (mi_al (ho.2) mi_al_e) (kon h1 W))
set_option maxRecDepth 20000 in
theorem mt_kstG {h : sm_H} {d : Nat} {QT : Nat → sm_H → Prop} {Q : Option mi_V → sm_H → Prop} {zk zd : Int} {zv : Int64} (hS : ab_Sh sx_sk h) (ok_zk : mi_in zk) (ok_zd : mi_in zd) (k0 : (∀ h1, ab_Sh sx_sk h1 → ab_Fr [] h h1 → Q (some (.inl ((0 : Int)))) h1)) : mg_E QT (d + 2) 162 88 [some (.inr (.inr 51)), some (.inl (zk)), some (.inr (.inl (zv))), none, some (.inl (zd)), none] [] h Q := ms_kstG_0 hS ok_zk ok_zd ⟨(by decide), (by decide)⟩ (fun h1 W => (k0) h1 W.1 (W.2.2.2.2.2 _ rfl))
/-! the reference's node, set, carry, keep, exactly -/
theorem lgt9 (x y : Int64) : (y.toInt < x.toInt ∧ (lg_cmp x y).toInt = 1) ∨ (x.toInt = y.toInt ∧ (lg_cmp x y).toInt = 0) ∨ (x.toInt < y.toInt ∧ (lg_cmp x y).toInt = -1) := by
  unfold lg_cmp
  split
  · next hc =>
    rw [gt_iff_lt, Int64.lt_iff_toInt_lt] at hc
    exact Or.inl ⟨hc, by decide⟩
  · next hc =>
    rw [gt_iff_lt, Int64.lt_iff_toInt_lt] at hc
    split
    · next e =>
      subst e
      exact Or.inr (Or.inl ⟨rfl, by decide⟩)
    · next e =>
      have : x.toInt ≠ y.toInt := fun q => e (Int64.toInt_inj.mp q)
      exact Or.inr (Or.inr ⟨by omega, by decide⟩)
theorem lg_n31 {x : Int64} (h : 0 ≤ x.toInt) : (x &&& (Int64.ofNat 31)).toInt = x.toInt % 32 := by
  have toN : ∀ {a : Int64}, 0 ≤ a.toInt → (a.toBitVec.toNat : Int) = a.toInt := fun {a} h0 => by
    have e2 : a.toBitVec.toInt = a.toInt := rfl
    have e3 := BitVec.toInt_eq_toNat_cond a.toBitVec
    have e4 := a.toBitVec.isLt
    split at e3 <;> omega
  have n1 := toN h
  have e31 : (Int64.ofNat 31).toBitVec.toNat = 31 := by decide
  have main : (x &&& (Int64.ofNat 31)).toBitVec.toNat = x.toBitVec.toNat % 32 := by
    rw [Int64.toBitVec_and, BitVec.toNat_and, e31]
    exact Nat.and_two_pow_sub_one_eq_mod _ 5
  show (x &&& (Int64.ofNat 31)).toBitVec.toInt = _
  rw [BitVec.toInt_eq_toNat_of_lt (by rw [main]; omega), main]
  omega
/-- the level of a node -/
def lvl (T : List (Int × Int × Int)) (k : Nat) : Int := match T[k]? with
  | some x => x.2.2
  | none => 0
/-- the node that a node is in -/
def nd_p (T : List (Int × Int × Int)) (k : Nat) (j : Int) : Prop := -1 ≤ j ∧ j < (k : Int) ∧ (∀ i : Nat, j < (i : Int) → i < k → lvl T k ≤ lvl T i) ∧ (0 ≤ j → lvl T j.toNat < lvl T k)
theorem nd_p_u {T : List (Int × Int × Int)} {k : Nat} {j j' : Int} (a : nd_p T k j) (b : nd_p T k j') : j = j' := by
  obtain ⟨a1, a2, a3, a4⟩ := a
  obtain ⟨b1, b2, b3, b4⟩ := b
  rcases Int.lt_trichotomy j j' with c | c | c
  · have p := a3 j'.toNat (by omega) (by omega)
    have q := b4 (by omega)
    omega
  · exact c
  · have p := b3 j.toNat (by omega) (by omega)
    have q := a4 (by omega)
    omega
/-- how many nodes are in a node -/
def nd_s (T : List (Int × Int × Int)) (k : Nat) (m : Int) : Prop := 0 ≤ m ∧ (k : Int) + m < (T.length : Int) ∧ (∀ i : Nat, k < i → (i : Int) ≤ (k : Int) + m → lvl T k < lvl T i) ∧ ((k : Int) + m + 1 < (T.length : Int) → lvl T ((k : Int) + m + 1).toNat ≤ lvl T k)
theorem nd_s_u {T : List (Int × Int × Int)} {k : Nat} {m m' : Int} (a : nd_s T k m) (b : nd_s T k m') : m = m' := by
  obtain ⟨a1, a2, a3, a4⟩ := a
  obtain ⟨b1, b2, b3, b4⟩ := b
  rcases Int.lt_trichotomy m m' with c | c | c
  · have p := a4 (by omega)
    have q := b3 ((k : Int) + m + 1).toNat (by omega) (by omega)
    omega
  · exact c
  · have p := b4 (by omega)
    have q := a3 ((k : Int) + m' + 1).toNat (by omega) (by omega)
    omega
/-- what node answers -/
def nd_v (T : List (Int × Int × Int)) (k : Nat) (zw z : Int) : Prop := (zw = 0 ∧ ∃ x, T[k]? = some x ∧ z = x.1 % 10) ∨ (zw = 1 ∧ ∃ x, T[k]? = some x ∧ z = x.2.1) ∨ (zw = 2 ∧ nd_p T k z) ∨ (zw = 3 ∧ nd_s T k z)
theorem nd_v_u {T : List (Int × Int × Int)} {k : Nat} {zw z z' : Int} (a : nd_v T k zw z) (b : nd_v T k zw z') : z = z' := by
  rcases a with ⟨a0, x, a1, a2⟩ | ⟨a0, x, a1, a2⟩ | ⟨a0, a⟩ | ⟨a0, a⟩
  · rcases b with ⟨b0, y, b1, b2⟩ | ⟨b0, y, b1, b2⟩ | ⟨b0, b⟩ | ⟨b0, b⟩
    · rw [a1] at b1
      have e := Option.some.inj b1
      rw [a2, b2, e]
    all_goals omega
  · rcases b with ⟨b0, y, b1, b2⟩ | ⟨b0, y, b1, b2⟩ | ⟨b0, b⟩ | ⟨b0, b⟩
    · omega
    · rw [a1] at b1
      have e := Option.some.inj b1
      rw [a2, b2, e]
    all_goals omega
  · rcases b with ⟨b0, y, b1, b2⟩ | ⟨b0, y, b1, b2⟩ | ⟨b0, b⟩ | ⟨b0, b⟩
    · omega
    · omega
    · exact nd_p_u a b
    · omega
  · rcases b with ⟨b0, y, b1, b2⟩ | ⟨b0, y, b1, b2⟩ | ⟨b0, b⟩ | ⟨b0, b⟩
    · omega
    · omega
    · omega
    · exact nd_s_u a b
theorem gs_lvl {h : sm_H} {T : List (Int × Int × Int)} (hT : gs_T h T) {k : Nat} (hk : k < T.length) : lvl T k = mi_a h 156 (mi_a h 157 k).toNat := by
  have := (hT.2.1 k hk).2.2.1
  unfold lvl
  rw [this]
section NODR
variable {d : Nat} {h : sm_H} {T : List (Int × Int × Int)}
def nx_Q (h : sm_H) (T : List (Int × Int × Int)) (zk zw : Int) (w : Option mi_V) (h' : sm_H) : Prop := ab_Sh sx_sk h' ∧ ab_Fr [(13952, 13953)] h h' ∧ ∃ y : Int64, w = some (.inr (.inl y)) ∧ (((zk < 0 ∨ (T.length : Int) ≤ zk) ∧ mi_f h' 13952 = 1) ∨ (0 ≤ zk ∧ zk < (T.length : Int) ∧ (zw < 0 ∨ 3 < zw) ∧ mi_f h' 13952 = 2) ∨ (0 ≤ zk ∧ zk < (T.length : Int) ∧ 0 ≤ zw ∧ zw ≤ 3 ∧ mi_f h' 13952 = 0 ∧ nd_v T zk.toNat zw y.toInt))
theorem i2l_v {z : Int} (o : mi_in z) : ((Int32.ofInt z).toInt64).toInt = z := by
  rw [Int32.toInt_toInt64, mi_ti o]
theorem me_noder {zk zw : Int} (hS : ab_Sh sx_sk h) (ok : mi_in zk) (ow : mi_in zw) (hT : gs_T h T) (hl : T.length ≤ 100) : me_E (d + 1) 233 0 [some (.inr (.inr 109)), some (.inl zk), some (.inl zw), none] [] h (nx_Q h T zk zw) := by
  have e0 := hT.1
  have up : ∀ h1, ab_Sh sx_sk h1 → ab_Fr [(13952, 13953)] h h1 → mi_f h1 13952 = 0 → 0 ≤ zk → zk < (T.length : Int) → 0 ≤ zw → zw ≤ 3 → me_E (d + 1) 233 43 [some (.inr (.inr 109)), some (.inl zk), some (.inl zw), none] [] h1 (nx_Q h T zk zw) := by
    intro h1 g1 g2 g3 k0 k1 w0 w1
    have a5 : ∀ i, mi_a h1 155 i = mi_a h 155 i := fun i => me_a (k := 155) g2 hS rfl rfl
    have a6 : ∀ i, mi_a h1 156 i = mi_a h 156 i := fun i => me_a (k := 156) g2 hS rfl rfl
    have a7 : ∀ i, mi_a h1 157 i = mi_a h 157 i := fun i => me_a (k := 157) g2 hS rfl rfl
    have b2 : ∀ i, mx_b h1 162 i = mx_b h 162 i := fun i => me_b (k := 162) g2 hS rfl rfl
    have f5 : mi_f h1 14015 = mi_f h 14015 := me_f (c := 14015) g2 hS rfl rfl
    have ho : ∀ z : Int, 0 ≤ z → z < (T.length : Int) → 0 ≤ mi_a h1 157 z.toNat ∧ mi_a h1 157 z.toNat < (T.length : Int) ∧ lvl T z.toNat = mi_a h1 156 (mi_a h1 157 z.toNat).toNat := fun z z0 z1 => by
      have hz : z.toNat < T.length := by omega
      have p := hT.2.1 z.toNat hz
      rw [a7, a6]
      exact ⟨p.1, p.2.1, gs_lvl hT hz⟩
    have fin : ∀ (h2 : sm_H) (y : Int64), ab_Sh sx_sk h2 → ab_Fr [] h1 h2 → nd_v T zk.toNat zw y.toInt → nx_Q h T zk zw (some (.inr (.inl y))) h2 := fun h2 y s1 s2 hv => by
      have e := me_nil s2
      subst e
      exact ⟨g1, g2, y, rfl, Or.inr (Or.inr ⟨k0, k1, w0, w1, g3, hv⟩)⟩
    have hk := hT.2.1 zk.toNat (by omega)
    have hok := ho zk k0 k1
    have lp : ∀ (N : Nat) (zj : Int), zj < (N : Int) → -1 ≤ zj → zj ≤ zk → zw = 2 → (∀ i : Nat, zj < (i : Int) → i < zk.toNat → lvl T zk.toNat ≤ lvl T i) → me_E (d + 1) 233 86 [some (.inr (.inr 109)), some (.inl zk), some (.inl zw), some (.inl zj)] [] h1 (nx_Q h T zk zw) := by
      intro N
      induction N with
      | zero =>
        intro zj j0 j1 j2 ew hi
        refine mt_xnoC g1 ok ow ⟨by omega, by omega⟩ ?_ ?_ ?_
        · intro c h2 s1 s2
          refine fin h2 _ s1 s2 (Or.inr (Or.inr (Or.inl ⟨ew, ?_⟩)))
          rw [i2l_v ⟨by omega, by omega⟩]
          exact ⟨j1, by omega, hi, fun q => by omega⟩
        · intro c; omega
        · intro c; omega
      | succ N ih =>
        intro zj j0 j1 j2 ew hi
        refine mt_xnoC g1 ok ow ⟨by omega, by omega⟩ ?_ ?_ ?_
        · intro c h2 s1 s2
          refine fin h2 _ s1 s2 (Or.inr (Or.inr (Or.inl ⟨ew, ?_⟩)))
          rw [i2l_v ⟨by omega, by omega⟩]
          exact ⟨j1, by omega, hi, fun q => by omega⟩
        · intro c1 c2
          have hj := ho zj c1 (by omega)
          refine ⟨by omega, fun h2 s1 s2 => fin h2 _ s1 s2 (Or.inr (Or.inr (Or.inl ⟨ew, ?_⟩)))⟩
          rw [i2l_v ⟨by omega, by omega⟩]
          have ne : zj ≠ zk := fun q => by rw [q] at c2; omega
          exact ⟨j1, by omega, hi, fun _ => by rw [hj.2.2, hok.2.2]; exact c2⟩
        · intro c1 c2
          have hj := ho zj c1 (by omega)
          refine ⟨by omega, fun h2 s1 s2 => ?_⟩
          have e := me_nil s2
          subst e
          refine ih (zj + (-1)) (by omega) (by omega) (by omega) ew (fun i i0 i1 => ?_)
          by_cases q : (i : Int) = zj
          · have q2 : i = zj.toNat := by omega
            rw [q2, hj.2.2, hok.2.2]
            exact c2
          · exact hi i (by omega) i1
    have lq : ∀ (N : Nat) (zj : Int), (T.length : Int) - zj < (N : Int) → zk < zj → zj ≤ (T.length : Int) → zw = 3 → (∀ i : Nat, zk.toNat < i → (i : Int) < zj → lvl T zk.toNat < lvl T i) → me_E (d + 1) 233 116 [some (.inr (.inr 109)), some (.inl zk), some (.inl zw), some (.inl zj)] [] h1 (nx_Q h T zk zw) := by
      intro N
      induction N with
      | zero => intro zj j0 j1 j2 ew hi; omega
      | succ N ih =>
        intro zj j0 j1 j2 ew hi
        refine mt_xnoD g1 ok ow ⟨by omega, by omega⟩ ?_ ?_ ?_
        · intro b c
          refine ⟨by omega, fun h2 s1 s2 => fin h2 _ s1 s2 (Or.inr (Or.inr (Or.inr ⟨ew, ?_⟩)))⟩
          rw [i2l_v ⟨by omega, by omega⟩]
          exact ⟨by omega, by omega, fun i i0 i1 => hi i i0 (by omega), fun q => by omega⟩
        · intro b c1 c2
          have hj := ho zj (by omega) (by omega)
          refine ⟨by omega, fun h2 s1 s2 => fin h2 _ s1 s2 (Or.inr (Or.inr (Or.inr ⟨ew, ?_⟩)))⟩
          rw [i2l_v ⟨by omega, by omega⟩]
          refine ⟨by omega, by omega, fun i i0 i1 => hi i i0 (by omega), fun q => ?_⟩
          have e : ((zk.toNat : Int) + (zj - zk - 1) + 1).toNat = zj.toNat := by omega
          rw [e, hj.2.2, hok.2.2]
          exact c2
        · intro b c1 c2
          have hj := ho zj (by omega) (by omega)
          refine ⟨by omega, fun h2 s1 s2 => ?_⟩
          have e := me_nil s2
          subst e
          refine ih (zj + 1) (by omega) (by omega) (by omega) ew (fun i i0 i1 => ?_)
          by_cases q : (i : Int) = zj
          · have q2 : i = zj.toNat := by omega
            rw [q2, hj.2.2, hok.2.2]
            exact c2
          · exact hi i i0 (by omega)
    refine mt_xnoB g1 ok ow ?_ ?_ ?_ ?_
    · intro c1 c2
      refine ⟨by omega, fun h2 s1 s2 => ?_⟩
      have e := me_nil s2
      subst e
      exact lq (T.length + 1) (zk + 1) (by omega) (by omega) (by omega) (by omega) (fun i i0 i1 => by omega)
    · intro c1 c2 h2 s1 s2
      have e := me_nil s2
      subst e
      exact lp (zk.toNat + 1) zk (by omega) (by omega) (by omega) c2 (fun i i0 i1 => by omega)
    · intro c1 c2
      refine ⟨by omega, fun h2 s1 s2 => fin h2 _ s1 s2 (Or.inr (Or.inl ⟨by omega, _, hk.2.2.1, ?_⟩))⟩
      rw [b2, a7]
    · intro c1 c2
      refine ⟨by omega, fun h2 s1 s2 => fin h2 _ s1 s2 (Or.inl ⟨by omega, _, hk.2.2.1, ?_⟩)⟩
      have k2 := hk.2.2.2
      rw [a7, a5, i2l_v ⟨by omega, by omega⟩]
      show _ = (_ + _) % 10
      omega
  refine mt_xnoA hS ok ow ?_ ?_ ?_ ?_ ?_
  · intro c h1 g1 g2 g3
    exact ⟨g1, g3, _, rfl, Or.inl ⟨Or.inl c, g2⟩⟩
  · intro b c1 c2 c3 h1 g1 g2 g3
    exact ⟨g1, g3, _, rfl, Or.inr (Or.inl ⟨c1, by omega, Or.inl c3, g2⟩)⟩
  · intro b c1 c2 c3 c4 h1 g1 g2 g3
    exact up h1 g1 g3 g2 c1 (by omega) c3 c4
  · intro b c1 c2 c3 c4 h1 g1 g2 g3
    exact ⟨g1, g3, _, rfl, Or.inr (Or.inl ⟨c1, by omega, Or.inr c4, g2⟩)⟩
  · intro b c1 c2 h1 g1 g2 g3
    exact ⟨g1, g3, _, rfl, Or.inl ⟨Or.inr (by omega), g2⟩⟩
/-- carry -/
def xc_W : List (Nat × Nat) := [(13952, 13953), (13954, 13955), (14208, 14209)]
def xc_Q (h : sm_H) (w : Option mi_V) (h' : sm_H) : Prop := ab_Sh sx_sk h' ∧ ab_Fr xc_W h h' ∧ w = some (.inl (mi_f h 13955)) ∧ mi_f h' 13954 = mi_f h 13955 ∧ mi_f h' 13952 = 0 ∧ ∀ i : Nat, (i : Int) < mi_f h 13955 → mi_a h' 111 i = mi_a h 112 i
theorem me_carryr (hS : ab_Sh sx_sk h) : me_E d 238 0 [some (.inr (.inr 109)), none] [] h (xc_Q h) := by
  have b0 := me_fb (c := 13955) hS rfl
  have lp : ∀ (N : Nat) (zk : Int) (h1 : sm_H), mi_f h 13955 - zk < (N : Int) → 0 ≤ zk → zk ≤ mi_f h 13955 → ab_Sh sx_sk h1 → ab_Fr xc_W h h1 → mi_f h1 13952 = 0 → (∀ i : Nat, (i : Int) < zk → mi_a h1 111 i = mi_a h 112 i) → me_E d 238 7 [some (.inr (.inr 109)), some (.inl zk)] [] h1 (xc_Q h) := by
    intro N
    induction N with
    | zero => intro zk h1 n k0 k1; omega
    | succ N ih =>
      intro zk h1 n k0 k1 g1 g2 g3 hi
      have f5 : mi_f h1 13955 = mi_f h 13955 := me_f (c := 13955) g2 hS rfl rfl
      have a2 : ∀ i, mi_a h1 112 i = mi_a h 112 i := fun i => me_a (k := 112) g2 hS rfl rfl
      have b1 : mi_f h 13955 ≤ 160 := b0.2
      refine mt_xcaB g1 ⟨by omega, by omega⟩ ?_ ?_
      · intro b c
        refine ⟨b, fun h2 s1 s2 s3 => ?_⟩
        have F : ab_Fr xc_W h h2 := g2.trans (s3.wide (fun c hc => ab_swr_ok (by decide) hc))
        refine ⟨s1, F, by rw [f5], by rw [s2, f5], ?_, fun i i1 => ?_⟩
        · rw [me_f (c := 13952) s3 g1 rfl rfl, g3]
        · rw [me_a (k := 111) s3 g1 rfl rfl]
          exact hi i (by omega)
      · intro b c
        refine ⟨by omega, fun h2 s1 s2 s3 => ih (zk + 1) h2 (by omega) (by omega) (by omega) s1 (g2.trans (s3.wide (fun c hc => ab_swr_ok (by decide) hc))) ?_ (fun i i1 => ?_)⟩
        · rw [me_f (c := 13952) s3 g1 rfl rfl, g3]
        · rw [s2]
          by_cases q : i = zk.toNat
          · rw [if_pos q, a2, q]
          · rw [if_neg q]
            exact hi i (by omega)
  refine mt_xcaA hS (fun h1 g1 g2 g3 => ?_)
  exact lp ((mi_f h 13955).toNat + 1) 0 h1 (by omega) (by omega) b0.1 g1 (g3.wide (fun c hc => ab_swr_ok (by decide) hc)) g2 (fun i i1 => by omega)
/-- keep -/
def xk_W : List (Nat × Nat) := [(13952, 13953), (14017, 14018), (20608, 20609), (20992, 20993)]
def xk_Q (h : sm_H) (w : Option mi_V) (h' : sm_H) : Prop := ab_Sh sx_sk h' ∧ mi_f h' 13952 = 0 ∧ ((mi_f h 14015 = 0 ∧ w = some (.inl 0) ∧ ab_Fr [(13952, 13953)] h h') ∨ (mi_f h 14015 ≠ 0 ∧ w = some (.inl 1) ∧ ab_Fr xk_W h h' ∧ mi_f h' 14017 = mi_f h 14015 ∧ ∀ i : Nat, (i : Int) < mi_f h 14015 → mi_a h' 161 i = mi_a h 155 (mi_a h 157 i).toNat ∧ mx_b h' 164 i = mx_b h 162 (mi_a h 157 i).toNat))
theorem me_keepr (hS : ab_Sh sx_sk h) : me_E d 239 0 [some (.inr (.inr 109)), none] [] h (xk_Q h) := by
  have b0 := me_fb (c := 14015) hS rfl
  have b1 : mi_f h 14015 ≤ 100 := b0.2
  have lp : ∀ (N : Nat) (zk : Int) (h1 : sm_H), mi_f h 14015 - zk < (N : Int) → 0 ≤ zk → zk ≤ mi_f h 14015 → ab_Sh sx_sk h1 → ab_Fr xk_W h h1 → mi_f h1 13952 = 0 → mi_f h 14015 ≠ 0 → (∀ i : Nat, (i : Int) < zk → mi_a h1 161 i = mi_a h 155 (mi_a h 157 i).toNat ∧ mx_b h1 164 i = mx_b h 162 (mi_a h 157 i).toNat) → me_E d 239 16 [some (.inr (.inr 109)), some (.inl zk)] [] h1 (xk_Q h) := by
    intro N
    induction N with
    | zero => intro zk h1 n k0 k1; omega
    | succ N ih =>
      intro zk h1 n k0 k1 g1 g2 g3 nz hi
      have f5 : mi_f h1 14015 = mi_f h 14015 := me_f (c := 14015) g2 hS rfl rfl
      have a5 : ∀ i, mi_a h1 155 i = mi_a h 155 i := fun i => me_a (k := 155) g2 hS rfl rfl
      have a7 : ∀ i, mi_a h1 157 i = mi_a h 157 i := fun i => me_a (k := 157) g2 hS rfl rfl
      have b2 : ∀ i, mx_b h1 162 i = mx_b h 162 i := fun i => me_b (k := 162) g2 hS rfl rfl
      refine mt_xkeB g1 ⟨by omega, by omega⟩ ?_ ?_
      · intro b c
        refine ⟨b, fun h2 s1 s2 s3 => ?_⟩
        have F : ab_Fr xk_W h h2 := g2.trans (s3.wide (fun c hc => ab_swr_ok (by decide) hc))
        refine ⟨s1, ?_, Or.inr ⟨nz, rfl, F, by rw [s2, f5], fun i i1 => ?_⟩⟩
        · rw [me_f (c := 13952) s3 g1 rfl rfl, g3]
        · rw [me_a (k := 161) s3 g1 rfl rfl, me_b (k := 164) s3 g1 rfl rfl]
          exact hi i (by omega)
      · intro b c
        have bb := me_ab (k := 157) (i := zk.toNat) g1 rfl (by decide) (by omega)
        refine ⟨by omega, fun h2 s1 s2 s4 s3 => ih (zk + 1) h2 (by omega) (by omega) (by omega) s1 (g2.trans (s3.wide (fun c hc => ab_swr_ok (by decide) hc))) ?_ nz (fun i i1 => ?_)⟩
        · rw [me_f (c := 13952) s3 g1 rfl rfl, g3]
        · rw [s2, s4]
          by_cases q : i = zk.toNat
          · rw [if_pos q, if_pos q, a7, a5, b2, q]
            exact ⟨rfl, rfl⟩
          · rw [if_neg q, if_neg q]
            exact hi i (by omega)
  refine mt_xkeA hS ?_ ?_
  · intro b c h1 g1 g2 g3
    exact lp ((mi_f h 14015).toNat + 1) 0 h1 (by omega) (by omega) b0.1 g1 (g3.wide (fun c hc => ab_swr_ok (by decide) hc)) g2 c (fun i i1 => by omega)
  · intro b c h1 g1 g2 g3
    exact ⟨g1, g2, Or.inl ⟨c, rfl, g3⟩⟩
end NODR
/-! grow again: what is left alone where it fails -/
section GC9
variable {d : Nat} {h : sm_H}
def gcn_W : List (Nat × Nat) := [(13056, 13057), (13184, 13185), (13312, 13313), (13440, 13441), (13699, 13704)]
def gcn_T (h : sm_H) (zx : Int64) (zf : Int) (x : Nat) (h' : sm_H) : Prop := ∃ h1, h' = h1 ++ [sm_exc x] ∧ ab_Sh sx_sk h1 ∧ ab_Fr gcn_W h h1 ∧ ((x = 13 ∧ (zf < 0 ∨ 20 < zf)) ∨ (x = 14 ∧ (0 ≤ zf ∧ zf ≤ 20) ∧ mi_f h 6543 = 0) ∨ (x = 15 ∧ (0 ≤ zf ∧ zf ≤ 20) ∧ mi_f h 6543 ≠ 0 ∧ gm_NO (mi_a h) (gx_k h) (gc_0 (mi_a h) zx zf)))
theorem me_growcn {zx : Int64} {zf : Int} (hS : ab_Sh sx_sk h) (of : mi_in zf) (hG : mi_f h 6543 ≠ 0 → ∃ f it Y, cg_G f it (mi_a h) Y (gx_k h) h ∧ wk_Lrule Y (mi_a h 114 0) ∧ f (mi_a h 114 0) = 0) : mg_E (gcn_T h zx zf) 245 158 0 [some (.inr (.inr 51)), some (.inr (.inl zx)), none, some (.inl zf)] [] h (gc_Q h zx zf) := by
  refine mt_khgA (d := 244) hS of ?_ ?_ ?_ ?_
  · intro c h1 g1 g2
    have e := me_nil g2
    subst e
    exact mg_thr (M := (4, 1, sb_158)) (x := 13) rfl rfl rfl ⟨h1, rfl, g1, ab_Fr.refl, Or.inl ⟨rfl, Or.inl c⟩⟩
  · intro b c1 c2 c3 h1 g1 g2 g3 g4
    obtain ⟨f, it, Y, k1, k2, k3⟩ := hG c3
    have hG1 := cg_G_fr k1 g4 hS rfl
    refine ⟨_, me_gwalk g1 hG1 k2.1 k2.2.1 k3 g2 g3 c1 c2, fun w h2 hw hq => ?_⟩
    obtain ⟨rfl, q1, q2, q3, q4⟩ := hq
    have F2n : ab_Fr gcn_W h h2 := (g4.wide (fun c hc => ab_swr_ok (by decide) hc)).trans (q2.wide (fun c hc => ab_swr_ok (by decide) hc))
    have F2 : ab_Fr gc_W h h2 := (g4.wide (fun c hc => ab_swr_ok (by decide) hc)).trans (q2.wide (fun c hc => ab_swr_ok (by decide) hc))
    refine mt_khgB (d := 244) q1 of ?_ ?_
    · intro b1 z h3 r1 r2
      have e := me_nil r2
      subst e
      rcases q4 with ⟨-, q4, -⟩ | ⟨-, -, s', q5, ⟨-, -, A, qa, qb, qc, -⟩, q6⟩
      · exfalso; omega
      obtain ⟨⟨t1, t2⟩, -, -, t3, -⟩ := q5
      have t3 : ((gm_T s').length : Int) ≤ 100 := t3
      refine ⟨_, me_gtake (d := 242) q1 (by omega) (by omega), fun w h4 hw hq => ?_⟩
      obtain ⟨rfl, u1, u2, u3, u4⟩ := hq
      refine mt_khgC (d := 244) u1 of ?_
      intro h5 v1 v2
      have e := me_nil v2
      subst e
      refine ⟨u1, F2.trans (u2.wide (fun c hc => ab_swr_ok (by decide) hc)), ⟨c1, c2⟩, c3, s', q6 [] rfl, by rw [u3, t1], by omega, ⟨u3.trans t1, fun k hk => ?_⟩, ?_, fun k hk => ?_⟩
      · obtain ⟨l, q, hl⟩ := t2 k hk
        obtain ⟨x1, x2, -⟩ := u4 k (by omega)
        exact ⟨l, q, by rw [x1, x2]; exact hl⟩
      · rw [show gm_T ((zx, zf, [], 0, []) : gm_S) = [] from gm_T_mk _ _ _ _ _, List.nil_append] at qa
        rw [qa]
        rw [show gm_D ((zx, zf, [], 0, []) : gm_S) = 0 from gm_D_mk _ _ _ _ _] at qb
        exact qb
      · rw [show gm_T ((zx, zf, [], 0, []) : gm_S) = [] from gm_T_mk _ _ _ _ _] at qa qc
        rw [List.nil_append] at qa
        have := qc k (by rw [← qa]; exact hk)
        rw [← qa] at this
        have e0 : ([] : List (Int × Int × Int)).length + k = k := Nat.zero_add k
        rw [e0] at this
        rw [this, (u4 k (by omega)).2.2]
    · intro b1 z h3 r1 r2
      have e := me_nil r2
      subst e
      rcases q4 with ⟨-, -, q4⟩ | ⟨-, q4, -⟩
      · exact mg_thr (M := (4, 1, sb_158)) (x := 15) rfl rfl rfl ⟨h3, rfl, q1, F2n, Or.inr (Or.inr ⟨rfl, ⟨c1, c2⟩, c3, q4 [] rfl⟩)⟩
      · exfalso; omega
  · intro b c1 c2 c3 h1 g1 g2
    have e := me_nil g2
    subst e
    exact mg_thr (M := (4, 1, sb_158)) (x := 14) rfl rfl rfl ⟨h1, rfl, g1, ab_Fr.refl, Or.inr (Or.inl ⟨rfl, ⟨c1, c2⟩, c3⟩)⟩
  · intro c1 c h1 g1 g2
    have e := me_nil g2
    subst e
    exact mg_thr (M := (4, 1, sb_158)) (x := 13) rfl rfl rfl ⟨h1, rfl, g1, ab_Fr.refl, Or.inl ⟨rfl, Or.inr c⟩⟩
/-- the reference's grow: frames -/
theorem me_growr0 {zx : Int64} {zf : Int} (hS : ab_Sh sx_sk h) (of : mi_in zf) (hY : 2 ≤ mi_f h 13959 → ∃ Y, wk_L (mi_a h) Y ∧ wk_Lrule Y (mi_a h 114 0) ∧ ∀ f, 0 ≤ f → f < wk_f Y → mi_a h 130 f.toNat ≤ 10000) : me_E (d + 20) 232 0 [some (.inr (.inr 109)), some (.inr (.inl zx)), none, some (.inl zf)] [] h (fun w h' => ab_Fr pr_Y h h' ∧ (mi_f h' 13952 ≠ 0 → ab_Fr pr_N h h')) := by
  refine mt_groA hS of ?_ ?_ ?_ ?_
  · intro c h1 g1 g2 g3
    exact ⟨g3.wide (fun c hc => ab_swr_ok (by decide) hc), fun _ => g3.wide (fun c hc => ab_swr_ok (by decide) hc)⟩
  · intro b c1 c2 c3 h2 g1 g2 g3 g4 g5
    obtain ⟨Y, l1, l2, l3⟩ := hY c3
    have hg : wk_gc (mi_a h) (mi_a h2) := wk_gc_fr g5 hS rfl
    have e14 : mi_a h2 114 0 = mi_a h 114 0 := hg 114 (by decide) 0
    have L2 : wk_L (mi_a h2) Y := wk_L_g l1 hg
    refine ⟨_, me_walkx (d := d + 12) (Y := Y) g1 L2 (by rw [e14]; exact l2) (by omega) (by omega), fun w h3 ow hq => ?_⟩
    obtain ⟨rfl, q4, q5, -⟩ := hq
    have F3 : ab_Fr pr_N h h3 := (g5.wide (fun c hc => ab_swr_ok (by decide) hc)).trans (q5.wide (fun c hc => ab_swr_ok (by decide) hc))
    refine mt_groB q4 of ?_ ?_
    · intro b1 c4 h4 r1 r2 r3
      refine ⟨_, me_takex (d := d + 19) r1, fun w h5 ow hq => ?_⟩
      obtain ⟨rfl, t0, t1, t2, t3⟩ := hq
      refine mt_groC t0 of (ow _ rfl) ?_
      intro h6 u1 u2
      have e6 := me_nil u2
      subst e6
      refine ⟨((F3.wide (fun c hc => ab_swr_ok (by decide) hc)).trans (r3.wide (fun c hc => ab_swr_ok (by decide) hc))).trans (t1.wide (fun c hc => ab_swr_ok (by decide) hc)), fun q => absurd ?_ q⟩
      rw [me_f (c := 13952) t1 r1 rfl rfl]
      exact r2
    · intro b1 c4 h4 r1 r2 r3
      have F4 : ab_Fr pr_N h h4 := F3.trans (r3.wide (fun c hc => ab_swr_ok (by decide) hc))
      exact ⟨F4.wide (fun c hc => ab_swr_ok (by decide) hc), fun _ => F4⟩
  · intro b c1 c2 c3 h1 g1 g2 g3
    exact ⟨g3.wide (fun c hc => ab_swr_ok (by decide) hc), fun _ => g3.wide (fun c hc => ab_swr_ok (by decide) hc)⟩
  · intro c1 c2 h1 g1 g2 g3
    exact ⟨g3.wide (fun c hc => ab_swr_ok (by decide) hc), fun _ => g3.wide (fun c hc => ab_swr_ok (by decide) hc)⟩
end GC9
/-! the reference's isName, set, type, clear, exactly -/
/-- a name that may be set -/
def nm_ok (m : Int) (L : Nat → Int) (v : Int) : Prop := 0 < v ∧ v < 1073741824 ∧ lgd 6 v ∧ ∀ l : Nat, (l : Int) < m → L l ≠ v
theorem lgd_z0 (n : Nat) : lgd n 0 := by
  cases n with
  | zero => exact rfl
  | succ n => exact Or.inl rfl
section SETR
variable {d : Nat} {h : sm_H} {T : List (Int × Int × Int)}
def in_R (h : sm_H) (n : Nat) (zv zw : Int) (w : Option mi_V) (h' : sm_H) : Prop := h' = h ∧ ((w = some (.inl 1) ∧ lgd n zw ∧ ∀ l : Nat, (l : Int) < mi_f h 13962 → tq_L h l ≠ zv) ∨ (w = some (.inl 0) ∧ ¬ (lgd n zw ∧ ∀ l : Nat, (l : Int) < mi_f h 13962 → tq_L h l ≠ zv)))
theorem me_isNamer {zv : Int64} (hS : ab_Sh sx_sk h) (hO : tq_O h) : me_E (d + 2) 236 0 [some (.inr (.inr 109)), some (.inr (.inl zv)), none, none, none] [] h (fun w h' => h' = h ∧ ((w = some (.inl 1) ∧ nm_ok (mi_f h 13962) (tq_L h) zv.toInt) ∨ (w = some (.inl 0) ∧ ¬ nm_ok (mi_f h 13962) (tq_L h) zv.toInt))) := by
  have c0 : (Int64.ofNat 0).toInt = 0 := by decide
  have c1 : (Int64.ofNat 1).toInt = 1 := by decide
  have c26 : (Int64.ofNat 26).toInt = 26 := by decide
  have c30 : (Int64.ofNat 1073741824).toInt = 1073741824 := by decide
  have lp : ∀ (n : Nat) (zw : Int64), 1 ≤ zv.toInt → 0 ≤ zw.toInt → zw.toInt < 32 ^ n → me_E (d + 2) 236 18 [some (.inr (.inr 109)), some (.inr (.inl zv)), none, some (.inr (.inl zw)), none] [] h (in_R h n zv.toInt zw.toInt) := by
    have stop : ∀ (n : Nat) (zw : Int64), 1 ≤ zv.toInt → zw.toInt = 0 → ∀ h1, ab_Sh sx_sk h1 → ab_Fr [] h h1 → ∃ Q1, me_E (d + 1) 216 0 (mi_entry 4 [.inr (.inr 109), .inr (.inl (zv))]) [] h1 Q1 ∧ ∀ w h2, (∀ x, w = some x → mi_ok x) → Q1 w h2 → me_E (d + 2) 236 60 [some (.inr (.inr 109)), some (.inr (.inl zv)), none, some (.inr (.inl zw)), none] (mi_back w []) h2 (in_R h n zv.toInt zw.toInt) := by
      intro n zw v1 w0 h1 g1 g2
      have e := me_nil g2
      subst e
      refine ⟨_, me_kox g1 v1 hO, fun w h2 ow hq => ?_⟩
      obtain ⟨rfl, z, z0, z1, zf, rfl⟩ := hq
      refine mt_inC g1 ⟨by omega, by omega⟩ ?_ ?_
      · intro c h3 r1 r2
        refine ⟨me_nil r2, Or.inr ⟨rfl, fun q => ?_⟩⟩
        rcases zf with ⟨f0, f1, f2, -⟩ | ⟨f0, -⟩
        · exact q.2 z.toNat (by omega) f2
        · omega
      · intro c h3 r1 r2
        rcases zf with ⟨f0, -⟩ | ⟨f0, f1⟩
        · omega
        · exact ⟨me_nil r2, Or.inl ⟨rfl, by rw [w0]; exact lgd_z0 n, f1⟩⟩
    intro n
    induction n with
    | zero =>
      intro zw v1 w0 w1
      have w1 : zw.toInt < 1 := w1
      have t0 := lgt9 zw (Int64.ofNat 0)
      refine mt_inB hS ?_ ?_ ?_ ?_
      · intro c h1 g1 g2
        exact stop 0 zw v1 (by omega) h1 g1 g2
      · intro c; omega
      · intro c; omega
      · intro c; omega
    | succ n ih =>
      intro zw v1 w0 w1
      have t0 := lgt9 zw (Int64.ofNat 0)
      have e31 := lg_n31 w0
      have t1 := lgt9 (zw &&& (Int64.ofNat 31)) (Int64.ofNat 1)
      have t2 := lgt9 (zw &&& (Int64.ofNat 31)) (Int64.ofNat 26)
      rw [e31] at t1 t2
      rw [c0] at t0
      rw [c1] at t1
      rw [c26] at t2
      refine mt_inB hS ?_ ?_ ?_ ?_
      · intro c h1 g1 g2
        exact stop (n + 1) zw v1 (by omega) h1 g1 g2
      · intro k1 k2 h1 g1 g2
        refine ⟨me_nil g2, Or.inr ⟨rfl, fun q => ?_⟩⟩
        rcases q.1 with q | q
        · omega
        · omega
      · intro k1 k2 k3 h1 g1 g2
        have e := me_nil g2
        subst e
        have sh := lg_shr5 zw
        have p5 : (32 : Int) ^ (n + 1) = 32 ^ n * 32 := Int.pow_succ ..
        refine (ih (zw >>> ((Int32.ofInt ((5 : Int))).toInt64 &&& 63)) v1 (by omega) (by rw [sh]; omega)).imp (fun w h' hq => ?_)
        obtain ⟨r1, r2⟩ := hq
        refine ⟨r1, ?_⟩
        rw [sh] at r2
        rcases r2 with ⟨r2, r3, r4⟩ | ⟨r2, r3⟩
        · exact Or.inl ⟨r2, Or.inr ⟨by omega, by omega, r3⟩, r4⟩
        · refine Or.inr ⟨r2, fun q => r3 ⟨?_, q.2⟩⟩
          rcases q.1 with q | q
          · omega
          · exact q.2.2
      · intro k1 k2 k3 h1 g1 g2
        refine ⟨me_nil g2, Or.inr ⟨rfl, fun q => ?_⟩⟩
        rcases q.1 with q | q
        · omega
        · omega
  have ta := lgt9 zv (Int64.ofNat 1)
  have tb := lgt9 zv (Int64.ofNat 1073741824)
  rw [c1] at ta
  rw [c30] at tb
  refine mt_inA hS ?_ ?_ ?_
  · intro c h1 g1 g2
    refine ⟨me_nil g2, Or.inr ⟨rfl, fun q => ?_⟩⟩
    have := q.1
    omega
  · intro k1 k2 h1 g1 g2
    have e := me_nil g2
    subst e
    have p6 : (32 : Int) ^ 6 = 1073741824 := by decide
    refine (lp 6 zv (by omega) (by omega) (by omega)).imp (fun w h' hq => ?_)
    obtain ⟨r1, r2⟩ := hq
    refine ⟨r1, ?_⟩
    rcases r2 with ⟨r2, r3, r4⟩ | ⟨r2, r3⟩
    · exact Or.inl ⟨r2, by omega, by omega, r3, r4⟩
    · exact Or.inr ⟨r2, fun q => r3 ⟨q.2.2.1, q.2.2.2⟩⟩
  · intro k1 k2 h1 g1 g2
    refine ⟨me_nil g2, Or.inr ⟨rfl, fun q => ?_⟩⟩
    have := q.2.1
    omega
/-- what may be put into a node -/
def st9_f (m : Int) (L : Nat → Int) (x : Int × Int × Int) (v : Int) : Prop := (x.1 % 10 = 2 ∧ 0 ≤ v ∧ v ≤ 9999) ∨ (x.1 % 10 = 3 ∧ nm_ok m L v)
def xs_Q (h : sm_H) (T : List (Int × Int × Int)) (zk : Int) (zv : Int64) (w : Option mi_V) (h' : sm_H) : Prop := ab_Sh sx_sk h' ∧ (((zk < 0 ∨ (T.length : Int) ≤ zk) ∧ mi_f h' 13952 = 1 ∧ w = some (.inl 0) ∧ ab_Fr [(13952, 13953)] h h') ∨ (0 ≤ zk ∧ zk < (T.length : Int) ∧ mi_f h' 13952 = 0 ∧ ∃ x, T[zk.toNat]? = some x ∧ ((st9_f (mi_f h 13962) (tq_L h) x zv.toInt ∧ w = some (.inl 1) ∧ ab_Fr [(13952, 13953), (20736, 20737)] h h' ∧ ∀ i, mx_b h' 162 i = if i = (mi_a h 157 zk.toNat).toNat then zv else mx_b h 162 i) ∨ (¬ st9_f (mi_f h 13962) (tq_L h) x zv.toInt ∧ w = some (.inl 0) ∧ ab_Fr [(13952, 13953)] h h'))))
theorem me_setr {zk : Int} {zv : Int64} (hS : ab_Sh sx_sk h) (hO : tq_O h) (ok : mi_in zk) (hn : mi_f h 14015 = (T.length : Int)) (hT : T ≠ [] → gs_T h T) : me_E (d + 20) 235 0 [some (.inr (.inr 109)), some (.inl zk), some (.inr (.inl zv)), none, none, none] [] h (xs_Q h T zk zv) := by
  have c0 : (Int64.ofNat 0).toInt = 0 := by decide
  have c9 : (Int64.ofNat 9999).toInt = 9999 := by decide
  have t0 := lgt9 zv (Int64.ofNat 0)
  have t9 := lgt9 zv (Int64.ofNat 9999)
  rw [c0] at t0
  rw [c9] at t9
  have bo : 0 ≤ zk → zk < mi_f h 14015 → mi_f h 14015 ≤ 100 → (0 ≤ mi_a h 157 (Int.toNat zk) ∧ mi_a h 157 (Int.toNat zk) ≤ 99) ∧ ∃ x, T[zk.toNat]? = some x ∧ x.1 % 10 = mi_a h 155 (mi_a h 157 (Int.toNat zk)).toNat := fun a b c => by
    have hk : zk.toNat < T.length := by omega
    have hne : T ≠ [] := fun e => by rw [e] at hk; exact absurd hk (Nat.not_lt_zero _)
    have g := (hT hne).2.1 zk.toNat hk
    refine ⟨me_ab (k := 157) (i := zk.toNat) hS rfl (by decide) (by omega), _, g.2.2.1, ?_⟩
    have g2 := g.2.2.2
    show (_ + _) % 10 = _
    omega
  refine mt_seA hS ok ?_ ?_ ?_ ?_ ?_ ?_ ?_
  · intro c h1 g1 g2 g3
    exact ⟨g1, Or.inl ⟨Or.inl c, g2, rfl, g3⟩⟩
  · intro b c1 c2 c3 c4
    obtain ⟨b1, x, x1, x2⟩ := bo c1 c2 b.2
    refine ⟨by omega, fun h1 g1 g2 g3 => ⟨g1, Or.inr ⟨c1, by omega, g2, x, x1, Or.inr ⟨?_, rfl, g3⟩⟩⟩⟩
    rintro (⟨q, -⟩ | ⟨q, -⟩) <;> omega
  · intro b c1 c2 c3 c4
    obtain ⟨b1, x, x1, x2⟩ := bo c1 c2 b.2
    refine ⟨by omega, fun h1 g1 g2 g3 => ?_⟩
    have f2 : mi_f h1 13962 = mi_f h 13962 := me_f (c := 13962) g3 hS rfl rfl
    have eL : tq_L h1 = tq_L h := funext fun k => by
      unfold tq_L
      rw [me_b (k := 118) g3 hS rfl rfl, me_a (k := 117) g3 hS rfl rfl]
    have hO1 : tq_O h1 := by
      unfold tq_O
      rw [f2]
      intro k hk
      rw [me_b (k := 118) g3 hS rfl rfl, me_a (k := 117) g3 hS rfl rfl]
      exact hO k hk
    refine ⟨_, me_isNamer (d := d + 17) g1 hO1, fun w h2 ow hq => ?_⟩
    obtain ⟨e, hq⟩ := hq
    subst e
    rw [f2, eL] at hq
    rcases hq with ⟨rfl, hq⟩ | ⟨rfl, hq⟩
    · refine mt_seB g1 ok (mi_inT _) ⟨by omega, by omega⟩ ?_ ?_
      · intro c; omega
      · intro c
        refine ⟨by omega, fun h3 r1 r2 r3 => ?_⟩
        have F : ab_Fr [(13952, 13953), (20736, 20737)] h h3 := (g3.wide (fun c hc => ab_swr_ok (by decide) hc)).trans (r3.wide (fun c hc => ab_swr_ok (by decide) hc))
        refine ⟨r1, Or.inr ⟨c1, by omega, by rw [me_f (c := 13952) r3 g1 rfl rfl, g2], x, x1, Or.inl ⟨Or.inr ⟨by omega, hq⟩, rfl, F, fun i => ?_⟩⟩⟩
        rw [r2, me_b (k := 162) g3 hS rfl rfl]
    · refine mt_seB g1 ok (mi_inT _) ⟨by omega, by omega⟩ ?_ ?_
      · intro c h3 r1 r2
        have e := me_nil r2
        subst e
        refine ⟨g1, Or.inr ⟨c1, by omega, g2, x, x1, Or.inr ⟨?_, rfl, g3⟩⟩⟩
        rintro (⟨q, -⟩ | ⟨q, q2⟩)
        · omega
        · exact hq q2
      · intro c; omega
  · intro b c1 c2 c3 c4
    obtain ⟨b1, x, x1, x2⟩ := bo c1 c2 b.2
    refine ⟨by omega, fun h1 g1 g2 g3 => ⟨g1, Or.inr ⟨c1, by omega, g2, x, x1, Or.inr ⟨?_, rfl, g3⟩⟩⟩⟩
    rintro (⟨q, q1, q2⟩ | ⟨q, -⟩) <;> omega
  · intro b c1 c2 c3 c4 c5
    obtain ⟨b1, x, x1, x2⟩ := bo c1 c2 b.2
    refine ⟨by omega, fun h1 g1 g2 g3 => ⟨g1, Or.inr ⟨c1, by omega, g2, x, x1, Or.inr ⟨?_, rfl, g3⟩⟩⟩⟩
    rintro (⟨q, q1, q2⟩ | ⟨q, -⟩) <;> omega
  · intro b c1 c2 c3 c4 c5
    obtain ⟨b1, x, x1, x2⟩ := bo c1 c2 b.2
    exact ⟨by omega, fun h1 g1 g2 g3 g4 => ⟨g1, Or.inr ⟨c1, by omega, g2, x, x1, Or.inl ⟨Or.inl ⟨by omega, by omega, by omega⟩, rfl, g4, g3⟩⟩⟩⟩
  · intro b c1 c2 h1 g1 g2 g3
    exact ⟨g1, Or.inl ⟨Or.inr (by omega), g2, rfl, g3⟩⟩
end SETR
