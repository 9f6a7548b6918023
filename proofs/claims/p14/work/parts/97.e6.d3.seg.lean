/-! segments of the class: walkUnit, walkPart, walk, in parsing -/
set_option maxRecDepth 20000 in
theorem mp_kpyA_0 (h : sm_H) (d : Nat) (zp zd : Int) : mj_path [(131, (7, 0, sb_131)), (16, (3, 0, sb_16)), (49, (2, 1, sb_49)), (72, (2, 2, sb_72)), (143, (2, 1, sb_143))] sx_sk h 18 [1, 1, 0] (d + 15, 131, 0, [some (.inr (.inr 106)), some (.inl (zp)), some (.inl (zd)), none, none, none, none], [], [], []) = some ((d + 15, 131, 27, [some (.inr (.inr 106)), some (.inl (zp)), some (.inl (zd)), some (.inl ((0 : Int))), none, none, none], [.inl (zd), .inl (zp), .inr (.inr 106)], [], []), [zp < ((0 : Int)), (mi_f h 13571) = ((0 : Int)), ((0 : Int)) = ((0 : Int))]) := rfl
theorem mi_tab_kpyA_0 : ∀ e ∈ ([(131, (7, 0, sb_131)), (16, (3, 0, sb_16)), (49, (2, 1, sb_49)), (72, (2, 2, sb_72)), (143, (2, 1, sb_143))] : mi_T), sc_P e.1 = some e.2 := mi_tb mi_P131 (mi_tb mi_P16 (mi_tb mi_P49 (mi_tb mi_P72 (mi_tb mi_P143 (mi_tb_e)))))
set_option maxRecDepth 20000 in
theorem ms_kpyA_0 {h : sm_H} {d : Nat} {Q : Option mi_V → sm_H → Prop} {zp zd : Int} (hS : ab_Sh sx_sk h) (ok_zp : mi_in zp) (ok_zd : mi_in zd) (ho : (zp < ((0 : Int))) ∧ ((mi_f h 13571) = ((0 : Int))) ∧ (((0 : Int)) = ((0 : Int)))) (kon : ∀ h1, me_W [] h h1 → ∃ Q1, me_E (d + 14) 132 0 (mi_entry 4 [.inr (.inr 106), .inl (zp), .inl (zd)]) [] h1 Q1 ∧ ∀ w h2, (∀ x, w = some x → mi_ok x) → Q1 w h2 → me_E (d + 15) 131 30 [some (.inr (.inr 106)), some (.inl (zp)), some (.inl (zd)), some (.inl ((0 : Int))), none, none, none] (mi_back w []) h2 Q) : me_E (d + 15) 131 0 [some (.inr (.inr 106)), some (.inl (zp)), some (.inl (zd)), none, none, none, none] [] h Q := mf_seg (mp_kpyA_0 h d zp zd) (mi_tab_kpyA_0) hS (mi_okL_c (trivial) (mi_okL_c (ok_zp) (mi_okL_c (ok_zd) (mi_okL_n (mi_okL_n (mi_okL_n (mi_okL_n (mi_okL_e)))))))) (mi_okS_e) (mi_al (ho.1) (mi_al (ho.2.1) (mi_al (ho.2.2) (mi_al_e)))) (fun h1 W _ hst => let ⟨_, k1, k2⟩ := kon h1 W; mf_call (M := (7, 0, sb_131)) (M' := (4, 0, sb_132)) rfl rfl rfl rfl (Nat.le_of_ble_eq_true rfl) (Nat.le_of_ble_eq_true rfl) W.1 k1 k2)
set_option maxRecDepth 20000 in
theorem mp_kpyA_1 (h : sm_H) (d : Nat) (zp zd : Int) : mj_path [(131, (7, 0, sb_131)), (16, (3, 0, sb_16)), (49, (2, 1, sb_49)), (72, (2, 2, sb_72)), (143, (2, 1, sb_143))] sx_sk h 13 [1, 0] (d + 15, 131, 0, [some (.inr (.inr 106)), some (.inl (zp)), some (.inl (zd)), none, none, none, none], [], [], []) = some ((d + 15, 131, 19, [some (.inr (.inr 106)), some (.inl (zp)), some (.inl (zd)), some (.inl ((0 : Int))), none, none, none], [], [], []), [zp < ((0 : Int)), (mi_f h 13571) ≠ ((0 : Int))]) := rfl
theorem mi_tab_kpyA_1 : ∀ e ∈ ([(131, (7, 0, sb_131)), (16, (3, 0, sb_16)), (49, (2, 1, sb_49)), (72, (2, 2, sb_72)), (143, (2, 1, sb_143))] : mi_T), sc_P e.1 = some e.2 := mi_tb mi_P131 (mi_tb mi_P16 (mi_tb mi_P49 (mi_tb mi_P72 (mi_tb mi_P143 (mi_tb_e)))))
set_option maxRecDepth 20000 in
theorem ms_kpyA_1 {h : sm_H} {d : Nat} {Q : Option mi_V → sm_H → Prop} {zp zd : Int} (hS : ab_Sh sx_sk h) (ok_zp : mi_in zp) (ok_zd : mi_in zd) (ho : (zp < ((0 : Int))) ∧ ((mi_f h 13571) ≠ ((0 : Int)))) (kon : ∀ h1, me_W [] h h1 → Q none h1) : me_E (d + 15) 131 0 [some (.inr (.inr 106)), some (.inl (zp)), some (.inl (zd)), none, none, none, none] [] h Q := mf_seg (mp_kpyA_1 h d zp zd) (mi_tab_kpyA_1) hS (mi_okL_c (trivial) (mi_okL_c (ok_zp) (mi_okL_c (ok_zd) (mi_okL_n (mi_okL_n (mi_okL_n (mi_okL_n (mi_okL_e)))))))) (mi_okS_e) (mi_al (ho.1) (mi_al (ho.2) (mi_al_e))) (fun h1 W _ hst => mf_ret (M := (7, 0, sb_131)) rfl rfl rfl hst (mi_al_e) (kon h1 W))
set_option maxRecDepth 20000 in
theorem mp_kpyA_2 (h : sm_H) (d : Nat) (zp zd : Int) : mj_path [(131, (7, 0, sb_131)), (16, (3, 0, sb_16)), (49, (2, 1, sb_49)), (72, (2, 2, sb_72)), (143, (2, 1, sb_143))] sx_sk h 22 [0, 1, 1, 0] (d + 15, 131, 0, [some (.inr (.inr 106)), some (.inl (zp)), some (.inl (zd)), none, none, none, none], [], [], []) = some ((d + 15, 131, 27, [some (.inr (.inr 106)), some (.inl (zp)), some (.inl (zd)), some (.inl ((0 : Int))), none, none, none], [.inl (zd), .inl (zp), .inr (.inr 106)], [], []), [((0 : Int)) ≤ zp, ((60 : Int)) ≤ zp, (mi_f h 13571) = ((0 : Int)), ((0 : Int)) = ((0 : Int))]) := rfl
theorem mi_tab_kpyA_2 : ∀ e ∈ ([(131, (7, 0, sb_131)), (16, (3, 0, sb_16)), (49, (2, 1, sb_49)), (72, (2, 2, sb_72)), (143, (2, 1, sb_143))] : mi_T), sc_P e.1 = some e.2 := mi_tb mi_P131 (mi_tb mi_P16 (mi_tb mi_P49 (mi_tb mi_P72 (mi_tb mi_P143 (mi_tb_e)))))
set_option maxRecDepth 20000 in
theorem ms_kpyA_2 {h : sm_H} {d : Nat} {Q : Option mi_V → sm_H → Prop} {zp zd : Int} (hS : ab_Sh sx_sk h) (ok_zp : mi_in zp) (ok_zd : mi_in zd) (ho : (((0 : Int)) ≤ zp) ∧ (((60 : Int)) ≤ zp) ∧ ((mi_f h 13571) = ((0 : Int))) ∧ (((0 : Int)) = ((0 : Int)))) (kon : ∀ h1, me_W [] h h1 → ∃ Q1, me_E (d + 14) 132 0 (mi_entry 4 [.inr (.inr 106), .inl (zp), .inl (zd)]) [] h1 Q1 ∧ ∀ w h2, (∀ x, w = some x → mi_ok x) → Q1 w h2 → me_E (d + 15) 131 30 [some (.inr (.inr 106)), some (.inl (zp)), some (.inl (zd)), some (.inl ((0 : Int))), none, none, none] (mi_back w []) h2 Q) : me_E (d + 15) 131 0 [some (.inr (.inr 106)), some (.inl (zp)), some (.inl (zd)), none, none, none, none] [] h Q := mf_seg (mp_kpyA_2 h d zp zd) (mi_tab_kpyA_2) hS (mi_okL_c (trivial) (mi_okL_c (ok_zp) (mi_okL_c (ok_zd) (mi_okL_n (mi_okL_n (mi_okL_n (mi_okL_n (mi_okL_e)))))))) (mi_okS_e) (mi_al (ho.1) (mi_al (ho.2.1) (mi_al (ho.2.2.1) (mi_al (ho.2.2.2) (mi_al_e))))) (fun h1 W _ hst => let ⟨_, k1, k2⟩ := kon h1 W; mf_call (M := (7, 0, sb_131)) (M' := (4, 0, sb_132)) rfl rfl rfl rfl (Nat.le_of_ble_eq_true rfl) (Nat.le_of_ble_eq_true rfl) W.1 k1 k2)
set_option maxRecDepth 20000 in
theorem mp_kpyA_3 (h : sm_H) (d : Nat) (zp zd : Int) : mj_path [(131, (7, 0, sb_131)), (16, (3, 0, sb_16)), (49, (2, 1, sb_49)), (72, (2, 2, sb_72)), (143, (2, 1, sb_143))] sx_sk h 17 [0, 1, 0] (d + 15, 131, 0, [some (.inr (.inr 106)), some (.inl (zp)), some (.inl (zd)), none, none, none, none], [], [], []) = some ((d + 15, 131, 19, [some (.inr (.inr 106)), some (.inl (zp)), some (.inl (zd)), some (.inl ((0 : Int))), none, none, none], [], [], []), [((0 : Int)) ≤ zp, ((60 : Int)) ≤ zp, (mi_f h 13571) ≠ ((0 : Int))]) := rfl
theorem mi_tab_kpyA_3 : ∀ e ∈ ([(131, (7, 0, sb_131)), (16, (3, 0, sb_16)), (49, (2, 1, sb_49)), (72, (2, 2, sb_72)), (143, (2, 1, sb_143))] : mi_T), sc_P e.1 = some e.2 := mi_tb mi_P131 (mi_tb mi_P16 (mi_tb mi_P49 (mi_tb mi_P72 (mi_tb mi_P143 (mi_tb_e)))))
set_option maxRecDepth 20000 in
theorem ms_kpyA_3 {h : sm_H} {d : Nat} {Q : Option mi_V → sm_H → Prop} {zp zd : Int} (hS : ab_Sh sx_sk h) (ok_zp : mi_in zp) (ok_zd : mi_in zd) (ho : (((0 : Int)) ≤ zp) ∧ (((60 : Int)) ≤ zp) ∧ ((mi_f h 13571) ≠ ((0 : Int)))) (kon : ∀ h1, me_W [] h h1 → Q none h1) : me_E (d + 15) 131 0 [some (.inr (.inr 106)), some (.inl (zp)), some (.inl (zd)), none, none, none, none] [] h Q := mf_seg (mp_kpyA_3 h d zp zd) (mi_tab_kpyA_3) hS (mi_okL_c (trivial) (mi_okL_c (ok_zp) (mi_okL_c (ok_zd) (mi_okL_n (mi_okL_n (mi_okL_n (mi_okL_n (mi_okL_e)))))))) (mi_okS_e) (mi_al (ho.1) (mi_al (ho.2.1) (mi_al (ho.2.2) (mi_al_e)))) (fun h1 W _ hst => mf_ret (M := (7, 0, sb_131)) rfl rfl rfl hst (mi_al_e) (kon h1 W))
set_option maxRecDepth 20000 in
theorem mp_kpyA_4 (h : sm_H) (d : Nat) (zp zd : Int) : mj_path [(131, (7, 0, sb_131)), (16, (3, 0, sb_16)), (49, (2, 1, sb_49)), (72, (2, 2, sb_72)), (143, (2, 1, sb_143))] sx_sk h 29 [0, 0, 1, 1] (d + 15, 131, 0, [some (.inr (.inr 106)), some (.inl (zp)), some (.inl (zd)), none, none, none, none], [], [], []) = some ((d + 15, 131, 38, [some (.inr (.inr 106)), some (.inl (zp)), some (.inl (zd)), some (.inl (mi_a h 72 (Int.toNat zp))), none, none, none], [.inl ((0 : Int)), .inl (mi_a h 72 (Int.toNat zp)), .inr (.inr 106)], [], []), [((0 : Int)) ≤ zp, zp < ((60 : Int)), 0 ≤ zp ∧ zp < 60, (mi_f h 13571) = ((0 : Int)), (mi_a h 72 (Int.toNat zp)) ≠ ((0 : Int))]) := rfl
theorem mi_tab_kpyA_4 : ∀ e ∈ ([(131, (7, 0, sb_131)), (16, (3, 0, sb_16)), (49, (2, 1, sb_49)), (72, (2, 2, sb_72)), (143, (2, 1, sb_143))] : mi_T), sc_P e.1 = some e.2 := mi_tb mi_P131 (mi_tb mi_P16 (mi_tb mi_P49 (mi_tb mi_P72 (mi_tb mi_P143 (mi_tb_e)))))
set_option maxRecDepth 20000 in
theorem ms_kpyA_4 {h : sm_H} {d : Nat} {Q : Option mi_V → sm_H → Prop} {zp zd : Int} (hS : ab_Sh sx_sk h) (ok_zp : mi_in zp) (ok_zd : mi_in zd) (ho : (((0 : Int)) ≤ zp) ∧ (zp < ((60 : Int))) ∧ (0 ≤ zp ∧ zp < 60) ∧ ((mi_f h 13571) = ((0 : Int))) ∧ ((mi_a h 72 (Int.toNat zp)) ≠ ((0 : Int)))) (kon : ∀ h1, me_W [] h h1 → ∃ Q1, me_E (d + 14) 116 0 (mi_entry 4 [.inr (.inr 106), .inl (mi_a h 72 (Int.toNat zp)), .inl ((0 : Int))]) [] h1 Q1 ∧ ∀ w h2, (∀ x, w = some x → mi_ok x) → Q1 w h2 → me_E (d + 15) 131 41 [some (.inr (.inr 106)), some (.inl (zp)), some (.inl (zd)), some (.inl (mi_a h 72 (Int.toNat zp))), none, none, none] (mi_back w []) h2 Q) : me_E (d + 15) 131 0 [some (.inr (.inr 106)), some (.inl (zp)), some (.inl (zd)), none, none, none, none] [] h Q := mf_seg (mp_kpyA_4 h d zp zd) (mi_tab_kpyA_4) hS (mi_okL_c (trivial) (mi_okL_c (ok_zp) (mi_okL_c (ok_zd) (mi_okL_n (mi_okL_n (mi_okL_n (mi_okL_n (mi_okL_e)))))))) (mi_okS_e) (mi_al (ho.1) (mi_al (ho.2.1) (mi_al (ho.2.2.1) (mi_al (ho.2.2.2.1) (mi_al (ho.2.2.2.2) (mi_al_e)))))) (fun h1 W _ hst => let ⟨_, k1, k2⟩ := kon h1 W; mf_call (M := (7, 0, sb_131)) (M' := (4, 1, sb_116)) rfl rfl rfl rfl (Nat.le_of_ble_eq_true rfl) (Nat.le_of_ble_eq_true rfl) W.1 k1 k2)
set_option maxRecDepth 20000 in
theorem mp_kpyA_5 (h : sm_H) (d : Nat) (zp zd : Int) : mj_path [(131, (7, 0, sb_131)), (16, (3, 0, sb_16)), (49, (2, 1, sb_49)), (72, (2, 2, sb_72)), (143, (2, 1, sb_143))] sx_sk h 25 [0, 0, 1, 0] (d + 15, 131, 0, [some (.inr (.inr 106)), some (.inl (zp)), some (.inl (zd)), none, none, none, none], [], [], []) = some ((d + 15, 131, 27, [some (.inr (.inr 106)), some (.inl (zp)), some (.inl (zd)), some (.inl (mi_a h 72 (Int.toNat zp))), none, none, none], [.inl (zd), .inl (zp), .inr (.inr 106)], [], []), [((0 : Int)) ≤ zp, zp < ((60 : Int)), 0 ≤ zp ∧ zp < 60, (mi_f h 13571) = ((0 : Int)), (mi_a h 72 (Int.toNat zp)) = ((0 : Int))]) := rfl
theorem mi_tab_kpyA_5 : ∀ e ∈ ([(131, (7, 0, sb_131)), (16, (3, 0, sb_16)), (49, (2, 1, sb_49)), (72, (2, 2, sb_72)), (143, (2, 1, sb_143))] : mi_T), sc_P e.1 = some e.2 := mi_tb mi_P131 (mi_tb mi_P16 (mi_tb mi_P49 (mi_tb mi_P72 (mi_tb mi_P143 (mi_tb_e)))))
set_option maxRecDepth 20000 in
theorem ms_kpyA_5 {h : sm_H} {d : Nat} {Q : Option mi_V → sm_H → Prop} {zp zd : Int} (hS : ab_Sh sx_sk h) (ok_zp : mi_in zp) (ok_zd : mi_in zd) (ho : (((0 : Int)) ≤ zp) ∧ (zp < ((60 : Int))) ∧ (0 ≤ zp ∧ zp < 60) ∧ ((mi_f h 13571) = ((0 : Int))) ∧ ((mi_a h 72 (Int.toNat zp)) = ((0 : Int)))) (kon : ∀ h1, me_W [] h h1 → ∃ Q1, me_E (d + 14) 132 0 (mi_entry 4 [.inr (.inr 106), .inl (zp), .inl (zd)]) [] h1 Q1 ∧ ∀ w h2, (∀ x, w = some x → mi_ok x) → Q1 w h2 → me_E (d + 15) 131 30 [some (.inr (.inr 106)), some (.inl (zp)), some (.inl (zd)), some (.inl (mi_a h 72 (Int.toNat zp))), none, none, none] (mi_back w []) h2 Q) : me_E (d + 15) 131 0 [some (.inr (.inr 106)), some (.inl (zp)), some (.inl (zd)), none, none, none, none] [] h Q := mf_seg (mp_kpyA_5 h d zp zd) (mi_tab_kpyA_5) hS (mi_okL_c (trivial) (mi_okL_c (ok_zp) (mi_okL_c (ok_zd) (mi_okL_n (mi_okL_n (mi_okL_n (mi_okL_n (mi_okL_e)))))))) (mi_okS_e) (mi_al (ho.1) (mi_al (ho.2.1) (mi_al (ho.2.2.1) (mi_al (ho.2.2.2.1) (mi_al (ho.2.2.2.2) (mi_al_e)))))) (fun h1 W _ hst => let ⟨_, k1, k2⟩ := kon h1 W; mf_call (M := (7, 0, sb_131)) (M' := (4, 0, sb_132)) rfl rfl rfl rfl (Nat.le_of_ble_eq_true rfl) (Nat.le_of_ble_eq_true rfl) W.1 k1 k2)
set_option maxRecDepth 20000 in
theorem mp_kpyA_6 (h : sm_H) (d : Nat) (zp zd : Int) : mj_path [(131, (7, 0, sb_131)), (16, (3, 0, sb_16)), (49, (2, 1, sb_49)), (72, (2, 2, sb_72)), (143, (2, 1, sb_143))] sx_sk h 20 [0, 0, 0] (d + 15, 131, 0, [some (.inr (.inr 106)), some (.inl (zp)), some (.inl (zd)), none, none, none, none], [], [], []) = some ((d + 15, 131, 19, [some (.inr (.inr 106)), some (.inl (zp)), some (.inl (zd)), some (.inl (mi_a h 72 (Int.toNat zp))), none, none, none], [], [], []), [((0 : Int)) ≤ zp, zp < ((60 : Int)), 0 ≤ zp ∧ zp < 60, (mi_f h 13571) ≠ ((0 : Int))]) := rfl
theorem mi_tab_kpyA_6 : ∀ e ∈ ([(131, (7, 0, sb_131)), (16, (3, 0, sb_16)), (49, (2, 1, sb_49)), (72, (2, 2, sb_72)), (143, (2, 1, sb_143))] : mi_T), sc_P e.1 = some e.2 := mi_tb mi_P131 (mi_tb mi_P16 (mi_tb mi_P49 (mi_tb mi_P72 (mi_tb mi_P143 (mi_tb_e)))))
set_option maxRecDepth 20000 in
theorem ms_kpyA_6 {h : sm_H} {d : Nat} {Q : Option mi_V → sm_H → Prop} {zp zd : Int} (hS : ab_Sh sx_sk h) (ok_zp : mi_in zp) (ok_zd : mi_in zd) (ho : (((0 : Int)) ≤ zp) ∧ (zp < ((60 : Int))) ∧ (0 ≤ zp ∧ zp < 60) ∧ ((mi_f h 13571) ≠ ((0 : Int)))) (kon : ∀ h1, me_W [] h h1 → Q none h1) : me_E (d + 15) 131 0 [some (.inr (.inr 106)), some (.inl (zp)), some (.inl (zd)), none, none, none, none] [] h Q := mf_seg (mp_kpyA_6 h d zp zd) (mi_tab_kpyA_6) hS (mi_okL_c (trivial) (mi_okL_c (ok_zp) (mi_okL_c (ok_zd) (mi_okL_n (mi_okL_n (mi_okL_n (mi_okL_n (mi_okL_e)))))))) (mi_okS_e) (mi_al (ho.1) (mi_al (ho.2.1) (mi_al (ho.2.2.1) (mi_al (ho.2.2.2) (mi_al_e))))) (fun h1 W _ hst => mf_ret (M := (7, 0, sb_131)) rfl rfl rfl hst (mi_al_e) (kon h1 W))
set_option maxRecDepth 20000 in
theorem mt_kpyA {h : sm_H} {d : Nat} {Q : Option mi_V → sm_H → Prop} {zp zd : Int} (hS : ab_Sh sx_sk h) (ok_zp : mi_in zp) (ok_zd : mi_in zd) (k0 : (0 ≤ mi_f h 13571 ∧ mi_f h 13571 ≤ 1) → (zp < ((0 : Int))) → ((mi_f h 13571) = ((0 : Int))) → (∀ h1, ab_Sh sx_sk h1 → ab_Fr [] h h1 → ∃ Q1, me_E (d + 14) 132 0 (mi_entry 4 [.inr (.inr 106), .inl (zp), .inl (zd)]) [] h1 Q1 ∧ ∀ w h2, (∀ x, w = some x → mi_ok x) → Q1 w h2 → me_E (d + 15) 131 30 [some (.inr (.inr 106)), some (.inl (zp)), some (.inl (zd)), some (.inl ((0 : Int))), none, none, none] (mi_back w []) h2 Q)) (k1 : (0 ≤ mi_f h 13571 ∧ mi_f h 13571 ≤ 1) → (zp < ((0 : Int))) → ((mi_f h 13571) ≠ ((0 : Int))) → (∀ h1, ab_Sh sx_sk h1 → ab_Fr [] h h1 → Q none h1)) (k2 : (0 ≤ mi_f h 13571 ∧ mi_f h 13571 ≤ 1) → (((0 : Int)) ≤ zp) → (((60 : Int)) ≤ zp) → ((mi_f h 13571) = ((0 : Int))) → (∀ h1, ab_Sh sx_sk h1 → ab_Fr [] h h1 → ∃ Q1, me_E (d + 14) 132 0 (mi_entry 4 [.inr (.inr 106), .inl (zp), .inl (zd)]) [] h1 Q1 ∧ ∀ w h2, (∀ x, w = some x → mi_ok x) → Q1 w h2 → me_E (d + 15) 131 30 [some (.inr (.inr 106)), some (.inl (zp)), some (.inl (zd)), some (.inl ((0 : Int))), none, none, none] (mi_back w []) h2 Q)) (k3 : (0 ≤ mi_f h 13571 ∧ mi_f h 13571 ≤ 1) → (((0 : Int)) ≤ zp) → (((60 : Int)) ≤ zp) → ((mi_f h 13571) ≠ ((0 : Int))) → (∀ h1, ab_Sh sx_sk h1 → ab_Fr [] h h1 → Q none h1)) (k4 : (0 ≤ mi_f h 13571 ∧ mi_f h 13571 ≤ 1) → (((0 : Int)) ≤ zp) → (zp < ((60 : Int))) → ((mi_f h 13571) = ((0 : Int))) → ((mi_a h 72 (Int.toNat zp)) ≠ ((0 : Int))) → ((0 ≤ zp ∧ zp < 60)) ∧ (∀ h1, ab_Sh sx_sk h1 → ab_Fr [] h h1 → ∃ Q1, me_E (d + 14) 116 0 (mi_entry 4 [.inr (.inr 106), .inl (mi_a h 72 (Int.toNat zp)), .inl ((0 : Int))]) [] h1 Q1 ∧ ∀ w h2, (∀ x, w = some x → mi_ok x) → Q1 w h2 → me_E (d + 15) 131 41 [some (.inr (.inr 106)), some (.inl (zp)), some (.inl (zd)), some (.inl (mi_a h 72 (Int.toNat zp))), none, none, none] (mi_back w []) h2 Q)) (k5 : (0 ≤ mi_f h 13571 ∧ mi_f h 13571 ≤ 1) → (((0 : Int)) ≤ zp) → (zp < ((60 : Int))) → ((mi_f h 13571) = ((0 : Int))) → ((mi_a h 72 (Int.toNat zp)) = ((0 : Int))) → ((0 ≤ zp ∧ zp < 60)) ∧ (∀ h1, ab_Sh sx_sk h1 → ab_Fr [] h h1 → ∃ Q1, me_E (d + 14) 132 0 (mi_entry 4 [.inr (.inr 106), .inl (zp), .inl (zd)]) [] h1 Q1 ∧ ∀ w h2, (∀ x, w = some x → mi_ok x) → Q1 w h2 → me_E (d + 15) 131 30 [some (.inr (.inr 106)), some (.inl (zp)), some (.inl (zd)), some (.inl (mi_a h 72 (Int.toNat zp))), none, none, none] (mi_back w []) h2 Q)) (k6 : (0 ≤ mi_f h 13571 ∧ mi_f h 13571 ≤ 1) → (((0 : Int)) ≤ zp) → (zp < ((60 : Int))) → ((mi_f h 13571) ≠ ((0 : Int))) → ((0 ≤ zp ∧ zp < 60)) ∧ (∀ h1, ab_Sh sx_sk h1 → ab_Fr [] h h1 → Q none h1)) : me_E (d + 15) 131 0 [some (.inr (.inr 106)), some (.inl (zp)), some (.inl (zd)), none, none, none, none] [] h Q := Or.elim (mi_em .lt (zp) (((0 : Int)))) (fun c0 => Or.elim (mi_em .eq ((mi_f h 13571)) (((0 : Int)))) (fun c1 => ms_kpyA_0 hS ok_zp ok_zd ⟨c0, c1, (by decide)⟩ (fun h1 W => (k0 (me_fb hS rfl) c0 c1) h1 W.1 (W.2.2.2.2.2 _ rfl))) (fun c1 => ms_kpyA_1 hS ok_zp ok_zd ⟨c0, c1⟩ (fun h1 W => (k1 (me_fb hS rfl) c0 c1) h1 W.1 (W.2.2.2.2.2 _ rfl)))) (fun c0 => Or.elim (mi_em .ge (zp) (((60 : Int)))) (fun c1 => Or.elim (mi_em .eq ((mi_f h 13571)) (((0 : Int)))) (fun c2 => ms_kpyA_2 hS ok_zp ok_zd ⟨c0, c1, c2, (by decide)⟩ (fun h1 W => (k2 (me_fb hS rfl) c0 c1 c2) h1 W.1 (W.2.2.2.2.2 _ rfl))) (fun c2 => ms_kpyA_3 hS ok_zp ok_zd ⟨c0, c1, c2⟩ (fun h1 W => (k3 (me_fb hS rfl) c0 c1 c2) h1 W.1 (W.2.2.2.2.2 _ rfl)))) (fun c1 => Or.elim (mi_em .eq ((mi_f h 13571)) (((0 : Int)))) (fun c2 => Or.elim (mi_em .ne ((mi_a h 72 (Int.toNat zp))) (((0 : Int)))) (fun c3 => ms_kpyA_4 hS ok_zp ok_zd ⟨c0, c1, (k4 (me_fb hS rfl) c0 c1 c2 c3).1, c2, c3⟩ (fun h1 W => (k4 (me_fb hS rfl) c0 c1 c2 c3).2 h1 W.1 (W.2.2.2.2.2 _ rfl))) (fun c3 => ms_kpyA_5 hS ok_zp ok_zd ⟨c0, c1, (k5 (me_fb hS rfl) c0 c1 c2 c3).1, c2, c3⟩ (fun h1 W => (k5 (me_fb hS rfl) c0 c1 c2 c3).2 h1 W.1 (W.2.2.2.2.2 _ rfl)))) (fun c2 => ms_kpyA_6 hS ok_zp ok_zd ⟨c0, c1, (k6 (me_fb hS rfl) c0 c1 c2).1, c2⟩ (fun h1 W => (k6 (me_fb hS rfl) c0 c1 c2).2 h1 W.1 (W.2.2.2.2.2 _ rfl)))))
set_option maxRecDepth 20000 in
theorem mp_kpyB_0 (h : sm_H) (d : Nat) (zp zd zr : Int) : mj_path [(131, (7, 0, sb_131))] sx_sk h 0 [] (d + 15, 131, 30, [some (.inr (.inr 106)), some (.inl (zp)), some (.inl (zd)), some (.inl (zr)), none, none, none], [], [], []) = some ((d + 15, 131, 30, [some (.inr (.inr 106)), some (.inl (zp)), some (.inl (zd)), some (.inl (zr)), none, none, none], [], [], []), []) := rfl
theorem mi_tab_kpyB_0 : ∀ e ∈ ([(131, (7, 0, sb_131))] : mi_T), sc_P e.1 = some e.2 := mi_tb mi_P131 (mi_tb_e)
set_option maxRecDepth 20000 in
theorem ms_kpyB_0 {h : sm_H} {d : Nat} {Q : Option mi_V → sm_H → Prop} {zp zd zr : Int} (hS : ab_Sh sx_sk h) (ok_zp : mi_in zp) (ok_zd : mi_in zd) (ok_zr : mi_in zr) (kon : ∀ h1, me_W [] h h1 → Q none h1) : me_E (d + 15) 131 30 [some (.inr (.inr 106)), some (.inl (zp)), some (.inl (zd)), some (.inl (zr)), none, none, none] [] h Q := mf_seg (mp_kpyB_0 h d zp zd zr) (mi_tab_kpyB_0) hS (mi_okL_c (trivial) (mi_okL_c (ok_zp) (mi_okL_c (ok_zd) (mi_okL_c (ok_zr) (mi_okL_n (mi_okL_n (mi_okL_n (mi_okL_e)))))))) (mi_okS_e) (mi_al_e) (fun h1 W _ hst => mf_ret (M := (7, 0, sb_131)) rfl rfl rfl hst (mi_al_e) (kon h1 W))
set_option maxRecDepth 20000 in
theorem mt_kpyB {h : sm_H} {d : Nat} {Q : Option mi_V → sm_H → Prop} {zp zd zr : Int} (hS : ab_Sh sx_sk h) (ok_zp : mi_in zp) (ok_zd : mi_in zd) (ok_zr : mi_in zr) (k0 : (∀ h1, ab_Sh sx_sk h1 → ab_Fr [] h h1 → Q none h1)) : me_E (d + 15) 131 30 [some (.inr (.inr 106)), some (.inl (zp)), some (.inl (zd)), some (.inl (zr)), none, none, none] [] h Q := ms_kpyB_0 hS ok_zp ok_zd ok_zr (fun h1 W => (k0) h1 W.1 (W.2.2.2.2.2 _ rfl))
set_option maxRecDepth 20000 in
theorem mp_kpyD_0 (h : sm_H) (d : Nat) (zp zd zr zz : Int) : mj_path [(131, (7, 0, sb_131))] sx_sk h 8 [1] (d + 15, 131, 41, [some (.inr (.inr 106)), some (.inl (zp)), some (.inl (zd)), some (.inl (zr)), none, none, none], [.inl (zz)], [], []) = some ((d + 15, 131, 60, [some (.inr (.inr 106)), some (.inl (zp)), some (.inl (zd)), some (.inl (zr)), some (.inl (zz)), some (.inl ((1 : Int))), some (.inl ((0 : Int)))], [], [], []), [zr ≠ ((5 : Int))]) := rfl
theorem mi_tab_kpyD_0 : ∀ e ∈ ([(131, (7, 0, sb_131))] : mi_T), sc_P e.1 = some e.2 := mi_tb mi_P131 (mi_tb_e)
set_option maxRecDepth 20000 in
theorem ms_kpyD_0 {h : sm_H} {d : Nat} {Q : Option mi_V → sm_H → Prop} {zp zd zr zz : Int} (hS : ab_Sh sx_sk h) (ok_zp : mi_in zp) (ok_zd : mi_in zd) (ok_zr : mi_in zr) (ok_zz : mi_in zz) (ho : (zr ≠ ((5 : Int)))) (kon : ∀ h1, me_W [] h h1 → me_E (d + 15) 131 60 [some (.inr (.inr 106)), some (.inl (zp)), some (.inl (zd)), some (.inl (zr)), some (.inl (zz)), some (.inl ((1 : Int))), some (.inl ((0 : Int)))] [] h1 Q) : me_E (d + 15) 131 41 [some (.inr (.inr 106)), some (.inl (zp)), some (.inl (zd)), some (.inl (zr)), none, none, none] [.inl (zz)] h Q := mf_seg (mp_kpyD_0 h d zp zd zr zz) (mi_tab_kpyD_0) hS (mi_okL_c (trivial) (mi_okL_c (ok_zp) (mi_okL_c (ok_zd) (mi_okL_c (ok_zr) (mi_okL_n (mi_okL_n (mi_okL_n (mi_okL_e)))))))) (mi_okS_cons (ok_zz) (mi_okS_e)) (mi_al (ho) (mi_al_e)) (fun h1 W _ hst => kon h1 W)
set_option maxRecDepth 20000 in
theorem mp_kpyD_1 (h : sm_H) (d : Nat) (zp zd zr zz : Int) : mj_path [(131, (7, 0, sb_131))] sx_sk h 9 [0] (d + 15, 131, 41, [some (.inr (.inr 106)), some (.inl (zp)), some (.inl (zd)), some (.inl (zr)), none, none, none], [.inl (zz)], [], []) = some ((d + 15, 131, 60, [some (.inr (.inr 106)), some (.inl (zp)), some (.inl (zd)), some (.inl (zr)), some (.inl (zz)), some (.inl ((161 : Int))), some (.inl ((0 : Int)))], [], [], []), [zr = ((5 : Int))]) := rfl
theorem mi_tab_kpyD_1 : ∀ e ∈ ([(131, (7, 0, sb_131))] : mi_T), sc_P e.1 = some e.2 := mi_tb mi_P131 (mi_tb_e)
set_option maxRecDepth 20000 in
theorem ms_kpyD_1 {h : sm_H} {d : Nat} {Q : Option mi_V → sm_H → Prop} {zp zd zr zz : Int} (hS : ab_Sh sx_sk h) (ok_zp : mi_in zp) (ok_zd : mi_in zd) (ok_zr : mi_in zr) (ok_zz : mi_in zz) (ho : (zr = ((5 : Int)))) (kon : ∀ h1, me_W [] h h1 → me_E (d + 15) 131 60 [some (.inr (.inr 106)), some (.inl (zp)), some (.inl (zd)), some (.inl (zr)), some (.inl (zz)), some (.inl ((161 : Int))), some (.inl ((0 : Int)))] [] h1 Q) : me_E (d + 15) 131 41 [some (.inr (.inr 106)), some (.inl (zp)), some (.inl (zd)), some (.inl (zr)), none, none, none] [.inl (zz)] h Q := mf_seg (mp_kpyD_1 h d zp zd zr zz) (mi_tab_kpyD_1) hS (mi_okL_c (trivial) (mi_okL_c (ok_zp) (mi_okL_c (ok_zd) (mi_okL_c (ok_zr) (mi_okL_n (mi_okL_n (mi_okL_n (mi_okL_e)))))))) (mi_okS_cons (ok_zz) (mi_okS_e)) (mi_al (ho) (mi_al_e)) (fun h1 W _ hst => kon h1 W)
set_option maxRecDepth 20000 in
theorem mt_kpyD {h : sm_H} {d : Nat} {Q : Option mi_V → sm_H → Prop} {zp zd zr zz : Int} (hS : ab_Sh sx_sk h) (ok_zp : mi_in zp) (ok_zd : mi_in zd) (ok_zr : mi_in zr) (ok_zz : mi_in zz) (k0 : (zr ≠ ((5 : Int))) → (∀ h1, ab_Sh sx_sk h1 → ab_Fr [] h h1 → me_E (d + 15) 131 60 [some (.inr (.inr 106)), some (.inl (zp)), some (.inl (zd)), some (.inl (zr)), some (.inl (zz)), some (.inl ((1 : Int))), some (.inl ((0 : Int)))] [] h1 Q)) (k1 : (zr = ((5 : Int))) → (∀ h1, ab_Sh sx_sk h1 → ab_Fr [] h h1 → me_E (d + 15) 131 60 [some (.inr (.inr 106)), some (.inl (zp)), some (.inl (zd)), some (.inl (zr)), some (.inl (zz)), some (.inl ((161 : Int))), some (.inl ((0 : Int)))] [] h1 Q)) : me_E (d + 15) 131 41 [some (.inr (.inr 106)), some (.inl (zp)), some (.inl (zd)), some (.inl (zr)), none, none, none] [.inl (zz)] h Q := Or.elim (mi_em .ne (zr) (((5 : Int)))) (fun c0 => ms_kpyD_0 hS ok_zp ok_zd ok_zr ok_zz (c0) (fun h1 W => (k0 c0) h1 W.1 (W.2.2.2.2.2 _ rfl))) (fun c0 => ms_kpyD_1 hS ok_zp ok_zd ok_zr ok_zz (c0) (fun h1 W => (k1 c0) h1 W.1 (W.2.2.2.2.2 _ rfl)))
set_option maxRecDepth 20000 in
theorem mp_kpyE_0 (h : sm_H) (d : Nat) (zp zd zr zo zm zt : Int) : mj_path [(131, (7, 0, sb_131))] sx_sk h 3 [1] (d + 15, 131, 60, [some (.inr (.inr 106)), some (.inl (zp)), some (.inl (zd)), some (.inl (zr)), some (.inl (zo)), some (.inl (zm)), some (.inl (zt))], [], [], []) = some ((d + 15, 131, 98, [some (.inr (.inr 106)), some (.inl (zp)), some (.inl (zd)), some (.inl (zr)), some (.inl (zo)), some (.inl (zm)), some (.inl (zt))], [], [], []), [(mi_f h 13571) ≠ ((0 : Int))]) := rfl
theorem mi_tab_kpyE_0 : ∀ e ∈ ([(131, (7, 0, sb_131))] : mi_T), sc_P e.1 = some e.2 := mi_tb mi_P131 (mi_tb_e)
set_option maxRecDepth 20000 in
theorem ms_kpyE_0 {h : sm_H} {d : Nat} {Q : Option mi_V → sm_H → Prop} {zp zd zr zo zm zt : Int} (hS : ab_Sh sx_sk h) (ok_zp : mi_in zp) (ok_zd : mi_in zd) (ok_zr : mi_in zr) (ok_zo : mi_in zo) (ok_zm : mi_in zm) (ok_zt : mi_in zt) (ho : ((mi_f h 13571) ≠ ((0 : Int)))) (kon : ∀ h1, me_W [] h h1 → me_E (d + 15) 131 98 [some (.inr (.inr 106)), some (.inl (zp)), some (.inl (zd)), some (.inl (zr)), some (.inl (zo)), some (.inl (zm)), some (.inl (zt))] [] h1 Q) : me_E (d + 15) 131 60 [some (.inr (.inr 106)), some (.inl (zp)), some (.inl (zd)), some (.inl (zr)), some (.inl (zo)), some (.inl (zm)), some (.inl (zt))] [] h Q := mf_seg (mp_kpyE_0 h d zp zd zr zo zm zt) (mi_tab_kpyE_0) hS (mi_okL_c (trivial) (mi_okL_c (ok_zp) (mi_okL_c (ok_zd) (mi_okL_c (ok_zr) (mi_okL_c (ok_zo) (mi_okL_c (ok_zm) (mi_okL_c (ok_zt) (mi_okL_e)))))))) (mi_okS_e) (mi_al (ho) (mi_al_e)) (fun h1 W _ hst => kon h1 W)
set_option maxRecDepth 20000 in
theorem mp_kpyE_1 (h : sm_H) (d : Nat) (zp zd zr zo zm zt : Int) : mj_path [(131, (7, 0, sb_131))] sx_sk h 6 [0, 1] (d + 15, 131, 60, [some (.inr (.inr 106)), some (.inl (zp)), some (.inl (zd)), some (.inl (zr)), some (.inl (zo)), some (.inl (zm)), some (.inl (zt))], [], [], []) = some ((d + 15, 131, 98, [some (.inr (.inr 106)), some (.inl (zp)), some (.inl (zd)), some (.inl (zr)), some (.inl (zo)), some (.inl (zm)), some (.inl (zt))], [], [], []), [(mi_f h 13571) = ((0 : Int)), zm ≤ zt]) := rfl
theorem mi_tab_kpyE_1 : ∀ e ∈ ([(131, (7, 0, sb_131))] : mi_T), sc_P e.1 = some e.2 := mi_tb mi_P131 (mi_tb_e)
set_option maxRecDepth 20000 in
theorem ms_kpyE_1 {h : sm_H} {d : Nat} {Q : Option mi_V → sm_H → Prop} {zp zd zr zo zm zt : Int} (hS : ab_Sh sx_sk h) (ok_zp : mi_in zp) (ok_zd : mi_in zd) (ok_zr : mi_in zr) (ok_zo : mi_in zo) (ok_zm : mi_in zm) (ok_zt : mi_in zt) (ho : ((mi_f h 13571) = ((0 : Int))) ∧ (zm ≤ zt)) (kon : ∀ h1, me_W [] h h1 → me_E (d + 15) 131 98 [some (.inr (.inr 106)), some (.inl (zp)), some (.inl (zd)), some (.inl (zr)), some (.inl (zo)), some (.inl (zm)), some (.inl (zt))] [] h1 Q) : me_E (d + 15) 131 60 [some (.inr (.inr 106)), some (.inl (zp)), some (.inl (zd)), some (.inl (zr)), some (.inl (zo)), some (.inl (zm)), some (.inl (zt))] [] h Q := mf_seg (mp_kpyE_1 h d zp zd zr zo zm zt) (mi_tab_kpyE_1) hS (mi_okL_c (trivial) (mi_okL_c (ok_zp) (mi_okL_c (ok_zd) (mi_okL_c (ok_zr) (mi_okL_c (ok_zo) (mi_okL_c (ok_zm) (mi_okL_c (ok_zt) (mi_okL_e)))))))) (mi_okS_e) (mi_al (ho.1) (mi_al (ho.2) (mi_al_e))) (fun h1 W _ hst => kon h1 W)
set_option maxRecDepth 20000 in
theorem mp_kpyE_2 (h : sm_H) (d : Nat) (zp zd zr zo zm zt : Int) : mj_path [(131, (7, 0, sb_131))] sx_sk h 10 [0, 0] (d + 15, 131, 60, [some (.inr (.inr 106)), some (.inl (zp)), some (.inl (zd)), some (.inl (zr)), some (.inl (zo)), some (.inl (zm)), some (.inl (zt))], [], [], []) = some ((d + 15, 131, 80, [some (.inr (.inr 106)), some (.inl (zp)), some (.inl (zd)), some (.inl (zr)), some (.inl (zo)), some (.inl (zm)), some (.inl (zt))], [.inl (zt), .inl (zo), .inl (zp), .inr (.inr 106)], [], []), [(mi_f h 13571) = ((0 : Int)), zt < zm]) := rfl
theorem mi_tab_kpyE_2 : ∀ e ∈ ([(131, (7, 0, sb_131))] : mi_T), sc_P e.1 = some e.2 := mi_tb mi_P131 (mi_tb_e)
set_option maxRecDepth 20000 in
theorem ms_kpyE_2 {h : sm_H} {d : Nat} {Q : Option mi_V → sm_H → Prop} {zp zd zr zo zm zt : Int} (hS : ab_Sh sx_sk h) (ok_zp : mi_in zp) (ok_zd : mi_in zd) (ok_zr : mi_in zr) (ok_zo : mi_in zo) (ok_zm : mi_in zm) (ok_zt : mi_in zt) (ho : ((mi_f h 13571) = ((0 : Int))) ∧ (zt < zm)) (kon : ∀ h1, me_W [] h h1 → ∃ Q1, me_E (d + 14) 144 0 (mi_entry 5 [.inr (.inr 106), .inl (zp), .inl (zo), .inl (zt)]) [] h1 Q1 ∧ ∀ w h2, (∀ x, w = some x → mi_ok x) → Q1 w h2 → me_E (d + 15) 131 83 [some (.inr (.inr 106)), some (.inl (zp)), some (.inl (zd)), some (.inl (zr)), some (.inl (zo)), some (.inl (zm)), some (.inl (zt))] (mi_back w []) h2 Q) : me_E (d + 15) 131 60 [some (.inr (.inr 106)), some (.inl (zp)), some (.inl (zd)), some (.inl (zr)), some (.inl (zo)), some (.inl (zm)), some (.inl (zt))] [] h Q := mf_seg (mp_kpyE_2 h d zp zd zr zo zm zt) (mi_tab_kpyE_2) hS (mi_okL_c (trivial) (mi_okL_c (ok_zp) (mi_okL_c (ok_zd) (mi_okL_c (ok_zr) (mi_okL_c (ok_zo) (mi_okL_c (ok_zm) (mi_okL_c (ok_zt) (mi_okL_e)))))))) (mi_okS_e) (mi_al (ho.1) (mi_al (ho.2) (mi_al_e))) (fun h1 W _ hst => let ⟨_, k1, k2⟩ := kon h1 W; mf_call (M := (7, 0, sb_131)) (M' := (5, 4, sb_144)) rfl rfl rfl rfl (Nat.le_of_ble_eq_true rfl) (Nat.le_of_ble_eq_true rfl) W.1 k1 k2)
set_option maxRecDepth 20000 in
theorem mt_kpyE {h : sm_H} {d : Nat} {Q : Option mi_V → sm_H → Prop} {zp zd zr zo zm zt : Int} (hS : ab_Sh sx_sk h) (ok_zp : mi_in zp) (ok_zd : mi_in zd) (ok_zr : mi_in zr) (ok_zo : mi_in zo) (ok_zm : mi_in zm) (ok_zt : mi_in zt) (k0 : (0 ≤ mi_f h 13571 ∧ mi_f h 13571 ≤ 1) → ((mi_f h 13571) ≠ ((0 : Int))) → (∀ h1, ab_Sh sx_sk h1 → ab_Fr [] h h1 → me_E (d + 15) 131 98 [some (.inr (.inr 106)), some (.inl (zp)), some (.inl (zd)), some (.inl (zr)), some (.inl (zo)), some (.inl (zm)), some (.inl (zt))] [] h1 Q)) (k1 : (0 ≤ mi_f h 13571 ∧ mi_f h 13571 ≤ 1) → ((mi_f h 13571) = ((0 : Int))) → (zm ≤ zt) → (∀ h1, ab_Sh sx_sk h1 → ab_Fr [] h h1 → me_E (d + 15) 131 98 [some (.inr (.inr 106)), some (.inl (zp)), some (.inl (zd)), some (.inl (zr)), some (.inl (zo)), some (.inl (zm)), some (.inl (zt))] [] h1 Q)) (k2 : (0 ≤ mi_f h 13571 ∧ mi_f h 13571 ≤ 1) → ((mi_f h 13571) = ((0 : Int))) → (zt < zm) → (∀ h1, ab_Sh sx_sk h1 → ab_Fr [] h h1 → ∃ Q1, me_E (d + 14) 144 0 (mi_entry 5 [.inr (.inr 106), .inl (zp), .inl (zo), .inl (zt)]) [] h1 Q1 ∧ ∀ w h2, (∀ x, w = some x → mi_ok x) → Q1 w h2 → me_E (d + 15) 131 83 [some (.inr (.inr 106)), some (.inl (zp)), some (.inl (zd)), some (.inl (zr)), some (.inl (zo)), some (.inl (zm)), some (.inl (zt))] (mi_back w []) h2 Q)) : me_E (d + 15) 131 60 [some (.inr (.inr 106)), some (.inl (zp)), some (.inl (zd)), some (.inl (zr)), some (.inl (zo)), some (.inl (zm)), some (.inl (zt))] [] h Q := Or.elim (mi_em .ne ((mi_f h 13571)) (((0 : Int)))) (fun c0 => ms_kpyE_0 hS ok_zp ok_zd ok_zr ok_zo ok_zm ok_zt (c0) (fun h1 W => (k0 (me_fb hS rfl) c0) h1 W.1 (W.2.2.2.2.2 _ rfl))) (fun c0 => Or.elim (mi_em .ge (zt) (zm)) (fun c1 => ms_kpyE_1 hS ok_zp ok_zd ok_zr ok_zo ok_zm ok_zt ⟨c0, c1⟩ (fun h1 W => (k1 (me_fb hS rfl) c0 c1) h1 W.1 (W.2.2.2.2.2 _ rfl))) (fun c1 => ms_kpyE_2 hS ok_zp ok_zd ok_zr ok_zo ok_zm ok_zt ⟨c0, c1⟩ (fun h1 W => (k2 (me_fb hS rfl) c0 c1) h1 W.1 (W.2.2.2.2.2 _ rfl))))
set_option maxRecDepth 20000 in
theorem mp_kpyE2_0 (h : sm_H) (d : Nat) (zp zd zr zo zm zt zz : Int) : mj_path [(131, (7, 0, sb_131))] sx_sk h 1 [1] (d + 15, 131, 83, [some (.inr (.inr 106)), some (.inl (zp)), some (.inl (zd)), some (.inl (zr)), some (.inl (zo)), some (.inl (zm)), some (.inl (zt))], [.inl (zz)], [], []) = some ((d + 15, 131, 98, [some (.inr (.inr 106)), some (.inl (zp)), some (.inl (zd)), some (.inl (zr)), some (.inl (zo)), some (.inl (zm)), some (.inl (zt))], [], [], []), [zz = ((0 : Int))]) := rfl
theorem mi_tab_kpyE2_0 : ∀ e ∈ ([(131, (7, 0, sb_131))] : mi_T), sc_P e.1 = some e.2 := mi_tb mi_P131 (mi_tb_e)
set_option maxRecDepth 20000 in
theorem ms_kpyE2_0 {h : sm_H} {d : Nat} {Q : Option mi_V → sm_H → Prop} {zp zd zr zo zm zt zz : Int} (hS : ab_Sh sx_sk h) (ok_zp : mi_in zp) (ok_zd : mi_in zd) (ok_zr : mi_in zr) (ok_zo : mi_in zo) (ok_zm : mi_in zm) (ok_zt : mi_in zt) (ok_zz : mi_in zz) (ho : (zz = ((0 : Int)))) (kon : ∀ h1, me_W [] h h1 → me_E (d + 15) 131 98 [some (.inr (.inr 106)), some (.inl (zp)), some (.inl (zd)), some (.inl (zr)), some (.inl (zo)), some (.inl (zm)), some (.inl (zt))] [] h1 Q) : me_E (d + 15) 131 83 [some (.inr (.inr 106)), some (.inl (zp)), some (.inl (zd)), some (.inl (zr)), some (.inl (zo)), some (.inl (zm)), some (.inl (zt))] [.inl (zz)] h Q := mf_seg (mp_kpyE2_0 h d zp zd zr zo zm zt zz) (mi_tab_kpyE2_0) hS (mi_okL_c (trivial) (mi_okL_c (ok_zp) (mi_okL_c (ok_zd) (mi_okL_c (ok_zr) (mi_okL_c (ok_zo) (mi_okL_c (ok_zm) (mi_okL_c (ok_zt) (mi_okL_e)))))))) (mi_okS_cons (ok_zz) (mi_okS_e)) (mi_al (ho) (mi_al_e)) (fun h1 W _ hst => kon h1 W)
set_option maxRecDepth 20000 in
theorem mp_kpyE2_1 (h : sm_H) (d : Nat) (zp zd zr zo zm zt zz : Int) : mj_path [(131, (7, 0, sb_131))] sx_sk h 4 [0] (d + 15, 131, 83, [some (.inr (.inr 106)), some (.inl (zp)), some (.inl (zd)), some (.inl (zr)), some (.inl (zo)), some (.inl (zm)), some (.inl (zt))], [.inl (zz)], [], []) = some ((d + 15, 131, 89, [some (.inr (.inr 106)), some (.inl (zp)), some (.inl (zd)), some (.inl (zr)), some (.inl (zo)), some (.inl (zm)), some (.inl (zt))], [.inl (zd), .inl (zp), .inr (.inr 106)], [], []), [zz ≠ ((0 : Int))]) := rfl
theorem mi_tab_kpyE2_1 : ∀ e ∈ ([(131, (7, 0, sb_131))] : mi_T), sc_P e.1 = some e.2 := mi_tb mi_P131 (mi_tb_e)
set_option maxRecDepth 20000 in
theorem ms_kpyE2_1 {h : sm_H} {d : Nat} {Q : Option mi_V → sm_H → Prop} {zp zd zr zo zm zt zz : Int} (hS : ab_Sh sx_sk h) (ok_zp : mi_in zp) (ok_zd : mi_in zd) (ok_zr : mi_in zr) (ok_zo : mi_in zo) (ok_zm : mi_in zm) (ok_zt : mi_in zt) (ok_zz : mi_in zz) (ho : (zz ≠ ((0 : Int)))) (kon : ∀ h1, me_W [] h h1 → ∃ Q1, me_E (d + 14) 132 0 (mi_entry 4 [.inr (.inr 106), .inl (zp), .inl (zd)]) [] h1 Q1 ∧ ∀ w h2, (∀ x, w = some x → mi_ok x) → Q1 w h2 → me_E (d + 15) 131 92 [some (.inr (.inr 106)), some (.inl (zp)), some (.inl (zd)), some (.inl (zr)), some (.inl (zo)), some (.inl (zm)), some (.inl (zt))] (mi_back w []) h2 Q) : me_E (d + 15) 131 83 [some (.inr (.inr 106)), some (.inl (zp)), some (.inl (zd)), some (.inl (zr)), some (.inl (zo)), some (.inl (zm)), some (.inl (zt))] [.inl (zz)] h Q := mf_seg (mp_kpyE2_1 h d zp zd zr zo zm zt zz) (mi_tab_kpyE2_1) hS (mi_okL_c (trivial) (mi_okL_c (ok_zp) (mi_okL_c (ok_zd) (mi_okL_c (ok_zr) (mi_okL_c (ok_zo) (mi_okL_c (ok_zm) (mi_okL_c (ok_zt) (mi_okL_e)))))))) (mi_okS_cons (ok_zz) (mi_okS_e)) (mi_al (ho) (mi_al_e)) (fun h1 W _ hst => let ⟨_, k1, k2⟩ := kon h1 W; mf_call (M := (7, 0, sb_131)) (M' := (4, 0, sb_132)) rfl rfl rfl rfl (Nat.le_of_ble_eq_true rfl) (Nat.le_of_ble_eq_true rfl) W.1 k1 k2)
set_option maxRecDepth 20000 in
theorem mt_kpyE2 {h : sm_H} {d : Nat} {Q : Option mi_V → sm_H → Prop} {zp zd zr zo zm zt zz : Int} (hS : ab_Sh sx_sk h) (ok_zp : mi_in zp) (ok_zd : mi_in zd) (ok_zr : mi_in zr) (ok_zo : mi_in zo) (ok_zm : mi_in zm) (ok_zt : mi_in zt) (ok_zz : mi_in zz) (k0 : (zz = ((0 : Int))) → (∀ h1, ab_Sh sx_sk h1 → ab_Fr [] h h1 → me_E (d + 15) 131 98 [some (.inr (.inr 106)), some (.inl (zp)), some (.inl (zd)), some (.inl (zr)), some (.inl (zo)), some (.inl (zm)), some (.inl (zt))] [] h1 Q)) (k1 : (zz ≠ ((0 : Int))) → (∀ h1, ab_Sh sx_sk h1 → ab_Fr [] h h1 → ∃ Q1, me_E (d + 14) 132 0 (mi_entry 4 [.inr (.inr 106), .inl (zp), .inl (zd)]) [] h1 Q1 ∧ ∀ w h2, (∀ x, w = some x → mi_ok x) → Q1 w h2 → me_E (d + 15) 131 92 [some (.inr (.inr 106)), some (.inl (zp)), some (.inl (zd)), some (.inl (zr)), some (.inl (zo)), some (.inl (zm)), some (.inl (zt))] (mi_back w []) h2 Q)) : me_E (d + 15) 131 83 [some (.inr (.inr 106)), some (.inl (zp)), some (.inl (zd)), some (.inl (zr)), some (.inl (zo)), some (.inl (zm)), some (.inl (zt))] [.inl (zz)] h Q := Or.elim (mi_em .eq (zz) (((0 : Int)))) (fun c0 => ms_kpyE2_0 hS ok_zp ok_zd ok_zr ok_zo ok_zm ok_zt ok_zz (c0) (fun h1 W => (k0 c0) h1 W.1 (W.2.2.2.2.2 _ rfl))) (fun c0 => ms_kpyE2_1 hS ok_zp ok_zd ok_zr ok_zo ok_zm ok_zt ok_zz (c0) (fun h1 W => (k1 c0) h1 W.1 (W.2.2.2.2.2 _ rfl)))
set_option maxRecDepth 20000 in
theorem mp_kpyF_0 (h : sm_H) (d : Nat) (zp zd zr zo zm zt : Int) : mj_path [(131, (7, 0, sb_131))] sx_sk h 2 [] (d + 15, 131, 92, [some (.inr (.inr 106)), some (.inl (zp)), some (.inl (zd)), some (.inl (zr)), some (.inl (zo)), some (.inl (zm)), some (.inl (zt))], [], [], []) = some ((d + 15, 131, 60, [some (.inr (.inr 106)), some (.inl (zp)), some (.inl (zd)), some (.inl (zr)), some (.inl (zo)), some (.inl (zm)), some (.inl (zt + 1))], [], [], []), [-2147483648 ≤ zt + 1 ∧ zt + 1 ≤ 2147483647]) := rfl
theorem mi_tab_kpyF_0 : ∀ e ∈ ([(131, (7, 0, sb_131))] : mi_T), sc_P e.1 = some e.2 := mi_tb mi_P131 (mi_tb_e)
set_option maxRecDepth 20000 in
theorem ms_kpyF_0 {h : sm_H} {d : Nat} {Q : Option mi_V → sm_H → Prop} {zp zd zr zo zm zt : Int} (hS : ab_Sh sx_sk h) (ok_zp : mi_in zp) (ok_zd : mi_in zd) (ok_zr : mi_in zr) (ok_zo : mi_in zo) (ok_zm : mi_in zm) (ok_zt : mi_in zt) (ho : (-2147483648 ≤ zt + 1 ∧ zt + 1 ≤ 2147483647)) (kon : ∀ h1, me_W [] h h1 → me_E (d + 15) 131 60 [some (.inr (.inr 106)), some (.inl (zp)), some (.inl (zd)), some (.inl (zr)), some (.inl (zo)), some (.inl (zm)), some (.inl (zt + 1))] [] h1 Q) : me_E (d + 15) 131 92 [some (.inr (.inr 106)), some (.inl (zp)), some (.inl (zd)), some (.inl (zr)), some (.inl (zo)), some (.inl (zm)), some (.inl (zt))] [] h Q := mf_seg (mp_kpyF_0 h d zp zd zr zo zm zt) (mi_tab_kpyF_0) hS (mi_okL_c (trivial) (mi_okL_c (ok_zp) (mi_okL_c (ok_zd) (mi_okL_c (ok_zr) (mi_okL_c (ok_zo) (mi_okL_c (ok_zm) (mi_okL_c (ok_zt) (mi_okL_e)))))))) (mi_okS_e) (mi_al (ho) (mi_al_e)) (fun h1 W _ hst => kon h1 W)
set_option maxRecDepth 20000 in
theorem mt_kpyF {h : sm_H} {d : Nat} {Q : Option mi_V → sm_H → Prop} {zp zd zr zo zm zt : Int} (hS : ab_Sh sx_sk h) (ok_zp : mi_in zp) (ok_zd : mi_in zd) (ok_zr : mi_in zr) (ok_zo : mi_in zo) (ok_zm : mi_in zm) (ok_zt : mi_in zt) (k0 : ((-2147483648 ≤ zt + 1 ∧ zt + 1 ≤ 2147483647)) ∧ (∀ h1, ab_Sh sx_sk h1 → ab_Fr [] h h1 → me_E (d + 15) 131 60 [some (.inr (.inr 106)), some (.inl (zp)), some (.inl (zd)), some (.inl (zr)), some (.inl (zo)), some (.inl (zm)), some (.inl (zt + 1))] [] h1 Q)) : me_E (d + 15) 131 92 [some (.inr (.inr 106)), some (.inl (zp)), some (.inl (zd)), some (.inl (zr)), some (.inl (zo)), some (.inl (zm)), some (.inl (zt))] [] h Q := ms_kpyF_0 hS ok_zp ok_zd ok_zr ok_zo ok_zm ok_zt ((k0).1) (fun h1 W => (k0).2 h1 W.1 (W.2.2.2.2.2 _ rfl))
set_option maxRecDepth 20000 in
theorem mp_kpyG_0 (h : sm_H) (d : Nat) (zp zd zr zo zm zt : Int) : mj_path [(131, (7, 0, sb_131))] sx_sk h 2 [] (d + 15, 131, 98, [some (.inr (.inr 106)), some (.inl (zp)), some (.inl (zd)), some (.inl (zr)), some (.inl (zo)), some (.inl (zm)), some (.inl (zt))], [], [], []) = some ((d + 15, 131, 101, [some (.inr (.inr 106)), some (.inl (zp)), some (.inl (zd)), some (.inl (zr)), some (.inl (zo)), some (.inl (zm)), some (.inl (zt))], [.inl (zo), .inr (.inr 106)], [], []), []) := rfl
theorem mi_tab_kpyG_0 : ∀ e ∈ ([(131, (7, 0, sb_131))] : mi_T), sc_P e.1 = some e.2 := mi_tb mi_P131 (mi_tb_e)
set_option maxRecDepth 20000 in
theorem ms_kpyG_0 {h : sm_H} {d : Nat} {Q : Option mi_V → sm_H → Prop} {zp zd zr zo zm zt : Int} (hS : ab_Sh sx_sk h) (ok_zp : mi_in zp) (ok_zd : mi_in zd) (ok_zr : mi_in zr) (ok_zo : mi_in zo) (ok_zm : mi_in zm) (ok_zt : mi_in zt) (kon : ∀ h1, me_W [] h h1 → ∃ Q1, me_E (d + 14) 147 0 (mi_entry 2 [.inr (.inr 106), .inl (zo)]) [] h1 Q1 ∧ ∀ w h2, (∀ x, w = some x → mi_ok x) → Q1 w h2 → me_E (d + 15) 131 104 [some (.inr (.inr 106)), some (.inl (zp)), some (.inl (zd)), some (.inl (zr)), some (.inl (zo)), some (.inl (zm)), some (.inl (zt))] (mi_back w []) h2 Q) : me_E (d + 15) 131 98 [some (.inr (.inr 106)), some (.inl (zp)), some (.inl (zd)), some (.inl (zr)), some (.inl (zo)), some (.inl (zm)), some (.inl (zt))] [] h Q := mf_seg (mp_kpyG_0 h d zp zd zr zo zm zt) (mi_tab_kpyG_0) hS (mi_okL_c (trivial) (mi_okL_c (ok_zp) (mi_okL_c (ok_zd) (mi_okL_c (ok_zr) (mi_okL_c (ok_zo) (mi_okL_c (ok_zm) (mi_okL_c (ok_zt) (mi_okL_e)))))))) (mi_okS_e) (mi_al_e) (fun h1 W _ hst => let ⟨_, k1, k2⟩ := kon h1 W; mf_call (M := (7, 0, sb_131)) (M' := (2, 0, sb_147)) rfl rfl rfl rfl (Nat.le_of_ble_eq_true rfl) (Nat.le_of_ble_eq_true rfl) W.1 k1 k2)
set_option maxRecDepth 20000 in
theorem mt_kpyG {h : sm_H} {d : Nat} {Q : Option mi_V → sm_H → Prop} {zp zd zr zo zm zt : Int} (hS : ab_Sh sx_sk h) (ok_zp : mi_in zp) (ok_zd : mi_in zd) (ok_zr : mi_in zr) (ok_zo : mi_in zo) (ok_zm : mi_in zm) (ok_zt : mi_in zt) (k0 : (∀ h1, ab_Sh sx_sk h1 → ab_Fr [] h h1 → ∃ Q1, me_E (d + 14) 147 0 (mi_entry 2 [.inr (.inr 106), .inl (zo)]) [] h1 Q1 ∧ ∀ w h2, (∀ x, w = some x → mi_ok x) → Q1 w h2 → me_E (d + 15) 131 104 [some (.inr (.inr 106)), some (.inl (zp)), some (.inl (zd)), some (.inl (zr)), some (.inl (zo)), some (.inl (zm)), some (.inl (zt))] (mi_back w []) h2 Q)) : me_E (d + 15) 131 98 [some (.inr (.inr 106)), some (.inl (zp)), some (.inl (zd)), some (.inl (zr)), some (.inl (zo)), some (.inl (zm)), some (.inl (zt))] [] h Q := ms_kpyG_0 hS ok_zp ok_zd ok_zr ok_zo ok_zm ok_zt (fun h1 W => (k0) h1 W.1 (W.2.2.2.2.2 _ rfl))
set_option maxRecDepth 20000 in
theorem mp_kpyH_0 (h : sm_H) (d : Nat) (zp zd zr zo zm zt : Int) : mj_path [(131, (7, 0, sb_131))] sx_sk h 0 [] (d + 15, 131, 104, [some (.inr (.inr 106)), some (.inl (zp)), some (.inl (zd)), some (.inl (zr)), some (.inl (zo)), some (.inl (zm)), some (.inl (zt))], [], [], []) = some ((d + 15, 131, 104, [some (.inr (.inr 106)), some (.inl (zp)), some (.inl (zd)), some (.inl (zr)), some (.inl (zo)), some (.inl (zm)), some (.inl (zt))], [], [], []), []) := rfl
theorem mi_tab_kpyH_0 : ∀ e ∈ ([(131, (7, 0, sb_131))] : mi_T), sc_P e.1 = some e.2 := mi_tb mi_P131 (mi_tb_e)
set_option maxRecDepth 20000 in
theorem ms_kpyH_0 {h : sm_H} {d : Nat} {Q : Option mi_V → sm_H → Prop} {zp zd zr zo zm zt : Int} (hS : ab_Sh sx_sk h) (ok_zp : mi_in zp) (ok_zd : mi_in zd) (ok_zr : mi_in zr) (ok_zo : mi_in zo) (ok_zm : mi_in zm) (ok_zt : mi_in zt) (kon : ∀ h1, me_W [] h h1 → Q none h1) : me_E (d + 15) 131 104 [some (.inr (.inr 106)), some (.inl (zp)), some (.inl (zd)), some (.inl (zr)), some (.inl (zo)), some (.inl (zm)), some (.inl (zt))] [] h Q := mf_seg (mp_kpyH_0 h d zp zd zr zo zm zt) (mi_tab_kpyH_0) hS (mi_okL_c (trivial) (mi_okL_c (ok_zp) (mi_okL_c (ok_zd) (mi_okL_c (ok_zr) (mi_okL_c (ok_zo) (mi_okL_c (ok_zm) (mi_okL_c (ok_zt) (mi_okL_e)))))))) (mi_okS_e) (mi_al_e) (fun h1 W _ hst => mf_ret (M := (7, 0, sb_131)) rfl rfl rfl hst (mi_al_e) (kon h1 W))
set_option maxRecDepth 20000 in
theorem mt_kpyH {h : sm_H} {d : Nat} {Q : Option mi_V → sm_H → Prop} {zp zd zr zo zm zt : Int} (hS : ab_Sh sx_sk h) (ok_zp : mi_in zp) (ok_zd : mi_in zd) (ok_zr : mi_in zr) (ok_zo : mi_in zo) (ok_zm : mi_in zm) (ok_zt : mi_in zt) (k0 : (∀ h1, ab_Sh sx_sk h1 → ab_Fr [] h h1 → Q none h1)) : me_E (d + 15) 131 104 [some (.inr (.inr 106)), some (.inl (zp)), some (.inl (zd)), some (.inl (zr)), some (.inl (zo)), some (.inl (zm)), some (.inl (zt))] [] h Q := ms_kpyH_0 hS ok_zp ok_zd ok_zr ok_zo ok_zm ok_zt (fun h1 W => (k0) h1 W.1 (W.2.2.2.2.2 _ rfl))
set_option maxRecDepth 20000 in
theorem mp_kpzA_0 (h : sm_H) (d : Nat) (zp zd : Int) : mj_path [(132, (4, 0, sb_132)), (16, (3, 0, sb_16)), (49, (2, 1, sb_49)), (72, (2, 2, sb_72))] sx_sk h 18 [1, 1, 1] (d + 14, 132, 0, [some (.inr (.inr 106)), some (.inl (zp)), some (.inl (zd)), none], [], [], []) = some ((d + 14, 132, 68, [some (.inr (.inr 106)), some (.inl (zp)), some (.inl (zd)), some (.inl ((0 : Int)))], [.inl (zp), .inr (.inr 106)], [], []), [zp < ((0 : Int)), ((0 : Int)) ≠ ((9 : Int)), ((0 : Int)) ≠ ((10 : Int))]) := rfl
theorem mi_tab_kpzA_0 : ∀ e ∈ ([(132, (4, 0, sb_132)), (16, (3, 0, sb_16)), (49, (2, 1, sb_49)), (72, (2, 2, sb_72))] : mi_T), sc_P e.1 = some e.2 := mi_tb mi_P132 (mi_tb mi_P16 (mi_tb mi_P49 (mi_tb mi_P72 (mi_tb_e))))
set_option maxRecDepth 20000 in
theorem ms_kpzA_0 {h : sm_H} {d : Nat} {Q : Option mi_V → sm_H → Prop} {zp zd : Int} (hS : ab_Sh sx_sk h) (ok_zp : mi_in zp) (ok_zd : mi_in zd) (ho : (zp < ((0 : Int))) ∧ (((0 : Int)) ≠ ((9 : Int))) ∧ (((0 : Int)) ≠ ((10 : Int)))) (kon : ∀ h1, me_W [] h h1 → ∃ Q1, me_E (d + 13) 135 0 (mi_entry 4 [.inr (.inr 106), .inl (zp)]) [] h1 Q1 ∧ ∀ w h2, (∀ x, w = some x → mi_ok x) → Q1 w h2 → me_E (d + 14) 132 71 [some (.inr (.inr 106)), some (.inl (zp)), some (.inl (zd)), some (.inl ((0 : Int)))] (mi_back w []) h2 Q) : me_E (d + 14) 132 0 [some (.inr (.inr 106)), some (.inl (zp)), some (.inl (zd)), none] [] h Q := mf_seg (mp_kpzA_0 h d zp zd) (mi_tab_kpzA_0) hS (mi_okL_c (trivial) (mi_okL_c (ok_zp) (mi_okL_c (ok_zd) (mi_okL_n (mi_okL_e))))) (mi_okS_e) (mi_al (ho.1) (mi_al (ho.2.1) (mi_al (ho.2.2) (mi_al_e)))) (fun h1 W _ hst => let ⟨_, k1, k2⟩ := kon h1 W; mf_call (M := (4, 0, sb_132)) (M' := (4, 0, sb_135)) rfl rfl rfl rfl (Nat.le_of_ble_eq_true rfl) (Nat.le_of_ble_eq_true rfl) W.1 k1 k2)
set_option maxRecDepth 20000 in
theorem mp_kpzA_1 (h : sm_H) (d : Nat) (zp zd : Int) : mj_path [(132, (4, 0, sb_132)), (16, (3, 0, sb_16)), (49, (2, 1, sb_49)), (72, (2, 2, sb_72))] sx_sk h 22 [0, 1, 1, 1] (d + 14, 132, 0, [some (.inr (.inr 106)), some (.inl (zp)), some (.inl (zd)), none], [], [], []) = some ((d + 14, 132, 68, [some (.inr (.inr 106)), some (.inl (zp)), some (.inl (zd)), some (.inl ((0 : Int)))], [.inl (zp), .inr (.inr 106)], [], []), [((0 : Int)) ≤ zp, ((60 : Int)) ≤ zp, ((0 : Int)) ≠ ((9 : Int)), ((0 : Int)) ≠ ((10 : Int))]) := rfl
theorem mi_tab_kpzA_1 : ∀ e ∈ ([(132, (4, 0, sb_132)), (16, (3, 0, sb_16)), (49, (2, 1, sb_49)), (72, (2, 2, sb_72))] : mi_T), sc_P e.1 = some e.2 := mi_tb mi_P132 (mi_tb mi_P16 (mi_tb mi_P49 (mi_tb mi_P72 (mi_tb_e))))
set_option maxRecDepth 20000 in
theorem ms_kpzA_1 {h : sm_H} {d : Nat} {Q : Option mi_V → sm_H → Prop} {zp zd : Int} (hS : ab_Sh sx_sk h) (ok_zp : mi_in zp) (ok_zd : mi_in zd) (ho : (((0 : Int)) ≤ zp) ∧ (((60 : Int)) ≤ zp) ∧ (((0 : Int)) ≠ ((9 : Int))) ∧ (((0 : Int)) ≠ ((10 : Int)))) (kon : ∀ h1, me_W [] h h1 → ∃ Q1, me_E (d + 13) 135 0 (mi_entry 4 [.inr (.inr 106), .inl (zp)]) [] h1 Q1 ∧ ∀ w h2, (∀ x, w = some x → mi_ok x) → Q1 w h2 → me_E (d + 14) 132 71 [some (.inr (.inr 106)), some (.inl (zp)), some (.inl (zd)), some (.inl ((0 : Int)))] (mi_back w []) h2 Q) : me_E (d + 14) 132 0 [some (.inr (.inr 106)), some (.inl (zp)), some (.inl (zd)), none] [] h Q := mf_seg (mp_kpzA_1 h d zp zd) (mi_tab_kpzA_1) hS (mi_okL_c (trivial) (mi_okL_c (ok_zp) (mi_okL_c (ok_zd) (mi_okL_n (mi_okL_e))))) (mi_okS_e) (mi_al (ho.1) (mi_al (ho.2.1) (mi_al (ho.2.2.1) (mi_al (ho.2.2.2) (mi_al_e))))) (fun h1 W _ hst => let ⟨_, k1, k2⟩ := kon h1 W; mf_call (M := (4, 0, sb_132)) (M' := (4, 0, sb_135)) rfl rfl rfl rfl (Nat.le_of_ble_eq_true rfl) (Nat.le_of_ble_eq_true rfl) W.1 k1 k2)
set_option maxRecDepth 20000 in
theorem mp_kpzA_2 (h : sm_H) (d : Nat) (zp zd : Int) : mj_path [(132, (4, 0, sb_132)), (16, (3, 0, sb_16)), (49, (2, 1, sb_49)), (72, (2, 2, sb_72))] sx_sk h 25 [0, 0, 1, 1] (d + 14, 132, 0, [some (.inr (.inr 106)), some (.inl (zp)), some (.inl (zd)), none], [], [], []) = some ((d + 14, 132, 68, [some (.inr (.inr 106)), some (.inl (zp)), some (.inl (zd)), some (.inl (mi_a h 68 (Int.toNat zp)))], [.inl (zp), .inr (.inr 106)], [], []), [((0 : Int)) ≤ zp, zp < ((60 : Int)), 0 ≤ zp ∧ zp < 60, (mi_a h 68 (Int.toNat zp)) ≠ ((9 : Int)), (mi_a h 68 (Int.toNat zp)) ≠ ((10 : Int))]) := rfl
theorem mi_tab_kpzA_2 : ∀ e ∈ ([(132, (4, 0, sb_132)), (16, (3, 0, sb_16)), (49, (2, 1, sb_49)), (72, (2, 2, sb_72))] : mi_T), sc_P e.1 = some e.2 := mi_tb mi_P132 (mi_tb mi_P16 (mi_tb mi_P49 (mi_tb mi_P72 (mi_tb_e))))
set_option maxRecDepth 20000 in
theorem ms_kpzA_2 {h : sm_H} {d : Nat} {Q : Option mi_V → sm_H → Prop} {zp zd : Int} (hS : ab_Sh sx_sk h) (ok_zp : mi_in zp) (ok_zd : mi_in zd) (ho : (((0 : Int)) ≤ zp) ∧ (zp < ((60 : Int))) ∧ (0 ≤ zp ∧ zp < 60) ∧ ((mi_a h 68 (Int.toNat zp)) ≠ ((9 : Int))) ∧ ((mi_a h 68 (Int.toNat zp)) ≠ ((10 : Int)))) (kon : ∀ h1, me_W [] h h1 → ∃ Q1, me_E (d + 13) 135 0 (mi_entry 4 [.inr (.inr 106), .inl (zp)]) [] h1 Q1 ∧ ∀ w h2, (∀ x, w = some x → mi_ok x) → Q1 w h2 → me_E (d + 14) 132 71 [some (.inr (.inr 106)), some (.inl (zp)), some (.inl (zd)), some (.inl (mi_a h 68 (Int.toNat zp)))] (mi_back w []) h2 Q) : me_E (d + 14) 132 0 [some (.inr (.inr 106)), some (.inl (zp)), some (.inl (zd)), none] [] h Q := mf_seg (mp_kpzA_2 h d zp zd) (mi_tab_kpzA_2) hS (mi_okL_c (trivial) (mi_okL_c (ok_zp) (mi_okL_c (ok_zd) (mi_okL_n (mi_okL_e))))) (mi_okS_e) (mi_al (ho.1) (mi_al (ho.2.1) (mi_al (ho.2.2.1) (mi_al (ho.2.2.2.1) (mi_al (ho.2.2.2.2) (mi_al_e)))))) (fun h1 W _ hst => let ⟨_, k1, k2⟩ := kon h1 W; mf_call (M := (4, 0, sb_132)) (M' := (4, 0, sb_135)) rfl rfl rfl rfl (Nat.le_of_ble_eq_true rfl) (Nat.le_of_ble_eq_true rfl) W.1 k1 k2)
set_option maxRecDepth 20000 in
theorem mp_kpzA_3 (h : sm_H) (d : Nat) (zp zd : Int) : mj_path [(132, (4, 0, sb_132)), (16, (3, 0, sb_16)), (49, (2, 1, sb_49)), (72, (2, 2, sb_72))] sx_sk h 43 [0, 0, 1, 0, 0, 0, 8] (d + 14, 132, 0, [some (.inr (.inr 106)), some (.inl (zp)), some (.inl (zd)), none], [], [], []) = some ((d + 14, 132, 60, [some (.inr (.inr 106)), some (.inl (zp)), some (.inl (zd)), some (.inl (mi_a h 68 (Int.toNat zp)))], [.inl (zd + ((1 : Int))), .inl (mi_a h 69 (Int.toNat zp)), .inr (.inr 106)], [], []), [((0 : Int)) ≤ zp, zp < ((60 : Int)), 0 ≤ zp ∧ zp < 60, (mi_a h 68 (Int.toNat zp)) ≠ ((9 : Int)), (mi_a h 68 (Int.toNat zp)) = ((10 : Int)), ((0 : Int)) ≤ zp, zp < ((60 : Int)), 0 ≤ zp ∧ zp < 60, -2147483648 ≤ zd + ((1 : Int)) ∧ zd + ((1 : Int)) ≤ 2147483647]) := rfl
theorem mi_tab_kpzA_3 : ∀ e ∈ ([(132, (4, 0, sb_132)), (16, (3, 0, sb_16)), (49, (2, 1, sb_49)), (72, (2, 2, sb_72))] : mi_T), sc_P e.1 = some e.2 := mi_tb mi_P132 (mi_tb mi_P16 (mi_tb mi_P49 (mi_tb mi_P72 (mi_tb_e))))
set_option maxRecDepth 20000 in
theorem ms_kpzA_3 {h : sm_H} {d : Nat} {Q : Option mi_V → sm_H → Prop} {zp zd : Int} (hS : ab_Sh sx_sk h) (ok_zp : mi_in zp) (ok_zd : mi_in zd) (ho : (((0 : Int)) ≤ zp) ∧ (zp < ((60 : Int))) ∧ (0 ≤ zp ∧ zp < 60) ∧ ((mi_a h 68 (Int.toNat zp)) ≠ ((9 : Int))) ∧ ((mi_a h 68 (Int.toNat zp)) = ((10 : Int))) ∧ (((0 : Int)) ≤ zp) ∧ (zp < ((60 : Int))) ∧ (0 ≤ zp ∧ zp < 60) ∧ (-2147483648 ≤ zd + ((1 : Int)) ∧ zd + ((1 : Int)) ≤ 2147483647)) (kon : ∀ h1, me_W [] h h1 → ∃ Q1, me_E (d + 13) 120 0 (mi_entry 11 [.inr (.inr 106), .inl (mi_a h 69 (Int.toNat zp)), .inl (zd + ((1 : Int)))]) [] h1 Q1 ∧ ∀ w h2, (∀ x, w = some x → mi_ok x) → Q1 w h2 → me_E (d + 14) 132 63 [some (.inr (.inr 106)), some (.inl (zp)), some (.inl (zd)), some (.inl (mi_a h 68 (Int.toNat zp)))] (mi_back w []) h2 Q) : me_E (d + 14) 132 0 [some (.inr (.inr 106)), some (.inl (zp)), some (.inl (zd)), none] [] h Q := mf_seg (mp_kpzA_3 h d zp zd) (mi_tab_kpzA_3) hS (mi_okL_c (trivial) (mi_okL_c (ok_zp) (mi_okL_c (ok_zd) (mi_okL_n (mi_okL_e))))) (mi_okS_e) (mi_al (ho.1) (mi_al (ho.2.1) (mi_al (ho.2.2.1) (mi_al (ho.2.2.2.1) (mi_al (ho.2.2.2.2.1) (mi_al (ho.2.2.2.2.2.1) (mi_al (ho.2.2.2.2.2.2.1) (mi_al (ho.2.2.2.2.2.2.2.1) (mi_al (ho.2.2.2.2.2.2.2.2) (mi_al_e)))))))))) (fun h1 W _ hst => let ⟨_, k1, k2⟩ := kon h1 W; mf_call (M := (4, 0, sb_132)) (M' := (11, 0, sb_120)) rfl rfl rfl rfl (Nat.le_of_ble_eq_true rfl) (Nat.le_of_ble_eq_true rfl) W.1 k1 k2)
set_option maxRecDepth 20000 in
theorem mp_kpzA_4 (h : sm_H) (d : Nat) (zp zd : Int) : mj_path [(132, (4, 0, sb_132)), (16, (3, 0, sb_16)), (49, (2, 1, sb_49)), (72, (2, 2, sb_72))] sx_sk h 40 [0, 0, 0, 0, 0, 8] (d + 14, 132, 0, [some (.inr (.inr 106)), some (.inl (zp)), some (.inl (zd)), none], [], [], []) = some ((d + 14, 132, 33, [some (.inr (.inr 106)), some (.inl (zp)), some (.inl (zd)), some (.inl (mi_a h 68 (Int.toNat zp)))], [.inl (zd + ((1 : Int))), .inl (mi_a h 69 (Int.toNat zp)), .inr (.inr 106)], [], []), [((0 : Int)) ≤ zp, zp < ((60 : Int)), 0 ≤ zp ∧ zp < 60, (mi_a h 68 (Int.toNat zp)) = ((9 : Int)), ((0 : Int)) ≤ zp, zp < ((60 : Int)), 0 ≤ zp ∧ zp < 60, -2147483648 ≤ zd + ((1 : Int)) ∧ zd + ((1 : Int)) ≤ 2147483647]) := rfl
theorem mi_tab_kpzA_4 : ∀ e ∈ ([(132, (4, 0, sb_132)), (16, (3, 0, sb_16)), (49, (2, 1, sb_49)), (72, (2, 2, sb_72))] : mi_T), sc_P e.1 = some e.2 := mi_tb mi_P132 (mi_tb mi_P16 (mi_tb mi_P49 (mi_tb mi_P72 (mi_tb_e))))
set_option maxRecDepth 20000 in
theorem ms_kpzA_4 {h : sm_H} {d : Nat} {Q : Option mi_V → sm_H → Prop} {zp zd : Int} (hS : ab_Sh sx_sk h) (ok_zp : mi_in zp) (ok_zd : mi_in zd) (ho : (((0 : Int)) ≤ zp) ∧ (zp < ((60 : Int))) ∧ (0 ≤ zp ∧ zp < 60) ∧ ((mi_a h 68 (Int.toNat zp)) = ((9 : Int))) ∧ (((0 : Int)) ≤ zp) ∧ (zp < ((60 : Int))) ∧ (0 ≤ zp ∧ zp < 60) ∧ (-2147483648 ≤ zd + ((1 : Int)) ∧ zd + ((1 : Int)) ≤ 2147483647)) (kon : ∀ h1, me_W [] h h1 → ∃ Q1, me_E (d + 13) 113 0 (mi_entry 4 [.inr (.inr 106), .inl (mi_a h 69 (Int.toNat zp)), .inl (zd + ((1 : Int)))]) [] h1 Q1 ∧ ∀ w h2, (∀ x, w = some x → mi_ok x) → Q1 w h2 → me_E (d + 14) 132 36 [some (.inr (.inr 106)), some (.inl (zp)), some (.inl (zd)), some (.inl (mi_a h 68 (Int.toNat zp)))] (mi_back w []) h2 Q) : me_E (d + 14) 132 0 [some (.inr (.inr 106)), some (.inl (zp)), some (.inl (zd)), none] [] h Q := mf_seg (mp_kpzA_4 h d zp zd) (mi_tab_kpzA_4) hS (mi_okL_c (trivial) (mi_okL_c (ok_zp) (mi_okL_c (ok_zd) (mi_okL_n (mi_okL_e))))) (mi_okS_e) (mi_al (ho.1) (mi_al (ho.2.1) (mi_al (ho.2.2.1) (mi_al (ho.2.2.2.1) (mi_al (ho.2.2.2.2.1) (mi_al (ho.2.2.2.2.2.1) (mi_al (ho.2.2.2.2.2.2.1) (mi_al (ho.2.2.2.2.2.2.2) (mi_al_e))))))))) (fun h1 W _ hst => let ⟨_, k1, k2⟩ := kon h1 W; mf_call (M := (4, 0, sb_132)) (M' := (4, 0, sb_113)) rfl rfl rfl rfl (Nat.le_of_ble_eq_true rfl) (Nat.le_of_ble_eq_true rfl) W.1 k1 k2)
set_option maxRecDepth 20000 in
theorem mt_kpzA {h : sm_H} {d : Nat} {Q : Option mi_V → sm_H → Prop} {zp zd : Int} (hS : ab_Sh sx_sk h) (ok_zp : mi_in zp) (ok_zd : mi_in zd) (k0 : (zp < ((0 : Int))) → (∀ h1, ab_Sh sx_sk h1 → ab_Fr [] h h1 → ∃ Q1, me_E (d + 13) 135 0 (mi_entry 4 [.inr (.inr 106), .inl (zp)]) [] h1 Q1 ∧ ∀ w h2, (∀ x, w = some x → mi_ok x) → Q1 w h2 → me_E (d + 14) 132 71 [some (.inr (.inr 106)), some (.inl (zp)), some (.inl (zd)), some (.inl ((0 : Int)))] (mi_back w []) h2 Q)) (k1 : (((0 : Int)) ≤ zp) → (((60 : Int)) ≤ zp) → (∀ h1, ab_Sh sx_sk h1 → ab_Fr [] h h1 → ∃ Q1, me_E (d + 13) 135 0 (mi_entry 4 [.inr (.inr 106), .inl (zp)]) [] h1 Q1 ∧ ∀ w h2, (∀ x, w = some x → mi_ok x) → Q1 w h2 → me_E (d + 14) 132 71 [some (.inr (.inr 106)), some (.inl (zp)), some (.inl (zd)), some (.inl ((0 : Int)))] (mi_back w []) h2 Q)) (k2 : (((0 : Int)) ≤ zp) → (zp < ((60 : Int))) → ((mi_a h 68 (Int.toNat zp)) ≠ ((9 : Int))) → ((mi_a h 68 (Int.toNat zp)) ≠ ((10 : Int))) → ((0 ≤ zp ∧ zp < 60)) ∧ (∀ h1, ab_Sh sx_sk h1 → ab_Fr [] h h1 → ∃ Q1, me_E (d + 13) 135 0 (mi_entry 4 [.inr (.inr 106), .inl (zp)]) [] h1 Q1 ∧ ∀ w h2, (∀ x, w = some x → mi_ok x) → Q1 w h2 → me_E (d + 14) 132 71 [some (.inr (.inr 106)), some (.inl (zp)), some (.inl (zd)), some (.inl (mi_a h 68 (Int.toNat zp)))] (mi_back w []) h2 Q)) (k3 : (((0 : Int)) ≤ zp) → (zp < ((60 : Int))) → ((mi_a h 68 (Int.toNat zp)) ≠ ((9 : Int))) → ((mi_a h 68 (Int.toNat zp)) = ((10 : Int))) → ((0 ≤ zp ∧ zp < 60) ∧ (-2147483648 ≤ zd + ((1 : Int)) ∧ zd + ((1 : Int)) ≤ 2147483647)) ∧ (∀ h1, ab_Sh sx_sk h1 → ab_Fr [] h h1 → ∃ Q1, me_E (d + 13) 120 0 (mi_entry 11 [.inr (.inr 106), .inl (mi_a h 69 (Int.toNat zp)), .inl (zd + ((1 : Int)))]) [] h1 Q1 ∧ ∀ w h2, (∀ x, w = some x → mi_ok x) → Q1 w h2 → me_E (d + 14) 132 63 [some (.inr (.inr 106)), some (.inl (zp)), some (.inl (zd)), some (.inl (mi_a h 68 (Int.toNat zp)))] (mi_back w []) h2 Q)) (k4 : (((0 : Int)) ≤ zp) → (zp < ((60 : Int))) → ((mi_a h 68 (Int.toNat zp)) = ((9 : Int))) → ((0 ≤ zp ∧ zp < 60) ∧ (-2147483648 ≤ zd + ((1 : Int)) ∧ zd + ((1 : Int)) ≤ 2147483647)) ∧ (∀ h1, ab_Sh sx_sk h1 → ab_Fr [] h h1 → ∃ Q1, me_E (d + 13) 113 0 (mi_entry 4 [.inr (.inr 106), .inl (mi_a h 69 (Int.toNat zp)), .inl (zd + ((1 : Int)))]) [] h1 Q1 ∧ ∀ w h2, (∀ x, w = some x → mi_ok x) → Q1 w h2 → me_E (d + 14) 132 36 [some (.inr (.inr 106)), some (.inl (zp)), some (.inl (zd)), some (.inl (mi_a h 68 (Int.toNat zp)))] (mi_back w []) h2 Q)) : me_E (d + 14) 132 0 [some (.inr (.inr 106)), some (.inl (zp)), some (.inl (zd)), none] [] h Q := Or.elim (mi_em .lt (zp) (((0 : Int)))) (fun c0 => ms_kpzA_0 hS ok_zp ok_zd ⟨c0, (by decide), (by decide)⟩ (fun h1 W => (k0 c0) h1 W.1 (W.2.2.2.2.2 _ rfl))) (fun c0 => Or.elim (mi_em .ge (zp) (((60 : Int)))) (fun c1 => ms_kpzA_1 hS ok_zp ok_zd ⟨c0, c1, (by decide), (by decide)⟩ (fun h1 W => (k1 c0 c1) h1 W.1 (W.2.2.2.2.2 _ rfl))) (fun c1 => Or.elim (mi_em .ne ((mi_a h 68 (Int.toNat zp))) (((9 : Int)))) (fun c2 => Or.elim (mi_em .ne ((mi_a h 68 (Int.toNat zp))) (((10 : Int)))) (fun c3 => ms_kpzA_2 hS ok_zp ok_zd ⟨c0, c1, (k2 c0 c1 c2 c3).1, c2, c3⟩ (fun h1 W => (k2 c0 c1 c2 c3).2 h1 W.1 (W.2.2.2.2.2 _ rfl))) (fun c3 => ms_kpzA_3 hS ok_zp ok_zd ⟨c0, c1, (k3 c0 c1 c2 c3).1.1, c2, c3, c0, c1, (k3 c0 c1 c2 c3).1.1, (k3 c0 c1 c2 c3).1.2⟩ (fun h1 W => (k3 c0 c1 c2 c3).2 h1 W.1 (W.2.2.2.2.2 _ rfl)))) (fun c2 => ms_kpzA_4 hS ok_zp ok_zd ⟨c0, c1, (k4 c0 c1 c2).1.1, c2, c0, c1, (k4 c0 c1 c2).1.1, (k4 c0 c1 c2).1.2⟩ (fun h1 W => (k4 c0 c1 c2).2 h1 W.1 (W.2.2.2.2.2 _ rfl)))))
set_option maxRecDepth 20000 in
theorem mp_kpzB_0 (h : sm_H) (d : Nat) (zp zd zs : Int) : mj_path [(132, (4, 0, sb_132))] sx_sk h 1 [] (d + 14, 132, 36, [some (.inr (.inr 106)), some (.inl (zp)), some (.inl (zd)), some (.inl (zs))], [], [], []) = some ((d + 14, 132, 71, [some (.inr (.inr 106)), some (.inl (zp)), some (.inl (zd)), some (.inl (zs))], [], [], []), []) := rfl
theorem mi_tab_kpzB_0 : ∀ e ∈ ([(132, (4, 0, sb_132))] : mi_T), sc_P e.1 = some e.2 := mi_tb mi_P132 (mi_tb_e)
set_option maxRecDepth 20000 in
theorem ms_kpzB_0 {h : sm_H} {d : Nat} {Q : Option mi_V → sm_H → Prop} {zp zd zs : Int} (hS : ab_Sh sx_sk h) (ok_zp : mi_in zp) (ok_zd : mi_in zd) (ok_zs : mi_in zs) (kon : ∀ h1, me_W [] h h1 → Q none h1) : me_E (d + 14) 132 36 [some (.inr (.inr 106)), some (.inl (zp)), some (.inl (zd)), some (.inl (zs))] [] h Q := mf_seg (mp_kpzB_0 h d zp zd zs) (mi_tab_kpzB_0) hS (mi_okL_c (trivial) (mi_okL_c (ok_zp) (mi_okL_c (ok_zd) (mi_okL_c (ok_zs) (mi_okL_e))))) (mi_okS_e) (mi_al_e) (fun h1 W _ hst => mf_ret (M := (4, 0, sb_132)) rfl rfl rfl hst (mi_al_e) (kon h1 W))
set_option maxRecDepth 20000 in
theorem mt_kpzB {h : sm_H} {d : Nat} {Q : Option mi_V → sm_H → Prop} {zp zd zs : Int} (hS : ab_Sh sx_sk h) (ok_zp : mi_in zp) (ok_zd : mi_in zd) (ok_zs : mi_in zs) (k0 : (∀ h1, ab_Sh sx_sk h1 → ab_Fr [] h h1 → Q none h1)) : me_E (d + 14) 132 36 [some (.inr (.inr 106)), some (.inl (zp)), some (.inl (zd)), some (.inl (zs))] [] h Q := ms_kpzB_0 hS ok_zp ok_zd ok_zs (fun h1 W => (k0) h1 W.1 (W.2.2.2.2.2 _ rfl))
set_option maxRecDepth 20000 in
theorem mp_kpzC_0 (h : sm_H) (d : Nat) (zp zd zs : Int) : mj_path [(132, (4, 0, sb_132))] sx_sk h 1 [] (d + 14, 132, 63, [some (.inr (.inr 106)), some (.inl (zp)), some (.inl (zd)), some (.inl (zs))], [], [], []) = some ((d + 14, 132, 71, [some (.inr (.inr 106)), some (.inl (zp)), some (.inl (zd)), some (.inl (zs))], [], [], []), []) := rfl
theorem mi_tab_kpzC_0 : ∀ e ∈ ([(132, (4, 0, sb_132))] : mi_T), sc_P e.1 = some e.2 := mi_tb mi_P132 (mi_tb_e)
set_option maxRecDepth 20000 in
theorem ms_kpzC_0 {h : sm_H} {d : Nat} {Q : Option mi_V → sm_H → Prop} {zp zd zs : Int} (hS : ab_Sh sx_sk h) (ok_zp : mi_in zp) (ok_zd : mi_in zd) (ok_zs : mi_in zs) (kon : ∀ h1, me_W [] h h1 → Q none h1) : me_E (d + 14) 132 63 [some (.inr (.inr 106)), some (.inl (zp)), some (.inl (zd)), some (.inl (zs))] [] h Q := mf_seg (mp_kpzC_0 h d zp zd zs) (mi_tab_kpzC_0) hS (mi_okL_c (trivial) (mi_okL_c (ok_zp) (mi_okL_c (ok_zd) (mi_okL_c (ok_zs) (mi_okL_e))))) (mi_okS_e) (mi_al_e) (fun h1 W _ hst => mf_ret (M := (4, 0, sb_132)) rfl rfl rfl hst (mi_al_e) (kon h1 W))
set_option maxRecDepth 20000 in
theorem mt_kpzC {h : sm_H} {d : Nat} {Q : Option mi_V → sm_H → Prop} {zp zd zs : Int} (hS : ab_Sh sx_sk h) (ok_zp : mi_in zp) (ok_zd : mi_in zd) (ok_zs : mi_in zs) (k0 : (∀ h1, ab_Sh sx_sk h1 → ab_Fr [] h h1 → Q none h1)) : me_E (d + 14) 132 63 [some (.inr (.inr 106)), some (.inl (zp)), some (.inl (zd)), some (.inl (zs))] [] h Q := ms_kpzC_0 hS ok_zp ok_zd ok_zs (fun h1 W => (k0) h1 W.1 (W.2.2.2.2.2 _ rfl))
set_option maxRecDepth 20000 in
theorem mp_kpzD_0 (h : sm_H) (d : Nat) (zp zd zs : Int) : mj_path [(132, (4, 0, sb_132))] sx_sk h 0 [] (d + 14, 132, 71, [some (.inr (.inr 106)), some (.inl (zp)), some (.inl (zd)), some (.inl (zs))], [], [], []) = some ((d + 14, 132, 71, [some (.inr (.inr 106)), some (.inl (zp)), some (.inl (zd)), some (.inl (zs))], [], [], []), []) := rfl
theorem mi_tab_kpzD_0 : ∀ e ∈ ([(132, (4, 0, sb_132))] : mi_T), sc_P e.1 = some e.2 := mi_tb mi_P132 (mi_tb_e)
set_option maxRecDepth 20000 in
theorem ms_kpzD_0 {h : sm_H} {d : Nat} {Q : Option mi_V → sm_H → Prop} {zp zd zs : Int} (hS : ab_Sh sx_sk h) (ok_zp : mi_in zp) (ok_zd : mi_in zd) (ok_zs : mi_in zs) (kon : ∀ h1, me_W [] h h1 → Q none h1) : me_E (d + 14) 132 71 [some (.inr (.inr 106)), some (.inl (zp)), some (.inl (zd)), some (.inl (zs))] [] h Q := mf_seg (mp_kpzD_0 h d zp zd zs) (mi_tab_kpzD_0) hS (mi_okL_c (trivial) (mi_okL_c (ok_zp) (mi_okL_c (ok_zd) (mi_okL_c (ok_zs) (mi_okL_e))))) (mi_okS_e) (mi_al_e) (fun h1 W _ hst => mf_ret (M := (4, 0, sb_132)) rfl rfl rfl hst (mi_al_e) (kon h1 W))
set_option maxRecDepth 20000 in
theorem mt_kpzD {h : sm_H} {d : Nat} {Q : Option mi_V → sm_H → Prop} {zp zd zs : Int} (hS : ab_Sh sx_sk h) (ok_zp : mi_in zp) (ok_zd : mi_in zd) (ok_zs : mi_in zs) (k0 : (∀ h1, ab_Sh sx_sk h1 → ab_Fr [] h h1 → Q none h1)) : me_E (d + 14) 132 71 [some (.inr (.inr 106)), some (.inl (zp)), some (.inl (zd)), some (.inl (zs))] [] h Q := ms_kpzD_0 hS ok_zp ok_zd ok_zs (fun h1 W => (k0) h1 W.1 (W.2.2.2.2.2 _ rfl))
set_option maxRecDepth 20000 in
theorem mp_kphA_0 (h : sm_H) (d : Nat) : mj_path [(103, (1, 0, sb_103))] sx_sk h 10 [] (d + 14, 103, 0, [some (.inr (.inr 106))], [], [], []) = some ((d + 14, 103, 16, [some (.inr (.inr 106))], [.inr (.inr 106)], [.inl (13573, (0 : Int)), .inl (13572, (0 : Int)), .inl (13571, (0 : Int))], []), [0 ≤ ((0 : Int)) ∧ ((0 : Int)) ≤ 1, 0 ≤ ((0 : Int)) ∧ ((0 : Int)) ≤ 1, 0 ≤ ((0 : Int)) ∧ ((0 : Int)) ≤ 1, 0 ≤ ((0 : Int)) ∧ ((0 : Int)) ≤ 1]) := rfl
theorem mi_tab_kphA_0 : ∀ e ∈ ([(103, (1, 0, sb_103))] : mi_T), sc_P e.1 = some e.2 := mi_tb mi_P103 (mi_tb_e)
set_option maxRecDepth 20000 in
theorem ms_kphA_0 {h : sm_H} {d : Nat} {Q : Option mi_V → sm_H → Prop} (hS : ab_Sh sx_sk h)  (ho : (0 ≤ ((0 : Int)) ∧ ((0 : Int)) ≤ 1) ∧ (0 ≤ ((0 : Int)) ∧ ((0 : Int)) ≤ 1) ∧ (0 ≤ ((0 : Int)) ∧ ((0 : Int)) ≤ 1) ∧ (0 ≤ ((0 : Int)) ∧ ((0 : Int)) ≤ 1)) (kon : ∀ h1, me_W [.inl (13573, (0 : Int)), .inl (13572, (0 : Int)), .inl (13571, (0 : Int))] h h1 → ∃ Q1, me_E (d + 13) 105 0 (mi_entry 1 [.inr (.inr 106)]) [] h1 Q1 ∧ ∀ w h2, (∀ x, w = some x → mi_ok x) → Q1 w h2 → me_E (d + 14) 103 19 [some (.inr (.inr 106))] (mi_back w []) h2 Q) : me_E (d + 14) 103 0 [some (.inr (.inr 106))] [] h Q := mf_seg (mp_kphA_0 h d ) (mi_tab_kphA_0) hS (mi_okL_c (trivial) (mi_okL_e)) (mi_okS_e) (mi_al (ho.1) (mi_al (ho.2.1) (mi_al (ho.2.2.1) (mi_al (ho.2.2.2) (mi_al_e))))) (fun h1 W _ hst => let ⟨_, k1, k2⟩ := kon h1 W; mf_call (M := (1, 0, sb_103)) (M' := (1, 0, sb_105)) rfl rfl rfl rfl (Nat.le_of_ble_eq_true rfl) (Nat.le_of_ble_eq_true rfl) W.1 k1 k2)
set_option maxRecDepth 20000 in
theorem mt_kphA {h : sm_H} {d : Nat} {Q : Option mi_V → sm_H → Prop} (hS : ab_Sh sx_sk h)  (k0 : (∀ h1, ab_Sh sx_sk h1 → mi_f h1 13571 = (0 : Int) → mi_f h1 13572 = (0 : Int) → mi_f h1 13573 = (0 : Int) → ab_Fr [(13571, 13574)] h h1 → ∃ Q1, me_E (d + 13) 105 0 (mi_entry 1 [.inr (.inr 106)]) [] h1 Q1 ∧ ∀ w h2, (∀ x, w = some x → mi_ok x) → Q1 w h2 → me_E (d + 14) 103 19 [some (.inr (.inr 106))] (mi_back w []) h2 Q)) : me_E (d + 14) 103 0 [some (.inr (.inr 106))] [] h Q := ms_kphA_0 hS ⟨(by decide), (by decide), (by decide), (by decide)⟩ (fun h1 W => (k0) h1 W.1 (W.2.1 13571) (W.2.1 13572) (W.2.1 13573) (W.2.2.2.2.2 _ rfl))
set_option maxRecDepth 20000 in
theorem mp_kphB_0 (h : sm_H) (d : Nat) : mj_path [(103, (1, 0, sb_103))] sx_sk h 6 [1, 1] (d + 14, 103, 19, [some (.inr (.inr 106))], [], [], []) = some ((d + 14, 103, 43, [some (.inr (.inr 106))], [], [], []), [(mi_f h 13571) ≠ ((0 : Int)), (mi_f h 13571) ≠ ((0 : Int))]) := rfl
theorem mi_tab_kphB_0 : ∀ e ∈ ([(103, (1, 0, sb_103))] : mi_T), sc_P e.1 = some e.2 := mi_tb mi_P103 (mi_tb_e)
set_option maxRecDepth 20000 in
theorem ms_kphB_0 {h : sm_H} {d : Nat} {Q : Option mi_V → sm_H → Prop} (hS : ab_Sh sx_sk h)  (ho : ((mi_f h 13571) ≠ ((0 : Int))) ∧ ((mi_f h 13571) ≠ ((0 : Int)))) (kon : ∀ h1, me_W [] h h1 → Q none h1) : me_E (d + 14) 103 19 [some (.inr (.inr 106))] [] h Q := mf_seg (mp_kphB_0 h d ) (mi_tab_kphB_0) hS (mi_okL_c (trivial) (mi_okL_e)) (mi_okS_e) (mi_al (ho.1) (mi_al (ho.2) (mi_al_e))) (fun h1 W _ hst => mf_ret (M := (1, 0, sb_103)) rfl rfl rfl hst (mi_al_e) (kon h1 W))
set_option maxRecDepth 20000 in
theorem mp_kphB_1 (h : sm_H) (d : Nat) : mj_path [(103, (1, 0, sb_103))] sx_sk h 6 [0] (d + 14, 103, 19, [some (.inr (.inr 106))], [], [], []) = some ((d + 14, 103, 29, [some (.inr (.inr 106))], [.inl ((0 : Int)), .inl ((0 : Int)), .inr (.inr 106)], [], []), [(mi_f h 13571) = ((0 : Int))]) := rfl
theorem mi_tab_kphB_1 : ∀ e ∈ ([(103, (1, 0, sb_103))] : mi_T), sc_P e.1 = some e.2 := mi_tb mi_P103 (mi_tb_e)
set_option maxRecDepth 20000 in
theorem ms_kphB_1 {h : sm_H} {d : Nat} {Q : Option mi_V → sm_H → Prop} (hS : ab_Sh sx_sk h)  (ho : ((mi_f h 13571) = ((0 : Int)))) (kon : ∀ h1, me_W [] h h1 → ∃ Q1, me_E (d + 13) 113 0 (mi_entry 4 [.inr (.inr 106), .inl ((0 : Int)), .inl ((0 : Int))]) [] h1 Q1 ∧ ∀ w h2, (∀ x, w = some x → mi_ok x) → Q1 w h2 → me_E (d + 14) 103 32 [some (.inr (.inr 106))] (mi_back w []) h2 Q) : me_E (d + 14) 103 19 [some (.inr (.inr 106))] [] h Q := mf_seg (mp_kphB_1 h d ) (mi_tab_kphB_1) hS (mi_okL_c (trivial) (mi_okL_e)) (mi_okS_e) (mi_al (ho) (mi_al_e)) (fun h1 W _ hst => let ⟨_, k1, k2⟩ := kon h1 W; mf_call (M := (1, 0, sb_103)) (M' := (4, 0, sb_113)) rfl rfl rfl rfl (Nat.le_of_ble_eq_true rfl) (Nat.le_of_ble_eq_true rfl) W.1 k1 k2)
set_option maxRecDepth 20000 in
theorem mt_kphB {h : sm_H} {d : Nat} {Q : Option mi_V → sm_H → Prop} (hS : ab_Sh sx_sk h)  (k0 : (0 ≤ mi_f h 13571 ∧ mi_f h 13571 ≤ 1) → ((mi_f h 13571) ≠ ((0 : Int))) → (∀ h1, ab_Sh sx_sk h1 → ab_Fr [] h h1 → Q none h1)) (k1 : (0 ≤ mi_f h 13571 ∧ mi_f h 13571 ≤ 1) → ((mi_f h 13571) = ((0 : Int))) → (∀ h1, ab_Sh sx_sk h1 → ab_Fr [] h h1 → ∃ Q1, me_E (d + 13) 113 0 (mi_entry 4 [.inr (.inr 106), .inl ((0 : Int)), .inl ((0 : Int))]) [] h1 Q1 ∧ ∀ w h2, (∀ x, w = some x → mi_ok x) → Q1 w h2 → me_E (d + 14) 103 32 [some (.inr (.inr 106))] (mi_back w []) h2 Q)) : me_E (d + 14) 103 19 [some (.inr (.inr 106))] [] h Q := Or.elim (mi_em .ne ((mi_f h 13571)) (((0 : Int)))) (fun c0 => ms_kphB_0 hS ⟨c0, c0⟩ (fun h1 W => (k0 (me_fb hS rfl) c0) h1 W.1 (W.2.2.2.2.2 _ rfl))) (fun c0 => ms_kphB_1 hS (c0) (fun h1 W => (k1 (me_fb hS rfl) c0) h1 W.1 (W.2.2.2.2.2 _ rfl)))
set_option maxRecDepth 20000 in
theorem mp_kphC_0 (h : sm_H) (d : Nat) : mj_path [(103, (1, 0, sb_103)), (156, (1, 0, sb_156)), (111, (1, 0, sb_111))] sx_sk h 3 [1] (d + 14, 103, 32, [some (.inr (.inr 106))], [], [], []) = some ((d + 14, 103, 43, [some (.inr (.inr 106))], [], [], []), [(mi_f h 13571) ≠ ((0 : Int))]) := rfl
theorem mi_tab_kphC_0 : ∀ e ∈ ([(103, (1, 0, sb_103)), (156, (1, 0, sb_156)), (111, (1, 0, sb_111))] : mi_T), sc_P e.1 = some e.2 := mi_tb mi_P103 (mi_tb mi_P156 (mi_tb mi_P111 (mi_tb_e)))
set_option maxRecDepth 20000 in
theorem ms_kphC_0 {h : sm_H} {d : Nat} {Q : Option mi_V → sm_H → Prop} (hS : ab_Sh sx_sk h)  (ho : ((mi_f h 13571) ≠ ((0 : Int)))) (kon : ∀ h1, me_W [] h h1 → Q none h1) : me_E (d + 14) 103 32 [some (.inr (.inr 106))] [] h Q := mf_seg (mp_kphC_0 h d ) (mi_tab_kphC_0) hS (mi_okL_c (trivial) (mi_okL_e)) (mi_okS_e) (mi_al (ho) (mi_al_e)) (fun h1 W _ hst => mf_ret (M := (1, 0, sb_103)) rfl rfl rfl hst (mi_al_e) (kon h1 W))
set_option maxRecDepth 20000 in
theorem mp_kphC_1 (h : sm_H) (d : Nat) : mj_path [(103, (1, 0, sb_103)), (156, (1, 0, sb_156)), (111, (1, 0, sb_111))] sx_sk h 9 [0, 1] (d + 14, 103, 32, [some (.inr (.inr 106))], [], [], []) = some ((d + 14, 103, 43, [some (.inr (.inr 106))], [], [], []), [(mi_f h 13571) = ((0 : Int)), (mi_f h 13577) = ((0 : Int))]) := rfl
theorem mi_tab_kphC_1 : ∀ e ∈ ([(103, (1, 0, sb_103)), (156, (1, 0, sb_156)), (111, (1, 0, sb_111))] : mi_T), sc_P e.1 = some e.2 := mi_tb mi_P103 (mi_tb mi_P156 (mi_tb mi_P111 (mi_tb_e)))
set_option maxRecDepth 20000 in
theorem ms_kphC_1 {h : sm_H} {d : Nat} {Q : Option mi_V → sm_H → Prop} (hS : ab_Sh sx_sk h)  (ho : ((mi_f h 13571) = ((0 : Int))) ∧ ((mi_f h 13577) = ((0 : Int)))) (kon : ∀ h1, me_W [] h h1 → Q none h1) : me_E (d + 14) 103 32 [some (.inr (.inr 106))] [] h Q := mf_seg (mp_kphC_1 h d ) (mi_tab_kphC_1) hS (mi_okL_c (trivial) (mi_okL_e)) (mi_okS_e) (mi_al (ho.1) (mi_al (ho.2) (mi_al_e))) (fun h1 W _ hst => mf_ret (M := (1, 0, sb_103)) rfl rfl rfl hst (mi_al_e) (kon h1 W))
set_option maxRecDepth 20000 in
theorem mp_kphC_2 (h : sm_H) (d : Nat) : mj_path [(103, (1, 0, sb_103)), (156, (1, 0, sb_156)), (111, (1, 0, sb_111))] sx_sk h 19 [0, 0] (d + 14, 103, 32, [some (.inr (.inr 106))], [], [], []) = some ((d + 14, 103, 43, [some (.inr (.inr 106))], [], [.inl (13571, (1 : Int)), .inl (13579, mi_f h 13576)], []), [(mi_f h 13571) = ((0 : Int)), (mi_f h 13577) ≠ ((0 : Int)), 0 ≤ ((1 : Int)) ∧ ((1 : Int)) ≤ 1, 0 ≤ ((1 : Int)) ∧ ((1 : Int)) ≤ 1]) := rfl
theorem mi_tab_kphC_2 : ∀ e ∈ ([(103, (1, 0, sb_103)), (156, (1, 0, sb_156)), (111, (1, 0, sb_111))] : mi_T), sc_P e.1 = some e.2 := mi_tb mi_P103 (mi_tb mi_P156 (mi_tb mi_P111 (mi_tb_e)))
set_option maxRecDepth 20000 in
theorem ms_kphC_2 {h : sm_H} {d : Nat} {Q : Option mi_V → sm_H → Prop} (hS : ab_Sh sx_sk h)  (ho : ((mi_f h 13571) = ((0 : Int))) ∧ ((mi_f h 13577) ≠ ((0 : Int))) ∧ (0 ≤ ((1 : Int)) ∧ ((1 : Int)) ≤ 1) ∧ (0 ≤ ((1 : Int)) ∧ ((1 : Int)) ≤ 1)) (kon : ∀ h1, me_W [.inl (13571, (1 : Int)), .inl (13579, mi_f h 13576)] h h1 → Q none h1) : me_E (d + 14) 103 32 [some (.inr (.inr 106))] [] h Q := mf_seg (mp_kphC_2 h d ) (mi_tab_kphC_2) hS (mi_okL_c (trivial) (mi_okL_e)) (mi_okS_e) (mi_al (ho.1) (mi_al (ho.2.1) (mi_al (ho.2.2.1) (mi_al (ho.2.2.2) (mi_al_e))))) (fun h1 W _ hst => mf_ret (M := (1, 0, sb_103)) rfl rfl rfl hst (mi_al_e) (kon h1 W))
set_option maxRecDepth 20000 in
theorem mt_kphC {h : sm_H} {d : Nat} {Q : Option mi_V → sm_H → Prop} (hS : ab_Sh sx_sk h)  (k0 : (0 ≤ mi_f h 13571 ∧ mi_f h 13571 ≤ 1) → ((mi_f h 13571) ≠ ((0 : Int))) → (∀ h1, ab_Sh sx_sk h1 → ab_Fr [] h h1 → Q none h1)) (k1 : (0 ≤ mi_f h 13571 ∧ mi_f h 13571 ≤ 1) → ((-2147483648) ≤ mi_f h 13577 ∧ mi_f h 13577 ≤ 2147483647) → ((mi_f h 13571) = ((0 : Int))) → ((mi_f h 13577) = ((0 : Int))) → (∀ h1, ab_Sh sx_sk h1 → ab_Fr [] h h1 → Q none h1)) (k2 : (0 ≤ mi_f h 13571 ∧ mi_f h 13571 ≤ 1) → ((-2147483648) ≤ mi_f h 13577 ∧ mi_f h 13577 ≤ 2147483647) → ((mi_f h 13571) = ((0 : Int))) → ((mi_f h 13577) ≠ ((0 : Int))) → (∀ h1, ab_Sh sx_sk h1 → mi_f h1 13571 = (1 : Int) → mi_f h1 13579 = mi_f h 13576 → ab_Fr [(13571, 13572), (13579, 13580)] h h1 → Q none h1)) : me_E (d + 14) 103 32 [some (.inr (.inr 106))] [] h Q := Or.elim (mi_em .ne ((mi_f h 13571)) (((0 : Int)))) (fun c0 => ms_kphC_0 hS (c0) (fun h1 W => (k0 (me_fb hS rfl) c0) h1 W.1 (W.2.2.2.2.2 _ rfl))) (fun c0 => Or.elim (mi_em .eq ((mi_f h 13577)) (((0 : Int)))) (fun c1 => ms_kphC_1 hS ⟨c0, c1⟩ (fun h1 W => (k1 (me_fb hS rfl) (me_fb hS rfl) c0 c1) h1 W.1 (W.2.2.2.2.2 _ rfl))) (fun c1 => ms_kphC_2 hS ⟨c0, c1, (by decide), (by decide)⟩ (fun h1 W => (k2 (me_fb hS rfl) (me_fb hS rfl) c0 c1) h1 W.1 (W.2.1 13571) (W.2.1 13579) (W.2.2.2.2.2 _ rfl))))
set_option maxRecDepth 20000 in
theorem mp_kpbA_0 (h : sm_H) (d : Nat) : mj_path [(105, (1, 0, sb_105)), (13, (1, 0, sb_13))] sx_sk h 14 [] (d + 13, 105, 0, [some (.inr (.inr 106))], [], [], []) = some ((d + 13, 105, 18, [some (.inr (.inr 106))], [.inr (.inr 106)], [.inl (13575, (0 : Int)), .inl (13579, (-1 : Int)), .inl (13056, (0 : Int))], []), [0 ≤ ((0 : Int)) ∧ ((0 : Int)) ≤ 161]) := rfl
theorem mi_tab_kpbA_0 : ∀ e ∈ ([(105, (1, 0, sb_105)), (13, (1, 0, sb_13))] : mi_T), sc_P e.1 = some e.2 := mi_tb mi_P105 (mi_tb mi_P13 (mi_tb_e))
set_option maxRecDepth 20000 in
theorem ms_kpbA_0 {h : sm_H} {d : Nat} {Q : Option mi_V → sm_H → Prop} (hS : ab_Sh sx_sk h)  (ho : (0 ≤ ((0 : Int)) ∧ ((0 : Int)) ≤ 161)) (kon : ∀ h1, me_W [.inl (13575, (0 : Int)), .inl (13579, (-1 : Int)), .inl (13056, (0 : Int))] h h1 → ∃ Q1, me_E (d + 12) 106 0 (mi_entry 2 [.inr (.inr 106)]) [] h1 Q1 ∧ ∀ w h2, (∀ x, w = some x → mi_ok x) → Q1 w h2 → me_E (d + 13) 105 21 [some (.inr (.inr 106))] (mi_back w []) h2 Q) : me_E (d + 13) 105 0 [some (.inr (.inr 106))] [] h Q := mf_seg (mp_kpbA_0 h d ) (mi_tab_kpbA_0) hS (mi_okL_c (trivial) (mi_okL_e)) (mi_okS_e) (mi_al (ho) (mi_al_e)) (fun h1 W _ hst => let ⟨_, k1, k2⟩ := kon h1 W; mf_call (M := (1, 0, sb_105)) (M' := (2, 0, sb_106)) rfl rfl rfl rfl (Nat.le_of_ble_eq_true rfl) (Nat.le_of_ble_eq_true rfl) W.1 k1 k2)
set_option maxRecDepth 20000 in
theorem mt_kpbA {h : sm_H} {d : Nat} {Q : Option mi_V → sm_H → Prop} (hS : ab_Sh sx_sk h)  (k0 : (∀ h1, ab_Sh sx_sk h1 → mi_f h1 13056 = (0 : Int) → mi_f h1 13575 = (0 : Int) → mi_f h1 13579 = (-1 : Int) → ab_Fr [(13056, 13057), (13575, 13576), (13579, 13580)] h h1 → ∃ Q1, me_E (d + 12) 106 0 (mi_entry 2 [.inr (.inr 106)]) [] h1 Q1 ∧ ∀ w h2, (∀ x, w = some x → mi_ok x) → Q1 w h2 → me_E (d + 13) 105 21 [some (.inr (.inr 106))] (mi_back w []) h2 Q)) : me_E (d + 13) 105 0 [some (.inr (.inr 106))] [] h Q := ms_kpbA_0 hS ((by decide)) (fun h1 W => (k0) h1 W.1 (W.2.1 13056) (W.2.1 13575) (W.2.1 13579) (W.2.2.2.2.2 _ rfl))
set_option maxRecDepth 20000 in
theorem mp_kpbB_0 (h : sm_H) (d : Nat) : mj_path [(105, (1, 0, sb_105))] sx_sk h 0 [] (d + 13, 105, 21, [some (.inr (.inr 106))], [], [], []) = some ((d + 13, 105, 21, [some (.inr (.inr 106))], [], [], []), []) := rfl
theorem mi_tab_kpbB_0 : ∀ e ∈ ([(105, (1, 0, sb_105))] : mi_T), sc_P e.1 = some e.2 := mi_tb mi_P105 (mi_tb_e)
set_option maxRecDepth 20000 in
theorem ms_kpbB_0 {h : sm_H} {d : Nat} {Q : Option mi_V → sm_H → Prop} (hS : ab_Sh sx_sk h)  (kon : ∀ h1, me_W [] h h1 → Q none h1) : me_E (d + 13) 105 21 [some (.inr (.inr 106))] [] h Q := mf_seg (mp_kpbB_0 h d ) (mi_tab_kpbB_0) hS (mi_okL_c (trivial) (mi_okL_e)) (mi_okS_e) (mi_al_e) (fun h1 W _ hst => mf_ret (M := (1, 0, sb_105)) rfl rfl rfl hst (mi_al_e) (kon h1 W))
set_option maxRecDepth 20000 in
theorem mt_kpbB {h : sm_H} {d : Nat} {Q : Option mi_V → sm_H → Prop} (hS : ab_Sh sx_sk h)  (k0 : (∀ h1, ab_Sh sx_sk h1 → ab_Fr [] h h1 → Q none h1)) : me_E (d + 13) 105 21 [some (.inr (.inr 106))] [] h Q := ms_kpbB_0 hS (fun h1 W => (k0) h1 W.1 (W.2.2.2.2.2 _ rfl))
/-! segments of the class: takeToken -/
set_option maxRecDepth 20000 in
theorem mp_kptA_0 (h : sm_H) (d : Nat) : mj_path [(106, (2, 0, sb_106))] sx_sk h 5 [] (d + 8, 106, 0, [some (.inr (.inr 106)), none], [], [], []) = some ((d + 8, 106, 9, [some (.inr (.inr 106)), none], [.inl (mi_f h 13575), .inr (.inr 54), .inr (.inr 106)], [], []), []) := rfl
theorem mi_tab_kptA_0 : ∀ e ∈ ([(106, (2, 0, sb_106))] : mi_T), sc_P e.1 = some e.2 := mi_tb mi_P106 (mi_tb_e)
set_option maxRecDepth 20000 in
theorem ms_kptA_0 {h : sm_H} {d : Nat} {Q : Option mi_V → sm_H → Prop} (hS : ab_Sh sx_sk h)  (kon : ∀ h1, me_W [] h h1 → ∃ Q1, me_E (d + 7) 19 0 (mi_entry 3 [.inr (.inr 54), .inl (mi_f h 13575)]) [] h1 Q1 ∧ ∀ w h2, (∀ x, w = some x → mi_ok x) → Q1 w h2 → me_E (d + 8) 106 12 [some (.inr (.inr 106)), none] (mi_back w [.inr (.inr 106)]) h2 Q) : me_E (d + 8) 106 0 [some (.inr (.inr 106)), none] [] h Q := mf_seg (mp_kptA_0 h d ) (mi_tab_kptA_0) hS (mi_okL_c (trivial) (mi_okL_n (mi_okL_e))) (mi_okS_e) (mi_al_e) (fun h1 W _ hst => let ⟨_, k1, k2⟩ := kon h1 W; mf_call (M := (2, 0, sb_106)) (M' := (3, 1, sb_19)) rfl rfl rfl rfl (Nat.le_of_ble_eq_true rfl) (Nat.le_of_ble_eq_true rfl) W.1 k1 k2)
set_option maxRecDepth 20000 in
theorem mt_kptA {h : sm_H} {d : Nat} {Q : Option mi_V → sm_H → Prop} (hS : ab_Sh sx_sk h)  (k0 : (∀ h1, ab_Sh sx_sk h1 → ab_Fr [] h h1 → ∃ Q1, me_E (d + 7) 19 0 (mi_entry 3 [.inr (.inr 54), .inl (mi_f h 13575)]) [] h1 Q1 ∧ ∀ w h2, (∀ x, w = some x → mi_ok x) → Q1 w h2 → me_E (d + 8) 106 12 [some (.inr (.inr 106)), none] (mi_back w [.inr (.inr 106)]) h2 Q)) : me_E (d + 8) 106 0 [some (.inr (.inr 106)), none] [] h Q := ms_kptA_0 hS (fun h1 W => (k0) h1 W.1 (W.2.2.2.2.2 _ rfl))
set_option maxRecDepth 20000 in
theorem mp_kptB_0 (h : sm_H) (d : Nat) (zz : Int) : mj_path [(106, (2, 0, sb_106)), (20, (2, 5, sb_20))] sx_sk h 11 [1] (d + 8, 106, 12, [some (.inr (.inr 106)), none], [.inl (zz), .inr (.inr 106)], [], []) = some ((d + 8, 106, 27, [some (.inr (.inr 106)), some (.inl ((32 : Int)))], [], [.inl (13576, zz)], []), [0 ≤ zz ∧ zz ≤ 161, zz < ((0 : Int)), 0 ≤ ((32 : Int)) ∧ ((32 : Int)) ≤ 65535]) := rfl
theorem mi_tab_kptB_0 : ∀ e ∈ ([(106, (2, 0, sb_106)), (20, (2, 5, sb_20))] : mi_T), sc_P e.1 = some e.2 := mi_tb mi_P106 (mi_tb mi_P20 (mi_tb_e))
set_option maxRecDepth 20000 in
theorem ms_kptB_0 {h : sm_H} {d : Nat} {Q : Option mi_V → sm_H → Prop} {zz : Int} (hS : ab_Sh sx_sk h) (ok_zz : mi_in zz) (ho : (0 ≤ zz ∧ zz ≤ 161) ∧ (zz < ((0 : Int))) ∧ (0 ≤ ((32 : Int)) ∧ ((32 : Int)) ≤ 65535)) (kon : ∀ h1, me_W [.inl (13576, zz)] h h1 → me_E (d + 8) 106 27 [some (.inr (.inr 106)), some (.inl ((32 : Int)))] [] h1 Q) : me_E (d + 8) 106 12 [some (.inr (.inr 106)), none] [.inl (zz), .inr (.inr 106)] h Q := mf_seg (mp_kptB_0 h d zz) (mi_tab_kptB_0) hS (mi_okL_c (trivial) (mi_okL_n (mi_okL_e))) (mi_okS_cons (ok_zz) (mi_okS_cons (trivial) (mi_okS_e))) (mi_al (ho.1) (mi_al (ho.2.1) (mi_al (ho.2.2) (mi_al_e)))) (fun h1 W _ hst => kon h1 W)
set_option maxRecDepth 20000 in
theorem mp_kptB_1 (h : sm_H) (d : Nat) (zz : Int) : mj_path [(106, (2, 0, sb_106)), (20, (2, 5, sb_20))] sx_sk h 15 [0, 1] (d + 8, 106, 12, [some (.inr (.inr 106)), none], [.inl (zz), .inr (.inr 106)], [], []) = some ((d + 8, 106, 27, [some (.inr (.inr 106)), some (.inl ((32 : Int)))], [], [.inl (13576, zz)], []), [0 ≤ zz ∧ zz ≤ 161, ((0 : Int)) ≤ zz, (mi_f h 6913) ≤ zz, 0 ≤ ((32 : Int)) ∧ ((32 : Int)) ≤ 65535]) := rfl
theorem mi_tab_kptB_1 : ∀ e ∈ ([(106, (2, 0, sb_106)), (20, (2, 5, sb_20))] : mi_T), sc_P e.1 = some e.2 := mi_tb mi_P106 (mi_tb mi_P20 (mi_tb_e))
set_option maxRecDepth 20000 in
theorem ms_kptB_1 {h : sm_H} {d : Nat} {Q : Option mi_V → sm_H → Prop} {zz : Int} (hS : ab_Sh sx_sk h) (ok_zz : mi_in zz) (ho : (0 ≤ zz ∧ zz ≤ 161) ∧ (((0 : Int)) ≤ zz) ∧ ((mi_f h 6913) ≤ zz) ∧ (0 ≤ ((32 : Int)) ∧ ((32 : Int)) ≤ 65535)) (kon : ∀ h1, me_W [.inl (13576, zz)] h h1 → me_E (d + 8) 106 27 [some (.inr (.inr 106)), some (.inl ((32 : Int)))] [] h1 Q) : me_E (d + 8) 106 12 [some (.inr (.inr 106)), none] [.inl (zz), .inr (.inr 106)] h Q := mf_seg (mp_kptB_1 h d zz) (mi_tab_kptB_1) hS (mi_okL_c (trivial) (mi_okL_n (mi_okL_e))) (mi_okS_cons (ok_zz) (mi_okS_cons (trivial) (mi_okS_e))) (mi_al (ho.1) (mi_al (ho.2.1) (mi_al (ho.2.2.1) (mi_al (ho.2.2.2) (mi_al_e))))) (fun h1 W _ hst => kon h1 W)
set_option maxRecDepth 20000 in
theorem mp_kptB_2 (h : sm_H) (d : Nat) (zz : Int) : mj_path [(106, (2, 0, sb_106)), (20, (2, 5, sb_20))] sx_sk h 20 [0, 0, 1] (d + 8, 106, 12, [some (.inr (.inr 106)), none], [.inl (zz), .inr (.inr 106)], [], []) = some ((d + 8, 106, 27, [some (.inr (.inr 106)), some (.inl ((32 : Int)))], [], [.inl (13576, zz)], []), [0 ≤ zz ∧ zz ≤ 161, ((0 : Int)) ≤ zz, zz < (mi_f h 6913), ((160 : Int)) ≤ zz, 0 ≤ ((32 : Int)) ∧ ((32 : Int)) ≤ 65535]) := rfl
theorem mi_tab_kptB_2 : ∀ e ∈ ([(106, (2, 0, sb_106)), (20, (2, 5, sb_20))] : mi_T), sc_P e.1 = some e.2 := mi_tb mi_P106 (mi_tb mi_P20 (mi_tb_e))
set_option maxRecDepth 20000 in
theorem ms_kptB_2 {h : sm_H} {d : Nat} {Q : Option mi_V → sm_H → Prop} {zz : Int} (hS : ab_Sh sx_sk h) (ok_zz : mi_in zz) (ho : (0 ≤ zz ∧ zz ≤ 161) ∧ (((0 : Int)) ≤ zz) ∧ (zz < (mi_f h 6913)) ∧ (((160 : Int)) ≤ zz) ∧ (0 ≤ ((32 : Int)) ∧ ((32 : Int)) ≤ 65535)) (kon : ∀ h1, me_W [.inl (13576, zz)] h h1 → me_E (d + 8) 106 27 [some (.inr (.inr 106)), some (.inl ((32 : Int)))] [] h1 Q) : me_E (d + 8) 106 12 [some (.inr (.inr 106)), none] [.inl (zz), .inr (.inr 106)] h Q := mf_seg (mp_kptB_2 h d zz) (mi_tab_kptB_2) hS (mi_okL_c (trivial) (mi_okL_n (mi_okL_e))) (mi_okS_cons (ok_zz) (mi_okS_cons (trivial) (mi_okS_e))) (mi_al (ho.1) (mi_al (ho.2.1) (mi_al (ho.2.2.1) (mi_al (ho.2.2.2.1) (mi_al (ho.2.2.2.2) (mi_al_e)))))) (fun h1 W _ hst => kon h1 W)
set_option maxRecDepth 20000 in
theorem mp_kptB_3 (h : sm_H) (d : Nat) (zz : Int) : mj_path [(106, (2, 0, sb_106)), (20, (2, 5, sb_20))] sx_sk h 24 [0, 0, 0] (d + 8, 106, 12, [some (.inr (.inr 106)), none], [.inl (zz), .inr (.inr 106)], [], []) = some ((d + 8, 106, 27, [some (.inr (.inr 106)), some (.inl (mi_a h 55 (Int.toNat zz)))], [], [.inl (13576, zz)], []), [0 ≤ zz ∧ zz ≤ 161, ((0 : Int)) ≤ zz, zz < (mi_f h 6913), zz < ((160 : Int)), 0 ≤ zz ∧ zz < 160, 0 ≤ (mi_a h 55 (Int.toNat zz)) ∧ (mi_a h 55 (Int.toNat zz)) ≤ 65535]) := rfl
theorem mi_tab_kptB_3 : ∀ e ∈ ([(106, (2, 0, sb_106)), (20, (2, 5, sb_20))] : mi_T), sc_P e.1 = some e.2 := mi_tb mi_P106 (mi_tb mi_P20 (mi_tb_e))
set_option maxRecDepth 20000 in
theorem ms_kptB_3 {h : sm_H} {d : Nat} {Q : Option mi_V → sm_H → Prop} {zz : Int} (hS : ab_Sh sx_sk h) (ok_zz : mi_in zz) (ho : (0 ≤ zz ∧ zz ≤ 161) ∧ (((0 : Int)) ≤ zz) ∧ (zz < (mi_f h 6913)) ∧ (zz < ((160 : Int))) ∧ (0 ≤ zz ∧ zz < 160) ∧ (0 ≤ (mi_a h 55 (Int.toNat zz)) ∧ (mi_a h 55 (Int.toNat zz)) ≤ 65535)) (kon : ∀ h1, me_W [.inl (13576, zz)] h h1 → me_E (d + 8) 106 27 [some (.inr (.inr 106)), some (.inl (mi_a h 55 (Int.toNat zz)))] [] h1 Q) : me_E (d + 8) 106 12 [some (.inr (.inr 106)), none] [.inl (zz), .inr (.inr 106)] h Q := mf_seg (mp_kptB_3 h d zz) (mi_tab_kptB_3) hS (mi_okL_c (trivial) (mi_okL_n (mi_okL_e))) (mi_okS_cons (ok_zz) (mi_okS_cons (trivial) (mi_okS_e))) (mi_al (ho.1) (mi_al (ho.2.1) (mi_al (ho.2.2.1) (mi_al (ho.2.2.2.1) (mi_al (ho.2.2.2.2.1) (mi_al (ho.2.2.2.2.2) (mi_al_e))))))) (fun h1 W _ hst => kon h1 W)
set_option maxRecDepth 20000 in
theorem mt_kptB {h : sm_H} {d : Nat} {Q : Option mi_V → sm_H → Prop} {zz : Int} (hS : ab_Sh sx_sk h) (ok_zz : mi_in zz) (k0 : (zz < ((0 : Int))) → ((0 ≤ zz ∧ zz ≤ 161)) ∧ (∀ h1, ab_Sh sx_sk h1 → mi_f h1 13576 = zz → ab_Fr [(13576, 13577)] h h1 → me_E (d + 8) 106 27 [some (.inr (.inr 106)), some (.inl ((32 : Int)))] [] h1 Q)) (k1 : (0 ≤ mi_f h 6913 ∧ mi_f h 6913 ≤ 160) → (((0 : Int)) ≤ zz) → ((mi_f h 6913) ≤ zz) → ((0 ≤ zz ∧ zz ≤ 161)) ∧ (∀ h1, ab_Sh sx_sk h1 → mi_f h1 13576 = zz → ab_Fr [(13576, 13577)] h h1 → me_E (d + 8) 106 27 [some (.inr (.inr 106)), some (.inl ((32 : Int)))] [] h1 Q)) (k2 : (0 ≤ mi_f h 6913 ∧ mi_f h 6913 ≤ 160) → (((0 : Int)) ≤ zz) → (zz < (mi_f h 6913)) → (((160 : Int)) ≤ zz) → ((0 ≤ zz ∧ zz ≤ 161)) ∧ (∀ h1, ab_Sh sx_sk h1 → mi_f h1 13576 = zz → ab_Fr [(13576, 13577)] h h1 → me_E (d + 8) 106 27 [some (.inr (.inr 106)), some (.inl ((32 : Int)))] [] h1 Q)) (k3 : (0 ≤ mi_f h 6913 ∧ mi_f h 6913 ≤ 160) → (((0 : Int)) ≤ zz) → (zz < (mi_f h 6913)) → (zz < ((160 : Int))) → ((0 ≤ zz ∧ zz ≤ 161) ∧ (0 ≤ zz ∧ zz < 160) ∧ (0 ≤ (mi_a h 55 (Int.toNat zz)) ∧ (mi_a h 55 (Int.toNat zz)) ≤ 65535)) ∧ (∀ h1, ab_Sh sx_sk h1 → mi_f h1 13576 = zz → ab_Fr [(13576, 13577)] h h1 → me_E (d + 8) 106 27 [some (.inr (.inr 106)), some (.inl (mi_a h 55 (Int.toNat zz)))] [] h1 Q)) : me_E (d + 8) 106 12 [some (.inr (.inr 106)), none] [.inl (zz), .inr (.inr 106)] h Q := Or.elim (mi_em .lt (zz) (((0 : Int)))) (fun c0 => ms_kptB_0 hS ok_zz ⟨(k0 c0).1, c0, (by decide)⟩ (fun h1 W => (k0 c0).2 h1 W.1 (W.2.1 13576) (W.2.2.2.2.2 _ rfl))) (fun c0 => Or.elim (mi_em .ge (zz) ((mi_f h 6913))) (fun c1 => ms_kptB_1 hS ok_zz ⟨(k1 (me_fb hS rfl) c0 c1).1, c0, c1, (by decide)⟩ (fun h1 W => (k1 (me_fb hS rfl) c0 c1).2 h1 W.1 (W.2.1 13576) (W.2.2.2.2.2 _ rfl))) (fun c1 => Or.elim (mi_em .ge (zz) (((160 : Int)))) (fun c2 => ms_kptB_2 hS ok_zz ⟨(k2 (me_fb hS rfl) c0 c1 c2).1, c0, c1, c2, (by decide)⟩ (fun h1 W => (k2 (me_fb hS rfl) c0 c1 c2).2 h1 W.1 (W.2.1 13576) (W.2.2.2.2.2 _ rfl))) (fun c2 => ms_kptB_3 hS ok_zz ⟨(k3 (me_fb hS rfl) c0 c1 c2).1.1, c0, c1, c2, (k3 (me_fb hS rfl) c0 c1 c2).1.2.1, (k3 (me_fb hS rfl) c0 c1 c2).1.2.2⟩ (fun h1 W => (k3 (me_fb hS rfl) c0 c1 c2).2 h1 W.1 (W.2.1 13576) (W.2.2.2.2.2 _ rfl)))))
set_option maxRecDepth 20000 in
theorem mp_kptC_0 (h : sm_H) (d : Nat) (zc : Int) : mj_path [(106, (2, 0, sb_106)), (22, (1, 1, sb_22)), (37, (1, 4, sb_37)), (23, (1, 4, sb_23)), (38, (1, 1, sb_38))] sx_sk h 39 [1, 1, 1, 1, 1, 8] (d + 8, 106, 27, [some (.inr (.inr 106)), some (.inl (zc))], [], [], []) = some ((d + 8, 106, 102, [some (.inr (.inr 106)), some (.inl (zc))], [.inl (-zc), .inl ((-1 : Int)), .inr (.inr 106), .inr (.inr 106)], [.inl (13575, (mi_f h 13576) + ((1 : Int)))], []), [(mi_f h 13576) < (mi_f h 6913), zc < ((48 : Int)), ((0 : Int)) = 0 ∨ ((0 : Int)) = 1, ((0 : Int)) = ((0 : Int)), zc < ((97 : Int)), ((0 : Int)) = 0 ∨ ((0 : Int)) = 1, ((0 : Int)) = ((0 : Int)), -2147483648 ≤ (mi_f h 13576) + ((1 : Int)) ∧ (mi_f h 13576) + ((1 : Int)) ≤ 2147483647, 0 ≤ ((mi_f h 13576) + ((1 : Int))) ∧ ((mi_f h 13576) + ((1 : Int))) ≤ 161, -2147483648 ≤ (-zc) ∧ (-zc) ≤ 2147483647]) := rfl
theorem mi_tab_kptC_0 : ∀ e ∈ ([(106, (2, 0, sb_106)), (22, (1, 1, sb_22)), (37, (1, 4, sb_37)), (23, (1, 4, sb_23)), (38, (1, 1, sb_38))] : mi_T), sc_P e.1 = some e.2 := mi_tb mi_P106 (mi_tb mi_P22 (mi_tb mi_P37 (mi_tb mi_P23 (mi_tb mi_P38 (mi_tb_e)))))
set_option maxRecDepth 20000 in
theorem ms_kptC_0 {h : sm_H} {d : Nat} {Q : Option mi_V → sm_H → Prop} {zc : Int} (hS : ab_Sh sx_sk h) (ok_zc : mi_in zc) (ho : ((mi_f h 13576) < (mi_f h 6913)) ∧ (zc < ((48 : Int))) ∧ (((0 : Int)) = 0 ∨ ((0 : Int)) = 1) ∧ (((0 : Int)) = ((0 : Int))) ∧ (zc < ((97 : Int))) ∧ (((0 : Int)) = 0 ∨ ((0 : Int)) = 1) ∧ (((0 : Int)) = ((0 : Int))) ∧ (-2147483648 ≤ (mi_f h 13576) + ((1 : Int)) ∧ (mi_f h 13576) + ((1 : Int)) ≤ 2147483647) ∧ (0 ≤ ((mi_f h 13576) + ((1 : Int))) ∧ ((mi_f h 13576) + ((1 : Int))) ≤ 161) ∧ (-2147483648 ≤ (-zc) ∧ (-zc) ≤ 2147483647)) (kon : ∀ h1, me_W [.inl (13575, (mi_f h 13576) + ((1 : Int)))] h h1 → ∃ Q1, me_E (d + 7) 110 0 (mi_entry 4 [.inr (.inr 106), .inl ((-1 : Int)), .inl (-zc)]) [] h1 Q1 ∧ ∀ w h2, (∀ x, w = some x → mi_ok x) → Q1 w h2 → me_E (d + 8) 106 105 [some (.inr (.inr 106)), some (.inl (zc))] (mi_back w [.inr (.inr 106)]) h2 Q) : me_E (d + 8) 106 27 [some (.inr (.inr 106)), some (.inl (zc))] [] h Q := mf_seg (mp_kptC_0 h d zc) (mi_tab_kptC_0) hS (mi_okL_c (trivial) (mi_okL_c (ok_zc) (mi_okL_e))) (mi_okS_e) (mi_al (ho.1) (mi_al (ho.2.1) (mi_al (ho.2.2.1) (mi_al (ho.2.2.2.1) (mi_al (ho.2.2.2.2.1) (mi_al (ho.2.2.2.2.2.1) (mi_al (ho.2.2.2.2.2.2.1) (mi_al (ho.2.2.2.2.2.2.2.1) (mi_al (ho.2.2.2.2.2.2.2.2.1) (mi_al (ho.2.2.2.2.2.2.2.2.2) (mi_al_e))))))))))) (fun h1 W _ hst => let ⟨_, k1, k2⟩ := kon h1 W; mf_call (M := (2, 0, sb_106)) (M' := (4, 1, sb_110)) rfl rfl rfl rfl (Nat.le_of_ble_eq_true rfl) (Nat.le_of_ble_eq_true rfl) W.1 k1 k2)
set_option maxRecDepth 20000 in
theorem mp_kptC_1 (h : sm_H) (d : Nat) (zc : Int) : mj_path [(106, (2, 0, sb_106)), (22, (1, 1, sb_22)), (37, (1, 4, sb_37)), (23, (1, 4, sb_23)), (38, (1, 1, sb_38))] sx_sk h 42 [1, 1, 1, 0, 1, 1, 8] (d + 8, 106, 27, [some (.inr (.inr 106)), some (.inl (zc))], [], [], []) = some ((d + 8, 106, 102, [some (.inr (.inr 106)), some (.inl (zc))], [.inl (-zc), .inl ((-1 : Int)), .inr (.inr 106), .inr (.inr 106)], [.inl (13575, (mi_f h 13576) + ((1 : Int)))], []), [(mi_f h 13576) < (mi_f h 6913), zc < ((48 : Int)), ((0 : Int)) = 0 ∨ ((0 : Int)) = 1, ((0 : Int)) = ((0 : Int)), ((97 : Int)) ≤ zc, ((122 : Int)) < zc, ((0 : Int)) = 0 ∨ ((0 : Int)) = 1, ((0 : Int)) = ((0 : Int)), -2147483648 ≤ (mi_f h 13576) + ((1 : Int)) ∧ (mi_f h 13576) + ((1 : Int)) ≤ 2147483647, 0 ≤ ((mi_f h 13576) + ((1 : Int))) ∧ ((mi_f h 13576) + ((1 : Int))) ≤ 161, -2147483648 ≤ (-zc) ∧ (-zc) ≤ 2147483647]) := rfl
theorem mi_tab_kptC_1 : ∀ e ∈ ([(106, (2, 0, sb_106)), (22, (1, 1, sb_22)), (37, (1, 4, sb_37)), (23, (1, 4, sb_23)), (38, (1, 1, sb_38))] : mi_T), sc_P e.1 = some e.2 := mi_tb mi_P106 (mi_tb mi_P22 (mi_tb mi_P37 (mi_tb mi_P23 (mi_tb mi_P38 (mi_tb_e)))))
set_option maxRecDepth 20000 in
theorem ms_kptC_1 {h : sm_H} {d : Nat} {Q : Option mi_V → sm_H → Prop} {zc : Int} (hS : ab_Sh sx_sk h) (ok_zc : mi_in zc) (ho : ((mi_f h 13576) < (mi_f h 6913)) ∧ (zc < ((48 : Int))) ∧ (((0 : Int)) = 0 ∨ ((0 : Int)) = 1) ∧ (((0 : Int)) = ((0 : Int))) ∧ (((97 : Int)) ≤ zc) ∧ (((122 : Int)) < zc) ∧ (((0 : Int)) = 0 ∨ ((0 : Int)) = 1) ∧ (((0 : Int)) = ((0 : Int))) ∧ (-2147483648 ≤ (mi_f h 13576) + ((1 : Int)) ∧ (mi_f h 13576) + ((1 : Int)) ≤ 2147483647) ∧ (0 ≤ ((mi_f h 13576) + ((1 : Int))) ∧ ((mi_f h 13576) + ((1 : Int))) ≤ 161) ∧ (-2147483648 ≤ (-zc) ∧ (-zc) ≤ 2147483647)) (kon : ∀ h1, me_W [.inl (13575, (mi_f h 13576) + ((1 : Int)))] h h1 → ∃ Q1, me_E (d + 7) 110 0 (mi_entry 4 [.inr (.inr 106), .inl ((-1 : Int)), .inl (-zc)]) [] h1 Q1 ∧ ∀ w h2, (∀ x, w = some x → mi_ok x) → Q1 w h2 → me_E (d + 8) 106 105 [some (.inr (.inr 106)), some (.inl (zc))] (mi_back w [.inr (.inr 106)]) h2 Q) : me_E (d + 8) 106 27 [some (.inr (.inr 106)), some (.inl (zc))] [] h Q := mf_seg (mp_kptC_1 h d zc) (mi_tab_kptC_1) hS (mi_okL_c (trivial) (mi_okL_c (ok_zc) (mi_okL_e))) (mi_okS_e) (mi_al (ho.1) (mi_al (ho.2.1) (mi_al (ho.2.2.1) (mi_al (ho.2.2.2.1) (mi_al (ho.2.2.2.2.1) (mi_al (ho.2.2.2.2.2.1) (mi_al (ho.2.2.2.2.2.2.1) (mi_al (ho.2.2.2.2.2.2.2.1) (mi_al (ho.2.2.2.2.2.2.2.2.1) (mi_al (ho.2.2.2.2.2.2.2.2.2.1) (mi_al (ho.2.2.2.2.2.2.2.2.2.2) (mi_al_e)))))))))))) (fun h1 W _ hst => let ⟨_, k1, k2⟩ := kon h1 W; mf_call (M := (2, 0, sb_106)) (M' := (4, 1, sb_110)) rfl rfl rfl rfl (Nat.le_of_ble_eq_true rfl) (Nat.le_of_ble_eq_true rfl) W.1 k1 k2)
set_option maxRecDepth 20000 in
theorem mp_kptC_2 (h : sm_H) (d : Nat) (zc : Int) : mj_path [(106, (2, 0, sb_106)), (22, (1, 1, sb_22)), (37, (1, 4, sb_37)), (23, (1, 4, sb_23)), (38, (1, 1, sb_38))] sx_sk h 30 [1, 1, 1, 0, 0, 0] (d + 8, 106, 27, [some (.inr (.inr 106)), some (.inl (zc))], [], [], []) = some ((d + 8, 106, 79, [some (.inr (.inr 106)), some (.inl (zc))], [.inr (.inr 106)], [], []), [(mi_f h 13576) < (mi_f h 6913), zc < ((48 : Int)), ((0 : Int)) = 0 ∨ ((0 : Int)) = 1, ((0 : Int)) = ((0 : Int)), ((97 : Int)) ≤ zc, zc ≤ ((122 : Int)), ((1 : Int)) = 0 ∨ ((1 : Int)) = 1, ((1 : Int)) ≠ ((0 : Int))]) := rfl
theorem mi_tab_kptC_2 : ∀ e ∈ ([(106, (2, 0, sb_106)), (22, (1, 1, sb_22)), (37, (1, 4, sb_37)), (23, (1, 4, sb_23)), (38, (1, 1, sb_38))] : mi_T), sc_P e.1 = some e.2 := mi_tb mi_P106 (mi_tb mi_P22 (mi_tb mi_P37 (mi_tb mi_P23 (mi_tb mi_P38 (mi_tb_e)))))
set_option maxRecDepth 20000 in
theorem ms_kptC_2 {h : sm_H} {d : Nat} {Q : Option mi_V → sm_H → Prop} {zc : Int} (hS : ab_Sh sx_sk h) (ok_zc : mi_in zc) (ho : ((mi_f h 13576) < (mi_f h 6913)) ∧ (zc < ((48 : Int))) ∧ (((0 : Int)) = 0 ∨ ((0 : Int)) = 1) ∧ (((0 : Int)) = ((0 : Int))) ∧ (((97 : Int)) ≤ zc) ∧ (zc ≤ ((122 : Int))) ∧ (((1 : Int)) = 0 ∨ ((1 : Int)) = 1) ∧ (((1 : Int)) ≠ ((0 : Int)))) (kon : ∀ h1, me_W [] h h1 → ∃ Q1, me_E (d + 7) 109 0 (mi_entry 1 [.inr (.inr 106)]) [] h1 Q1 ∧ ∀ w h2, (∀ x, w = some x → mi_ok x) → Q1 w h2 → me_E (d + 8) 106 82 [some (.inr (.inr 106)), some (.inl (zc))] (mi_back w []) h2 Q) : me_E (d + 8) 106 27 [some (.inr (.inr 106)), some (.inl (zc))] [] h Q := mf_seg (mp_kptC_2 h d zc) (mi_tab_kptC_2) hS (mi_okL_c (trivial) (mi_okL_c (ok_zc) (mi_okL_e))) (mi_okS_e) (mi_al (ho.1) (mi_al (ho.2.1) (mi_al (ho.2.2.1) (mi_al (ho.2.2.2.1) (mi_al (ho.2.2.2.2.1) (mi_al (ho.2.2.2.2.2.1) (mi_al (ho.2.2.2.2.2.2.1) (mi_al (ho.2.2.2.2.2.2.2) (mi_al_e))))))))) (fun h1 W _ hst => let ⟨_, k1, k2⟩ := kon h1 W; mf_call (M := (2, 0, sb_106)) (M' := (1, 0, sb_109)) rfl rfl rfl rfl (Nat.le_of_ble_eq_true rfl) (Nat.le_of_ble_eq_true rfl) W.1 k1 k2)
set_option maxRecDepth 20000 in
theorem mp_kptC_3 (h : sm_H) (d : Nat) (zc : Int) : mj_path [(106, (2, 0, sb_106)), (22, (1, 1, sb_22)), (37, (1, 4, sb_37)), (23, (1, 4, sb_23)), (38, (1, 1, sb_38))] sx_sk h 42 [1, 0, 1, 1, 1, 1, 8] (d + 8, 106, 27, [some (.inr (.inr 106)), some (.inl (zc))], [], [], []) = some ((d + 8, 106, 102, [some (.inr (.inr 106)), some (.inl (zc))], [.inl (-zc), .inl ((-1 : Int)), .inr (.inr 106), .inr (.inr 106)], [.inl (13575, (mi_f h 13576) + ((1 : Int)))], []), [(mi_f h 13576) < (mi_f h 6913), ((48 : Int)) ≤ zc, ((57 : Int)) < zc, ((0 : Int)) = 0 ∨ ((0 : Int)) = 1, ((0 : Int)) = ((0 : Int)), zc < ((97 : Int)), ((0 : Int)) = 0 ∨ ((0 : Int)) = 1, ((0 : Int)) = ((0 : Int)), -2147483648 ≤ (mi_f h 13576) + ((1 : Int)) ∧ (mi_f h 13576) + ((1 : Int)) ≤ 2147483647, 0 ≤ ((mi_f h 13576) + ((1 : Int))) ∧ ((mi_f h 13576) + ((1 : Int))) ≤ 161, -2147483648 ≤ (-zc) ∧ (-zc) ≤ 2147483647]) := rfl
theorem mi_tab_kptC_3 : ∀ e ∈ ([(106, (2, 0, sb_106)), (22, (1, 1, sb_22)), (37, (1, 4, sb_37)), (23, (1, 4, sb_23)), (38, (1, 1, sb_38))] : mi_T), sc_P e.1 = some e.2 := mi_tb mi_P106 (mi_tb mi_P22 (mi_tb mi_P37 (mi_tb mi_P23 (mi_tb mi_P38 (mi_tb_e)))))
set_option maxRecDepth 20000 in
theorem ms_kptC_3 {h : sm_H} {d : Nat} {Q : Option mi_V → sm_H → Prop} {zc : Int} (hS : ab_Sh sx_sk h) (ok_zc : mi_in zc) (ho : ((mi_f h 13576) < (mi_f h 6913)) ∧ (((48 : Int)) ≤ zc) ∧ (((57 : Int)) < zc) ∧ (((0 : Int)) = 0 ∨ ((0 : Int)) = 1) ∧ (((0 : Int)) = ((0 : Int))) ∧ (zc < ((97 : Int))) ∧ (((0 : Int)) = 0 ∨ ((0 : Int)) = 1) ∧ (((0 : Int)) = ((0 : Int))) ∧ (-2147483648 ≤ (mi_f h 13576) + ((1 : Int)) ∧ (mi_f h 13576) + ((1 : Int)) ≤ 2147483647) ∧ (0 ≤ ((mi_f h 13576) + ((1 : Int))) ∧ ((mi_f h 13576) + ((1 : Int))) ≤ 161) ∧ (-2147483648 ≤ (-zc) ∧ (-zc) ≤ 2147483647)) (kon : ∀ h1, me_W [.inl (13575, (mi_f h 13576) + ((1 : Int)))] h h1 → ∃ Q1, me_E (d + 7) 110 0 (mi_entry 4 [.inr (.inr 106), .inl ((-1 : Int)), .inl (-zc)]) [] h1 Q1 ∧ ∀ w h2, (∀ x, w = some x → mi_ok x) → Q1 w h2 → me_E (d + 8) 106 105 [some (.inr (.inr 106)), some (.inl (zc))] (mi_back w [.inr (.inr 106)]) h2 Q) : me_E (d + 8) 106 27 [some (.inr (.inr 106)), some (.inl (zc))] [] h Q := mf_seg (mp_kptC_3 h d zc) (mi_tab_kptC_3) hS (mi_okL_c (trivial) (mi_okL_c (ok_zc) (mi_okL_e))) (mi_okS_e) (mi_al (ho.1) (mi_al (ho.2.1) (mi_al (ho.2.2.1) (mi_al (ho.2.2.2.1) (mi_al (ho.2.2.2.2.1) (mi_al (ho.2.2.2.2.2.1) (mi_al (ho.2.2.2.2.2.2.1) (mi_al (ho.2.2.2.2.2.2.2.1) (mi_al (ho.2.2.2.2.2.2.2.2.1) (mi_al (ho.2.2.2.2.2.2.2.2.2.1) (mi_al (ho.2.2.2.2.2.2.2.2.2.2) (mi_al_e)))))))))))) (fun h1 W _ hst => let ⟨_, k1, k2⟩ := kon h1 W; mf_call (M := (2, 0, sb_106)) (M' := (4, 1, sb_110)) rfl rfl rfl rfl (Nat.le_of_ble_eq_true rfl) (Nat.le_of_ble_eq_true rfl) W.1 k1 k2)
set_option maxRecDepth 20000 in
theorem mp_kptC_4 (h : sm_H) (d : Nat) (zc : Int) : mj_path [(106, (2, 0, sb_106)), (22, (1, 1, sb_22)), (37, (1, 4, sb_37)), (23, (1, 4, sb_23)), (38, (1, 1, sb_38))] sx_sk h 45 [1, 0, 1, 1, 0, 1, 1, 8] (d + 8, 106, 27, [some (.inr (.inr 106)), some (.inl (zc))], [], [], []) = some ((d + 8, 106, 102, [some (.inr (.inr 106)), some (.inl (zc))], [.inl (-zc), .inl ((-1 : Int)), .inr (.inr 106), .inr (.inr 106)], [.inl (13575, (mi_f h 13576) + ((1 : Int)))], []), [(mi_f h 13576) < (mi_f h 6913), ((48 : Int)) ≤ zc, ((57 : Int)) < zc, ((0 : Int)) = 0 ∨ ((0 : Int)) = 1, ((0 : Int)) = ((0 : Int)), ((97 : Int)) ≤ zc, ((122 : Int)) < zc, ((0 : Int)) = 0 ∨ ((0 : Int)) = 1, ((0 : Int)) = ((0 : Int)), -2147483648 ≤ (mi_f h 13576) + ((1 : Int)) ∧ (mi_f h 13576) + ((1 : Int)) ≤ 2147483647, 0 ≤ ((mi_f h 13576) + ((1 : Int))) ∧ ((mi_f h 13576) + ((1 : Int))) ≤ 161, -2147483648 ≤ (-zc) ∧ (-zc) ≤ 2147483647]) := rfl
theorem mi_tab_kptC_4 : ∀ e ∈ ([(106, (2, 0, sb_106)), (22, (1, 1, sb_22)), (37, (1, 4, sb_37)), (23, (1, 4, sb_23)), (38, (1, 1, sb_38))] : mi_T), sc_P e.1 = some e.2 := mi_tb mi_P106 (mi_tb mi_P22 (mi_tb mi_P37 (mi_tb mi_P23 (mi_tb mi_P38 (mi_tb_e)))))
set_option maxRecDepth 20000 in
theorem ms_kptC_4 {h : sm_H} {d : Nat} {Q : Option mi_V → sm_H → Prop} {zc : Int} (hS : ab_Sh sx_sk h) (ok_zc : mi_in zc) (ho : ((mi_f h 13576) < (mi_f h 6913)) ∧ (((48 : Int)) ≤ zc) ∧ (((57 : Int)) < zc) ∧ (((0 : Int)) = 0 ∨ ((0 : Int)) = 1) ∧ (((0 : Int)) = ((0 : Int))) ∧ (((97 : Int)) ≤ zc) ∧ (((122 : Int)) < zc) ∧ (((0 : Int)) = 0 ∨ ((0 : Int)) = 1) ∧ (((0 : Int)) = ((0 : Int))) ∧ (-2147483648 ≤ (mi_f h 13576) + ((1 : Int)) ∧ (mi_f h 13576) + ((1 : Int)) ≤ 2147483647) ∧ (0 ≤ ((mi_f h 13576) + ((1 : Int))) ∧ ((mi_f h 13576) + ((1 : Int))) ≤ 161) ∧ (-2147483648 ≤ (-zc) ∧ (-zc) ≤ 2147483647)) (kon : ∀ h1, me_W [.inl (13575, (mi_f h 13576) + ((1 : Int)))] h h1 → ∃ Q1, me_E (d + 7) 110 0 (mi_entry 4 [.inr (.inr 106), .inl ((-1 : Int)), .inl (-zc)]) [] h1 Q1 ∧ ∀ w h2, (∀ x, w = some x → mi_ok x) → Q1 w h2 → me_E (d + 8) 106 105 [some (.inr (.inr 106)), some (.inl (zc))] (mi_back w [.inr (.inr 106)]) h2 Q) : me_E (d + 8) 106 27 [some (.inr (.inr 106)), some (.inl (zc))] [] h Q := mf_seg (mp_kptC_4 h d zc) (mi_tab_kptC_4) hS (mi_okL_c (trivial) (mi_okL_c (ok_zc) (mi_okL_e))) (mi_okS_e) (mi_al (ho.1) (mi_al (ho.2.1) (mi_al (ho.2.2.1) (mi_al (ho.2.2.2.1) (mi_al (ho.2.2.2.2.1) (mi_al (ho.2.2.2.2.2.1) (mi_al (ho.2.2.2.2.2.2.1) (mi_al (ho.2.2.2.2.2.2.2.1) (mi_al (ho.2.2.2.2.2.2.2.2.1) (mi_al (ho.2.2.2.2.2.2.2.2.2.1) (mi_al (ho.2.2.2.2.2.2.2.2.2.2.1) (mi_al (ho.2.2.2.2.2.2.2.2.2.2.2) (mi_al_e))))))))))))) (fun h1 W _ hst => let ⟨_, k1, k2⟩ := kon h1 W; mf_call (M := (2, 0, sb_106)) (M' := (4, 1, sb_110)) rfl rfl rfl rfl (Nat.le_of_ble_eq_true rfl) (Nat.le_of_ble_eq_true rfl) W.1 k1 k2)
set_option maxRecDepth 20000 in
theorem mp_kptC_5 (h : sm_H) (d : Nat) (zc : Int) : mj_path [(106, (2, 0, sb_106)), (22, (1, 1, sb_22)), (37, (1, 4, sb_37)), (23, (1, 4, sb_23)), (38, (1, 1, sb_38))] sx_sk h 33 [1, 0, 1, 1, 0, 0, 0] (d + 8, 106, 27, [some (.inr (.inr 106)), some (.inl (zc))], [], [], []) = some ((d + 8, 106, 79, [some (.inr (.inr 106)), some (.inl (zc))], [.inr (.inr 106)], [], []), [(mi_f h 13576) < (mi_f h 6913), ((48 : Int)) ≤ zc, ((57 : Int)) < zc, ((0 : Int)) = 0 ∨ ((0 : Int)) = 1, ((0 : Int)) = ((0 : Int)), ((97 : Int)) ≤ zc, zc ≤ ((122 : Int)), ((1 : Int)) = 0 ∨ ((1 : Int)) = 1, ((1 : Int)) ≠ ((0 : Int))]) := rfl
theorem mi_tab_kptC_5 : ∀ e ∈ ([(106, (2, 0, sb_106)), (22, (1, 1, sb_22)), (37, (1, 4, sb_37)), (23, (1, 4, sb_23)), (38, (1, 1, sb_38))] : mi_T), sc_P e.1 = some e.2 := mi_tb mi_P106 (mi_tb mi_P22 (mi_tb mi_P37 (mi_tb mi_P23 (mi_tb mi_P38 (mi_tb_e)))))
set_option maxRecDepth 20000 in
theorem ms_kptC_5 {h : sm_H} {d : Nat} {Q : Option mi_V → sm_H → Prop} {zc : Int} (hS : ab_Sh sx_sk h) (ok_zc : mi_in zc) (ho : ((mi_f h 13576) < (mi_f h 6913)) ∧ (((48 : Int)) ≤ zc) ∧ (((57 : Int)) < zc) ∧ (((0 : Int)) = 0 ∨ ((0 : Int)) = 1) ∧ (((0 : Int)) = ((0 : Int))) ∧ (((97 : Int)) ≤ zc) ∧ (zc ≤ ((122 : Int))) ∧ (((1 : Int)) = 0 ∨ ((1 : Int)) = 1) ∧ (((1 : Int)) ≠ ((0 : Int)))) (kon : ∀ h1, me_W [] h h1 → ∃ Q1, me_E (d + 7) 109 0 (mi_entry 1 [.inr (.inr 106)]) [] h1 Q1 ∧ ∀ w h2, (∀ x, w = some x → mi_ok x) → Q1 w h2 → me_E (d + 8) 106 82 [some (.inr (.inr 106)), some (.inl (zc))] (mi_back w []) h2 Q) : me_E (d + 8) 106 27 [some (.inr (.inr 106)), some (.inl (zc))] [] h Q := mf_seg (mp_kptC_5 h d zc) (mi_tab_kptC_5) hS (mi_okL_c (trivial) (mi_okL_c (ok_zc) (mi_okL_e))) (mi_okS_e) (mi_al (ho.1) (mi_al (ho.2.1) (mi_al (ho.2.2.1) (mi_al (ho.2.2.2.1) (mi_al (ho.2.2.2.2.1) (mi_al (ho.2.2.2.2.2.1) (mi_al (ho.2.2.2.2.2.2.1) (mi_al (ho.2.2.2.2.2.2.2.1) (mi_al (ho.2.2.2.2.2.2.2.2) (mi_al_e)))))))))) (fun h1 W _ hst => let ⟨_, k1, k2⟩ := kon h1 W; mf_call (M := (2, 0, sb_106)) (M' := (1, 0, sb_109)) rfl rfl rfl rfl (Nat.le_of_ble_eq_true rfl) (Nat.le_of_ble_eq_true rfl) W.1 k1 k2)
set_option maxRecDepth 20000 in
theorem mp_kptC_6 (h : sm_H) (d : Nat) (zc : Int) : mj_path [(106, (2, 0, sb_106)), (22, (1, 1, sb_22)), (37, (1, 4, sb_37)), (23, (1, 4, sb_23)), (38, (1, 1, sb_38))] sx_sk h 22 [1, 0, 0, 0] (d + 8, 106, 27, [some (.inr (.inr 106)), some (.inl (zc))], [], [], []) = some ((d + 8, 106, 65, [some (.inr (.inr 106)), some (.inl (zc))], [.inr (.inr 106)], [], []), [(mi_f h 13576) < (mi_f h 6913), ((48 : Int)) ≤ zc, zc ≤ ((57 : Int)), ((1 : Int)) = 0 ∨ ((1 : Int)) = 1, ((1 : Int)) ≠ ((0 : Int))]) := rfl
theorem mi_tab_kptC_6 : ∀ e ∈ ([(106, (2, 0, sb_106)), (22, (1, 1, sb_22)), (37, (1, 4, sb_37)), (23, (1, 4, sb_23)), (38, (1, 1, sb_38))] : mi_T), sc_P e.1 = some e.2 := mi_tb mi_P106 (mi_tb mi_P22 (mi_tb mi_P37 (mi_tb mi_P23 (mi_tb mi_P38 (mi_tb_e)))))
set_option maxRecDepth 20000 in
theorem ms_kptC_6 {h : sm_H} {d : Nat} {Q : Option mi_V → sm_H → Prop} {zc : Int} (hS : ab_Sh sx_sk h) (ok_zc : mi_in zc) (ho : ((mi_f h 13576) < (mi_f h 6913)) ∧ (((48 : Int)) ≤ zc) ∧ (zc ≤ ((57 : Int))) ∧ (((1 : Int)) = 0 ∨ ((1 : Int)) = 1) ∧ (((1 : Int)) ≠ ((0 : Int)))) (kon : ∀ h1, me_W [] h h1 → ∃ Q1, me_E (d + 7) 107 0 (mi_entry 2 [.inr (.inr 106)]) [] h1 Q1 ∧ ∀ w h2, (∀ x, w = some x → mi_ok x) → Q1 w h2 → me_E (d + 8) 106 68 [some (.inr (.inr 106)), some (.inl (zc))] (mi_back w []) h2 Q) : me_E (d + 8) 106 27 [some (.inr (.inr 106)), some (.inl (zc))] [] h Q := mf_seg (mp_kptC_6 h d zc) (mi_tab_kptC_6) hS (mi_okL_c (trivial) (mi_okL_c (ok_zc) (mi_okL_e))) (mi_okS_e) (mi_al (ho.1) (mi_al (ho.2.1) (mi_al (ho.2.2.1) (mi_al (ho.2.2.2.1) (mi_al (ho.2.2.2.2) (mi_al_e)))))) (fun h1 W _ hst => let ⟨_, k1, k2⟩ := kon h1 W; mf_call (M := (2, 0, sb_106)) (M' := (2, 0, sb_107)) rfl rfl rfl rfl (Nat.le_of_ble_eq_true rfl) (Nat.le_of_ble_eq_true rfl) W.1 k1 k2)
set_option maxRecDepth 20000 in
theorem mp_kptC_7 (h : sm_H) (d : Nat) (zc : Int) : mj_path [(106, (2, 0, sb_106)), (22, (1, 1, sb_22)), (37, (1, 4, sb_37)), (23, (1, 4, sb_23)), (38, (1, 1, sb_38))] sx_sk h 17 [0] (d + 8, 106, 27, [some (.inr (.inr 106)), some (.inl (zc))], [], [], []) = some ((d + 8, 106, 108, [some (.inr (.inr 106)), some (.inl (zc))], [], [.inl (13577, (0 : Int)), .inl (13575, mi_f h 13576)], []), [(mi_f h 6913) ≤ (mi_f h 13576), 0 ≤ (mi_f h 13576) ∧ (mi_f h 13576) ≤ 161]) := rfl
theorem mi_tab_kptC_7 : ∀ e ∈ ([(106, (2, 0, sb_106)), (22, (1, 1, sb_22)), (37, (1, 4, sb_37)), (23, (1, 4, sb_23)), (38, (1, 1, sb_38))] : mi_T), sc_P e.1 = some e.2 := mi_tb mi_P106 (mi_tb mi_P22 (mi_tb mi_P37 (mi_tb mi_P23 (mi_tb mi_P38 (mi_tb_e)))))
set_option maxRecDepth 20000 in
theorem ms_kptC_7 {h : sm_H} {d : Nat} {Q : Option mi_V → sm_H → Prop} {zc : Int} (hS : ab_Sh sx_sk h) (ok_zc : mi_in zc) (ho : ((mi_f h 6913) ≤ (mi_f h 13576)) ∧ (0 ≤ (mi_f h 13576) ∧ (mi_f h 13576) ≤ 161)) (kon : ∀ h1, me_W [.inl (13577, (0 : Int)), .inl (13575, mi_f h 13576)] h h1 → me_E (d + 8) 106 108 [some (.inr (.inr 106)), some (.inl (zc))] [] h1 Q) : me_E (d + 8) 106 27 [some (.inr (.inr 106)), some (.inl (zc))] [] h Q := mf_seg (mp_kptC_7 h d zc) (mi_tab_kptC_7) hS (mi_okL_c (trivial) (mi_okL_c (ok_zc) (mi_okL_e))) (mi_okS_e) (mi_al (ho.1) (mi_al (ho.2) (mi_al_e))) (fun h1 W _ hst => kon h1 W)
set_option maxRecDepth 20000 in
theorem mt_kptC {h : sm_H} {d : Nat} {Q : Option mi_V → sm_H → Prop} {zc : Int} (hS : ab_Sh sx_sk h) (ok_zc : mi_in zc) (k0 : (0 ≤ mi_f h 13576 ∧ mi_f h 13576 ≤ 161) → (0 ≤ mi_f h 6913 ∧ mi_f h 6913 ≤ 160) → ((mi_f h 13576) < (mi_f h 6913)) → (zc < ((48 : Int))) → (zc < ((97 : Int))) → ((-2147483648 ≤ (mi_f h 13576) + ((1 : Int)) ∧ (mi_f h 13576) + ((1 : Int)) ≤ 2147483647) ∧ (0 ≤ ((mi_f h 13576) + ((1 : Int))) ∧ ((mi_f h 13576) + ((1 : Int))) ≤ 161) ∧ (-2147483648 ≤ (-zc) ∧ (-zc) ≤ 2147483647)) ∧ (∀ h1, ab_Sh sx_sk h1 → mi_f h1 13575 = (mi_f h 13576) + ((1 : Int)) → ab_Fr [(13575, 13576)] h h1 → ∃ Q1, me_E (d + 7) 110 0 (mi_entry 4 [.inr (.inr 106), .inl ((-1 : Int)), .inl (-zc)]) [] h1 Q1 ∧ ∀ w h2, (∀ x, w = some x → mi_ok x) → Q1 w h2 → me_E (d + 8) 106 105 [some (.inr (.inr 106)), some (.inl (zc))] (mi_back w [.inr (.inr 106)]) h2 Q)) (k1 : (0 ≤ mi_f h 13576 ∧ mi_f h 13576 ≤ 161) → (0 ≤ mi_f h 6913 ∧ mi_f h 6913 ≤ 160) → ((mi_f h 13576) < (mi_f h 6913)) → (zc < ((48 : Int))) → (((97 : Int)) ≤ zc) → (((122 : Int)) < zc) → ((-2147483648 ≤ (mi_f h 13576) + ((1 : Int)) ∧ (mi_f h 13576) + ((1 : Int)) ≤ 2147483647) ∧ (0 ≤ ((mi_f h 13576) + ((1 : Int))) ∧ ((mi_f h 13576) + ((1 : Int))) ≤ 161) ∧ (-2147483648 ≤ (-zc) ∧ (-zc) ≤ 2147483647)) ∧ (∀ h1, ab_Sh sx_sk h1 → mi_f h1 13575 = (mi_f h 13576) + ((1 : Int)) → ab_Fr [(13575, 13576)] h h1 → ∃ Q1, me_E (d + 7) 110 0 (mi_entry 4 [.inr (.inr 106), .inl ((-1 : Int)), .inl (-zc)]) [] h1 Q1 ∧ ∀ w h2, (∀ x, w = some x → mi_ok x) → Q1 w h2 → me_E (d + 8) 106 105 [some (.inr (.inr 106)), some (.inl (zc))] (mi_back w [.inr (.inr 106)]) h2 Q)) (k2 : (0 ≤ mi_f h 13576 ∧ mi_f h 13576 ≤ 161) → (0 ≤ mi_f h 6913 ∧ mi_f h 6913 ≤ 160) → ((mi_f h 13576) < (mi_f h 6913)) → (zc < ((48 : Int))) → (((97 : Int)) ≤ zc) → (zc ≤ ((122 : Int))) → (∀ h1, ab_Sh sx_sk h1 → ab_Fr [] h h1 → ∃ Q1, me_E (d + 7) 109 0 (mi_entry 1 [.inr (.inr 106)]) [] h1 Q1 ∧ ∀ w h2, (∀ x, w = some x → mi_ok x) → Q1 w h2 → me_E (d + 8) 106 82 [some (.inr (.inr 106)), some (.inl (zc))] (mi_back w []) h2 Q)) (k3 : (0 ≤ mi_f h 13576 ∧ mi_f h 13576 ≤ 161) → (0 ≤ mi_f h 6913 ∧ mi_f h 6913 ≤ 160) → ((mi_f h 13576) < (mi_f h 6913)) → (((48 : Int)) ≤ zc) → (((57 : Int)) < zc) → (zc < ((97 : Int))) → ((-2147483648 ≤ (mi_f h 13576) + ((1 : Int)) ∧ (mi_f h 13576) + ((1 : Int)) ≤ 2147483647) ∧ (0 ≤ ((mi_f h 13576) + ((1 : Int))) ∧ ((mi_f h 13576) + ((1 : Int))) ≤ 161) ∧ (-2147483648 ≤ (-zc) ∧ (-zc) ≤ 2147483647)) ∧ (∀ h1, ab_Sh sx_sk h1 → mi_f h1 13575 = (mi_f h 13576) + ((1 : Int)) → ab_Fr [(13575, 13576)] h h1 → ∃ Q1, me_E (d + 7) 110 0 (mi_entry 4 [.inr (.inr 106), .inl ((-1 : Int)), .inl (-zc)]) [] h1 Q1 ∧ ∀ w h2, (∀ x, w = some x → mi_ok x) → Q1 w h2 → me_E (d + 8) 106 105 [some (.inr (.inr 106)), some (.inl (zc))] (mi_back w [.inr (.inr 106)]) h2 Q)) (k4 : (0 ≤ mi_f h 13576 ∧ mi_f h 13576 ≤ 161) → (0 ≤ mi_f h 6913 ∧ mi_f h 6913 ≤ 160) → ((mi_f h 13576) < (mi_f h 6913)) → (((48 : Int)) ≤ zc) → (((57 : Int)) < zc) → (((97 : Int)) ≤ zc) → (((122 : Int)) < zc) → ((-2147483648 ≤ (mi_f h 13576) + ((1 : Int)) ∧ (mi_f h 13576) + ((1 : Int)) ≤ 2147483647) ∧ (0 ≤ ((mi_f h 13576) + ((1 : Int))) ∧ ((mi_f h 13576) + ((1 : Int))) ≤ 161) ∧ (-2147483648 ≤ (-zc) ∧ (-zc) ≤ 2147483647)) ∧ (∀ h1, ab_Sh sx_sk h1 → mi_f h1 13575 = (mi_f h 13576) + ((1 : Int)) → ab_Fr [(13575, 13576)] h h1 → ∃ Q1, me_E (d + 7) 110 0 (mi_entry 4 [.inr (.inr 106), .inl ((-1 : Int)), .inl (-zc)]) [] h1 Q1 ∧ ∀ w h2, (∀ x, w = some x → mi_ok x) → Q1 w h2 → me_E (d + 8) 106 105 [some (.inr (.inr 106)), some (.inl (zc))] (mi_back w [.inr (.inr 106)]) h2 Q)) (k5 : (0 ≤ mi_f h 13576 ∧ mi_f h 13576 ≤ 161) → (0 ≤ mi_f h 6913 ∧ mi_f h 6913 ≤ 160) → ((mi_f h 13576) < (mi_f h 6913)) → (((48 : Int)) ≤ zc) → (((57 : Int)) < zc) → (((97 : Int)) ≤ zc) → (zc ≤ ((122 : Int))) → (∀ h1, ab_Sh sx_sk h1 → ab_Fr [] h h1 → ∃ Q1, me_E (d + 7) 109 0 (mi_entry 1 [.inr (.inr 106)]) [] h1 Q1 ∧ ∀ w h2, (∀ x, w = some x → mi_ok x) → Q1 w h2 → me_E (d + 8) 106 82 [some (.inr (.inr 106)), some (.inl (zc))] (mi_back w []) h2 Q)) (k6 : (0 ≤ mi_f h 13576 ∧ mi_f h 13576 ≤ 161) → (0 ≤ mi_f h 6913 ∧ mi_f h 6913 ≤ 160) → ((mi_f h 13576) < (mi_f h 6913)) → (((48 : Int)) ≤ zc) → (zc ≤ ((57 : Int))) → (∀ h1, ab_Sh sx_sk h1 → ab_Fr [] h h1 → ∃ Q1, me_E (d + 7) 107 0 (mi_entry 2 [.inr (.inr 106)]) [] h1 Q1 ∧ ∀ w h2, (∀ x, w = some x → mi_ok x) → Q1 w h2 → me_E (d + 8) 106 68 [some (.inr (.inr 106)), some (.inl (zc))] (mi_back w []) h2 Q)) (k7 : (0 ≤ mi_f h 6913 ∧ mi_f h 6913 ≤ 160) → (0 ≤ mi_f h 13576 ∧ mi_f h 13576 ≤ 161) → ((mi_f h 6913) ≤ (mi_f h 13576)) → ((0 ≤ (mi_f h 13576) ∧ (mi_f h 13576) ≤ 161)) ∧ (∀ h1, ab_Sh sx_sk h1 → mi_f h1 13575 = mi_f h 13576 → mi_f h1 13577 = (0 : Int) → ab_Fr [(13575, 13576), (13577, 13578)] h h1 → me_E (d + 8) 106 108 [some (.inr (.inr 106)), some (.inl (zc))] [] h1 Q)) : me_E (d + 8) 106 27 [some (.inr (.inr 106)), some (.inl (zc))] [] h Q := Or.elim (mi_em .lt ((mi_f h 13576)) ((mi_f h 6913))) (fun c0 => Or.elim (mi_em .lt (zc) (((48 : Int)))) (fun c1 => Or.elim (mi_em .lt (zc) (((97 : Int)))) (fun c2 => ms_kptC_0 hS ok_zc ⟨c0, c1, (by decide), (by decide), c2, (by decide), (by decide), (k0 (me_fb hS rfl) (me_fb hS rfl) c0 c1 c2).1.1, (k0 (me_fb hS rfl) (me_fb hS rfl) c0 c1 c2).1.2.1, (k0 (me_fb hS rfl) (me_fb hS rfl) c0 c1 c2).1.2.2⟩ (fun h1 W => (k0 (me_fb hS rfl) (me_fb hS rfl) c0 c1 c2).2 h1 W.1 (W.2.1 13575) (W.2.2.2.2.2 _ rfl))) (fun c2 => Or.elim (mi_em .gt (zc) (((122 : Int)))) (fun c3 => ms_kptC_1 hS ok_zc ⟨c0, c1, (by decide), (by decide), c2, c3, (by decide), (by decide), (k1 (me_fb hS rfl) (me_fb hS rfl) c0 c1 c2 c3).1.1, (k1 (me_fb hS rfl) (me_fb hS rfl) c0 c1 c2 c3).1.2.1, (k1 (me_fb hS rfl) (me_fb hS rfl) c0 c1 c2 c3).1.2.2⟩ (fun h1 W => (k1 (me_fb hS rfl) (me_fb hS rfl) c0 c1 c2 c3).2 h1 W.1 (W.2.1 13575) (W.2.2.2.2.2 _ rfl))) (fun c3 => ms_kptC_2 hS ok_zc ⟨c0, c1, (by decide), (by decide), c2, c3, (by decide), (by decide)⟩ (fun h1 W => (k2 (me_fb hS rfl) (me_fb hS rfl) c0 c1 c2 c3) h1 W.1 (W.2.2.2.2.2 _ rfl))))) (fun c1 => Or.elim (mi_em .gt (zc) (((57 : Int)))) (fun c2 => Or.elim (mi_em .lt (zc) (((97 : Int)))) (fun c3 => ms_kptC_3 hS ok_zc ⟨c0, c1, c2, (by decide), (by decide), c3, (by decide), (by decide), (k3 (me_fb hS rfl) (me_fb hS rfl) c0 c1 c2 c3).1.1, (k3 (me_fb hS rfl) (me_fb hS rfl) c0 c1 c2 c3).1.2.1, (k3 (me_fb hS rfl) (me_fb hS rfl) c0 c1 c2 c3).1.2.2⟩ (fun h1 W => (k3 (me_fb hS rfl) (me_fb hS rfl) c0 c1 c2 c3).2 h1 W.1 (W.2.1 13575) (W.2.2.2.2.2 _ rfl))) (fun c3 => Or.elim (mi_em .gt (zc) (((122 : Int)))) (fun c4 => ms_kptC_4 hS ok_zc ⟨c0, c1, c2, (by decide), (by decide), c3, c4, (by decide), (by decide), (k4 (me_fb hS rfl) (me_fb hS rfl) c0 c1 c2 c3 c4).1.1, (k4 (me_fb hS rfl) (me_fb hS rfl) c0 c1 c2 c3 c4).1.2.1, (k4 (me_fb hS rfl) (me_fb hS rfl) c0 c1 c2 c3 c4).1.2.2⟩ (fun h1 W => (k4 (me_fb hS rfl) (me_fb hS rfl) c0 c1 c2 c3 c4).2 h1 W.1 (W.2.1 13575) (W.2.2.2.2.2 _ rfl))) (fun c4 => ms_kptC_5 hS ok_zc ⟨c0, c1, c2, (by decide), (by decide), c3, c4, (by decide), (by decide)⟩ (fun h1 W => (k5 (me_fb hS rfl) (me_fb hS rfl) c0 c1 c2 c3 c4) h1 W.1 (W.2.2.2.2.2 _ rfl))))) (fun c2 => ms_kptC_6 hS ok_zc ⟨c0, c1, c2, (by decide), (by decide)⟩ (fun h1 W => (k6 (me_fb hS rfl) (me_fb hS rfl) c0 c1 c2) h1 W.1 (W.2.2.2.2.2 _ rfl))))) (fun c0 => ms_kptC_7 hS ok_zc ⟨c0, (k7 (me_fb hS rfl) (me_fb hS rfl) c0).1⟩ (fun h1 W => (k7 (me_fb hS rfl) (me_fb hS rfl) c0).2 h1 W.1 (W.2.1 13575) (W.2.1 13577) (W.2.2.2.2.2 _ rfl)))
set_option maxRecDepth 20000 in
theorem mp_kptD_0 (h : sm_H) (d : Nat) (zc : Int) : mj_path [(106, (2, 0, sb_106))] sx_sk h 1 [] (d + 8, 106, 68, [some (.inr (.inr 106)), some (.inl (zc))], [], [], []) = some ((d + 8, 106, 108, [some (.inr (.inr 106)), some (.inl (zc))], [], [], []), []) := rfl
theorem mi_tab_kptD_0 : ∀ e ∈ ([(106, (2, 0, sb_106))] : mi_T), sc_P e.1 = some e.2 := mi_tb mi_P106 (mi_tb_e)
set_option maxRecDepth 20000 in
theorem ms_kptD_0 {h : sm_H} {d : Nat} {Q : Option mi_V → sm_H → Prop} {zc : Int} (hS : ab_Sh sx_sk h) (ok_zc : mi_in zc) (kon : ∀ h1, me_W [] h h1 → me_E (d + 8) 106 108 [some (.inr (.inr 106)), some (.inl (zc))] [] h1 Q) : me_E (d + 8) 106 68 [some (.inr (.inr 106)), some (.inl (zc))] [] h Q := mf_seg (mp_kptD_0 h d zc) (mi_tab_kptD_0) hS (mi_okL_c (trivial) (mi_okL_c (ok_zc) (mi_okL_e))) (mi_okS_e) (mi_al_e) (fun h1 W _ hst => kon h1 W)
set_option maxRecDepth 20000 in
theorem mt_kptD {h : sm_H} {d : Nat} {Q : Option mi_V → sm_H → Prop} {zc : Int} (hS : ab_Sh sx_sk h) (ok_zc : mi_in zc) (k0 : (∀ h1, ab_Sh sx_sk h1 → ab_Fr [] h h1 → me_E (d + 8) 106 108 [some (.inr (.inr 106)), some (.inl (zc))] [] h1 Q)) : me_E (d + 8) 106 68 [some (.inr (.inr 106)), some (.inl (zc))] [] h Q := ms_kptD_0 hS ok_zc (fun h1 W => (k0) h1 W.1 (W.2.2.2.2.2 _ rfl))
set_option maxRecDepth 20000 in
theorem mp_kptE_0 (h : sm_H) (d : Nat) (zc : Int) : mj_path [(106, (2, 0, sb_106))] sx_sk h 1 [] (d + 8, 106, 82, [some (.inr (.inr 106)), some (.inl (zc))], [], [], []) = some ((d + 8, 106, 108, [some (.inr (.inr 106)), some (.inl (zc))], [], [], []), []) := rfl
theorem mi_tab_kptE_0 : ∀ e ∈ ([(106, (2, 0, sb_106))] : mi_T), sc_P e.1 = some e.2 := mi_tb mi_P106 (mi_tb_e)
set_option maxRecDepth 20000 in
theorem ms_kptE_0 {h : sm_H} {d : Nat} {Q : Option mi_V → sm_H → Prop} {zc : Int} (hS : ab_Sh sx_sk h) (ok_zc : mi_in zc) (kon : ∀ h1, me_W [] h h1 → me_E (d + 8) 106 108 [some (.inr (.inr 106)), some (.inl (zc))] [] h1 Q) : me_E (d + 8) 106 82 [some (.inr (.inr 106)), some (.inl (zc))] [] h Q := mf_seg (mp_kptE_0 h d zc) (mi_tab_kptE_0) hS (mi_okL_c (trivial) (mi_okL_c (ok_zc) (mi_okL_e))) (mi_okS_e) (mi_al_e) (fun h1 W _ hst => kon h1 W)
set_option maxRecDepth 20000 in
theorem mt_kptE {h : sm_H} {d : Nat} {Q : Option mi_V → sm_H → Prop} {zc : Int} (hS : ab_Sh sx_sk h) (ok_zc : mi_in zc) (k0 : (∀ h1, ab_Sh sx_sk h1 → ab_Fr [] h h1 → me_E (d + 8) 106 108 [some (.inr (.inr 106)), some (.inl (zc))] [] h1 Q)) : me_E (d + 8) 106 82 [some (.inr (.inr 106)), some (.inl (zc))] [] h Q := ms_kptE_0 hS ok_zc (fun h1 W => (k0) h1 W.1 (W.2.2.2.2.2 _ rfl))
set_option maxRecDepth 20000 in
theorem mp_kptF_0 (h : sm_H) (d : Nat) (zc zz : Int) : mj_path [(106, (2, 0, sb_106))] sx_sk h 1 [] (d + 8, 106, 105, [some (.inr (.inr 106)), some (.inl (zc))], [.inl (zz), .inr (.inr 106)], [], []) = some ((d + 8, 106, 108, [some (.inr (.inr 106)), some (.inl (zc))], [], [.inl (13577, zz)], []), []) := rfl
theorem mi_tab_kptF_0 : ∀ e ∈ ([(106, (2, 0, sb_106))] : mi_T), sc_P e.1 = some e.2 := mi_tb mi_P106 (mi_tb_e)
set_option maxRecDepth 20000 in
theorem ms_kptF_0 {h : sm_H} {d : Nat} {Q : Option mi_V → sm_H → Prop} {zc zz : Int} (hS : ab_Sh sx_sk h) (ok_zc : mi_in zc) (ok_zz : mi_in zz) (kon : ∀ h1, me_W [.inl (13577, zz)] h h1 → me_E (d + 8) 106 108 [some (.inr (.inr 106)), some (.inl (zc))] [] h1 Q) : me_E (d + 8) 106 105 [some (.inr (.inr 106)), some (.inl (zc))] [.inl (zz), .inr (.inr 106)] h Q := mf_seg (mp_kptF_0 h d zc zz) (mi_tab_kptF_0) hS (mi_okL_c (trivial) (mi_okL_c (ok_zc) (mi_okL_e))) (mi_okS_cons (ok_zz) (mi_okS_cons (trivial) (mi_okS_e))) (mi_al_e) (fun h1 W _ hst => kon h1 W)
set_option maxRecDepth 20000 in
theorem mt_kptF {h : sm_H} {d : Nat} {Q : Option mi_V → sm_H → Prop} {zc zz : Int} (hS : ab_Sh sx_sk h) (ok_zc : mi_in zc) (ok_zz : mi_in zz) (k0 : (∀ h1, ab_Sh sx_sk h1 → mi_f h1 13577 = zz → ab_Fr [(13577, 13578)] h h1 → me_E (d + 8) 106 108 [some (.inr (.inr 106)), some (.inl (zc))] [] h1 Q)) : me_E (d + 8) 106 105 [some (.inr (.inr 106)), some (.inl (zc))] [.inl (zz), .inr (.inr 106)] h Q := ms_kptF_0 hS ok_zc ok_zz (fun h1 W => (k0) h1 W.1 (W.2.1 13577) (W.2.2.2.2.2 _ rfl))
set_option maxRecDepth 20000 in
theorem mp_kptG_0 (h : sm_H) (d : Nat) (zc : Int) : mj_path [(106, (2, 0, sb_106)), (111, (1, 0, sb_111))] sx_sk h 4 [1] (d + 8, 106, 108, [some (.inr (.inr 106)), some (.inl (zc))], [], [], []) = some ((d + 8, 106, 120, [some (.inr (.inr 106)), some (.inl (zc))], [], [], []), [(mi_f h 13577) ≠ ((-1 : Int))]) := rfl
theorem mi_tab_kptG_0 : ∀ e ∈ ([(106, (2, 0, sb_106)), (111, (1, 0, sb_111))] : mi_T), sc_P e.1 = some e.2 := mi_tb mi_P106 (mi_tb mi_P111 (mi_tb_e))
set_option maxRecDepth 20000 in
theorem ms_kptG_0 {h : sm_H} {d : Nat} {Q : Option mi_V → sm_H → Prop} {zc : Int} (hS : ab_Sh sx_sk h) (ok_zc : mi_in zc) (ho : ((mi_f h 13577) ≠ ((-1 : Int)))) (kon : ∀ h1, me_W [] h h1 → Q none h1) : me_E (d + 8) 106 108 [some (.inr (.inr 106)), some (.inl (zc))] [] h Q := mf_seg (mp_kptG_0 h d zc) (mi_tab_kptG_0) hS (mi_okL_c (trivial) (mi_okL_c (ok_zc) (mi_okL_e))) (mi_okS_e) (mi_al (ho) (mi_al_e)) (fun h1 W _ hst => mf_ret (M := (2, 0, sb_106)) rfl rfl rfl hst (mi_al_e) (kon h1 W))
set_option maxRecDepth 20000 in
theorem mp_kptG_1 (h : sm_H) (d : Nat) (zc : Int) : mj_path [(106, (2, 0, sb_106)), (111, (1, 0, sb_111))] sx_sk h 14 [0] (d + 8, 106, 108, [some (.inr (.inr 106)), some (.inl (zc))], [], [], []) = some ((d + 8, 106, 120, [some (.inr (.inr 106)), some (.inl (zc))], [], [.inl (13571, (1 : Int)), .inl (13579, mi_f h 13576)], []), [(mi_f h 13577) = ((-1 : Int)), 0 ≤ ((1 : Int)) ∧ ((1 : Int)) ≤ 1, 0 ≤ ((1 : Int)) ∧ ((1 : Int)) ≤ 1]) := rfl
theorem mi_tab_kptG_1 : ∀ e ∈ ([(106, (2, 0, sb_106)), (111, (1, 0, sb_111))] : mi_T), sc_P e.1 = some e.2 := mi_tb mi_P106 (mi_tb mi_P111 (mi_tb_e))
set_option maxRecDepth 20000 in
theorem ms_kptG_1 {h : sm_H} {d : Nat} {Q : Option mi_V → sm_H → Prop} {zc : Int} (hS : ab_Sh sx_sk h) (ok_zc : mi_in zc) (ho : ((mi_f h 13577) = ((-1 : Int))) ∧ (0 ≤ ((1 : Int)) ∧ ((1 : Int)) ≤ 1) ∧ (0 ≤ ((1 : Int)) ∧ ((1 : Int)) ≤ 1)) (kon : ∀ h1, me_W [.inl (13571, (1 : Int)), .inl (13579, mi_f h 13576)] h h1 → Q none h1) : me_E (d + 8) 106 108 [some (.inr (.inr 106)), some (.inl (zc))] [] h Q := mf_seg (mp_kptG_1 h d zc) (mi_tab_kptG_1) hS (mi_okL_c (trivial) (mi_okL_c (ok_zc) (mi_okL_e))) (mi_okS_e) (mi_al (ho.1) (mi_al (ho.2.1) (mi_al (ho.2.2) (mi_al_e)))) (fun h1 W _ hst => mf_ret (M := (2, 0, sb_106)) rfl rfl rfl hst (mi_al_e) (kon h1 W))
set_option maxRecDepth 20000 in
theorem mt_kptG {h : sm_H} {d : Nat} {Q : Option mi_V → sm_H → Prop} {zc : Int} (hS : ab_Sh sx_sk h) (ok_zc : mi_in zc) (k0 : ((-2147483648) ≤ mi_f h 13577 ∧ mi_f h 13577 ≤ 2147483647) → ((mi_f h 13577) ≠ ((-1 : Int))) → (∀ h1, ab_Sh sx_sk h1 → ab_Fr [] h h1 → Q none h1)) (k1 : ((-2147483648) ≤ mi_f h 13577 ∧ mi_f h 13577 ≤ 2147483647) → ((mi_f h 13577) = ((-1 : Int))) → (∀ h1, ab_Sh sx_sk h1 → mi_f h1 13571 = (1 : Int) → mi_f h1 13579 = mi_f h 13576 → ab_Fr [(13571, 13572), (13579, 13580)] h h1 → Q none h1)) : me_E (d + 8) 106 108 [some (.inr (.inr 106)), some (.inl (zc))] [] h Q := Or.elim (mi_em .ne ((mi_f h 13577)) (((-1 : Int)))) (fun c0 => ms_kptG_0 hS ok_zc (c0) (fun h1 W => (k0 (me_fb hS rfl) c0) h1 W.1 (W.2.2.2.2.2 _ rfl))) (fun c0 => ms_kptG_1 hS ok_zc ⟨c0, (by decide), (by decide)⟩ (fun h1 W => (k1 (me_fb hS rfl) c0) h1 W.1 (W.2.1 13571) (W.2.1 13579) (W.2.2.2.2.2 _ rfl)))
set_option maxRecDepth 20000 in
theorem mp_kpmA_0 (h : sm_H) (d : Nat) : mj_path [(107, (2, 0, sb_107))] sx_sk h 5 [] (d + 6, 107, 0, [some (.inr (.inr 106)), none], [], [], []) = some ((d + 6, 107, 9, [some (.inr (.inr 106)), none], [.inl (mi_f h 13576), .inr (.inr 54), .inr (.inr 106)], [], []), []) := rfl
theorem mi_tab_kpmA_0 : ∀ e ∈ ([(107, (2, 0, sb_107))] : mi_T), sc_P e.1 = some e.2 := mi_tb mi_P107 (mi_tb_e)
set_option maxRecDepth 20000 in
theorem ms_kpmA_0 {h : sm_H} {d : Nat} {Q : Option mi_V → sm_H → Prop} (hS : ab_Sh sx_sk h)  (kon : ∀ h1, me_W [] h h1 → ∃ Q1, me_E (d + 5) 108 0 (mi_entry 3 [.inr (.inr 54), .inl (mi_f h 13576)]) [] h1 Q1 ∧ ∀ w h2, (∀ x, w = some x → mi_ok x) → Q1 w h2 → me_E (d + 6) 107 12 [some (.inr (.inr 106)), none] (mi_back w [.inr (.inr 106)]) h2 Q) : me_E (d + 6) 107 0 [some (.inr (.inr 106)), none] [] h Q := mf_seg (mp_kpmA_0 h d ) (mi_tab_kpmA_0) hS (mi_okL_c (trivial) (mi_okL_n (mi_okL_e))) (mi_okS_e) (mi_al_e) (fun h1 W _ hst => let ⟨_, k1, k2⟩ := kon h1 W; mf_call (M := (2, 0, sb_107)) (M' := (3, 1, sb_108)) rfl rfl rfl rfl (Nat.le_of_ble_eq_true rfl) (Nat.le_of_ble_eq_true rfl) W.1 k1 k2)
set_option maxRecDepth 20000 in
theorem mt_kpmA {h : sm_H} {d : Nat} {Q : Option mi_V → sm_H → Prop} (hS : ab_Sh sx_sk h)  (k0 : (∀ h1, ab_Sh sx_sk h1 → ab_Fr [] h h1 → ∃ Q1, me_E (d + 5) 108 0 (mi_entry 3 [.inr (.inr 54), .inl (mi_f h 13576)]) [] h1 Q1 ∧ ∀ w h2, (∀ x, w = some x → mi_ok x) → Q1 w h2 → me_E (d + 6) 107 12 [some (.inr (.inr 106)), none] (mi_back w [.inr (.inr 106)]) h2 Q)) : me_E (d + 6) 107 0 [some (.inr (.inr 106)), none] [] h Q := ms_kpmA_0 hS (fun h1 W => (k0) h1 W.1 (W.2.2.2.2.2 _ rfl))
set_option maxRecDepth 20000 in
theorem mp_kpmB_0 (h : sm_H) (d : Nat) (zz : Int) : mj_path [(107, (2, 0, sb_107))] sx_sk h 17 [8, 1] (d + 6, 107, 12, [some (.inr (.inr 106)), none], [.inl (zz), .inr (.inr 106)], [], []) = some ((d + 6, 107, 47, [some (.inr (.inr 106)), some (.inl (mi_f h 13576))], [], [.inl (13578, (0 : Int)), .inl (13577, (-1 : Int)), .inl (13575, zz)], []), [0 ≤ zz ∧ zz ≤ 161, -2147483648 ≤ zz - (mi_f h 13576) ∧ zz - (mi_f h 13576) ≤ 2147483647, ((4 : Int)) < (zz - (mi_f h 13576))]) := rfl
theorem mi_tab_kpmB_0 : ∀ e ∈ ([(107, (2, 0, sb_107))] : mi_T), sc_P e.1 = some e.2 := mi_tb mi_P107 (mi_tb_e)
set_option maxRecDepth 20000 in
theorem ms_kpmB_0 {h : sm_H} {d : Nat} {Q : Option mi_V → sm_H → Prop} {zz : Int} (hS : ab_Sh sx_sk h) (ok_zz : mi_in zz) (ho : (0 ≤ zz ∧ zz ≤ 161) ∧ (-2147483648 ≤ zz - (mi_f h 13576) ∧ zz - (mi_f h 13576) ≤ 2147483647) ∧ (((4 : Int)) < (zz - (mi_f h 13576)))) (kon : ∀ h1, me_W [.inl (13578, (0 : Int)), .inl (13577, (-1 : Int)), .inl (13575, zz)] h h1 → me_E (d + 6) 107 47 [some (.inr (.inr 106)), some (.inl (mi_f h 13576))] [] h1 Q) : me_E (d + 6) 107 12 [some (.inr (.inr 106)), none] [.inl (zz), .inr (.inr 106)] h Q := mf_seg (mp_kpmB_0 h d zz) (mi_tab_kpmB_0) hS (mi_okL_c (trivial) (mi_okL_n (mi_okL_e))) (mi_okS_cons (ok_zz) (mi_okS_cons (trivial) (mi_okS_e))) (mi_al (ho.1) (mi_al (ho.2.1) (mi_al (ho.2.2) (mi_al_e)))) (fun h1 W _ hst => kon h1 W)
set_option maxRecDepth 20000 in
theorem mp_kpmB_1 (h : sm_H) (d : Nat) (zz : Int) : mj_path [(107, (2, 0, sb_107))] sx_sk h 18 [8, 0] (d + 6, 107, 12, [some (.inr (.inr 106)), none], [.inl (zz), .inr (.inr 106)], [], []) = some ((d + 6, 107, 47, [some (.inr (.inr 106)), some (.inl (mi_f h 13576))], [], [.inl (13578, (0 : Int)), .inl (13577, (1 : Int)), .inl (13575, zz)], []), [0 ≤ zz ∧ zz ≤ 161, -2147483648 ≤ zz - (mi_f h 13576) ∧ zz - (mi_f h 13576) ≤ 2147483647, (zz - (mi_f h 13576)) ≤ ((4 : Int))]) := rfl
theorem mi_tab_kpmB_1 : ∀ e ∈ ([(107, (2, 0, sb_107))] : mi_T), sc_P e.1 = some e.2 := mi_tb mi_P107 (mi_tb_e)
set_option maxRecDepth 20000 in
theorem ms_kpmB_1 {h : sm_H} {d : Nat} {Q : Option mi_V → sm_H → Prop} {zz : Int} (hS : ab_Sh sx_sk h) (ok_zz : mi_in zz) (ho : (0 ≤ zz ∧ zz ≤ 161) ∧ (-2147483648 ≤ zz - (mi_f h 13576) ∧ zz - (mi_f h 13576) ≤ 2147483647) ∧ ((zz - (mi_f h 13576)) ≤ ((4 : Int)))) (kon : ∀ h1, me_W [.inl (13578, (0 : Int)), .inl (13577, (1 : Int)), .inl (13575, zz)] h h1 → me_E (d + 6) 107 47 [some (.inr (.inr 106)), some (.inl (mi_f h 13576))] [] h1 Q) : me_E (d + 6) 107 12 [some (.inr (.inr 106)), none] [.inl (zz), .inr (.inr 106)] h Q := mf_seg (mp_kpmB_1 h d zz) (mi_tab_kpmB_1) hS (mi_okL_c (trivial) (mi_okL_n (mi_okL_e))) (mi_okS_cons (ok_zz) (mi_okS_cons (trivial) (mi_okS_e))) (mi_al (ho.1) (mi_al (ho.2.1) (mi_al (ho.2.2) (mi_al_e)))) (fun h1 W _ hst => kon h1 W)
set_option maxRecDepth 20000 in
theorem mt_kpmB {h : sm_H} {d : Nat} {Q : Option mi_V → sm_H → Prop} {zz : Int} (hS : ab_Sh sx_sk h) (ok_zz : mi_in zz) (k0 : (0 ≤ mi_f h 13576 ∧ mi_f h 13576 ≤ 161) → (((4 : Int)) < (zz - (mi_f h 13576))) → ((0 ≤ zz ∧ zz ≤ 161) ∧ (-2147483648 ≤ zz - (mi_f h 13576) ∧ zz - (mi_f h 13576) ≤ 2147483647)) ∧ (∀ h1, ab_Sh sx_sk h1 → mi_f h1 13575 = zz → mi_f h1 13577 = (-1 : Int) → mi_f h1 13578 = (0 : Int) → ab_Fr [(13575, 13576), (13577, 13579)] h h1 → me_E (d + 6) 107 47 [some (.inr (.inr 106)), some (.inl (mi_f h 13576))] [] h1 Q)) (k1 : (0 ≤ mi_f h 13576 ∧ mi_f h 13576 ≤ 161) → ((zz - (mi_f h 13576)) ≤ ((4 : Int))) → ((0 ≤ zz ∧ zz ≤ 161) ∧ (-2147483648 ≤ zz - (mi_f h 13576) ∧ zz - (mi_f h 13576) ≤ 2147483647)) ∧ (∀ h1, ab_Sh sx_sk h1 → mi_f h1 13575 = zz → mi_f h1 13577 = (1 : Int) → mi_f h1 13578 = (0 : Int) → ab_Fr [(13575, 13576), (13577, 13579)] h h1 → me_E (d + 6) 107 47 [some (.inr (.inr 106)), some (.inl (mi_f h 13576))] [] h1 Q)) : me_E (d + 6) 107 12 [some (.inr (.inr 106)), none] [.inl (zz), .inr (.inr 106)] h Q := Or.elim (mi_em .gt ((zz - (mi_f h 13576))) (((4 : Int)))) (fun c0 => ms_kpmB_0 hS ok_zz ⟨(k0 (me_fb hS rfl) c0).1.1, (k0 (me_fb hS rfl) c0).1.2, c0⟩ (fun h1 W => (k0 (me_fb hS rfl) c0).2 h1 W.1 (W.2.1 13575) (W.2.1 13577) (W.2.1 13578) (W.2.2.2.2.2 _ rfl))) (fun c0 => ms_kpmB_1 hS ok_zz ⟨(k1 (me_fb hS rfl) c0).1.1, (k1 (me_fb hS rfl) c0).1.2, c0⟩ (fun h1 W => (k1 (me_fb hS rfl) c0).2 h1 W.1 (W.2.1 13575) (W.2.1 13577) (W.2.1 13578) (W.2.2.2.2.2 _ rfl)))
set_option maxRecDepth 20000 in
theorem mp_kpmC_0 (h : sm_H) (d : Nat) (zk : Int) : mj_path [(107, (2, 0, sb_107)), (20, (2, 5, sb_20))] sx_sk h 4 [1] (d + 6, 107, 47, [some (.inr (.inr 106)), some (.inl (zk))], [], [], []) = some ((d + 6, 107, 92, [some (.inr (.inr 106)), some (.inl (zk))], [], [], []), [(mi_f h 13577) ≠ ((1 : Int))]) := rfl
theorem mi_tab_kpmC_0 : ∀ e ∈ ([(107, (2, 0, sb_107)), (20, (2, 5, sb_20))] : mi_T), sc_P e.1 = some e.2 := mi_tb mi_P107 (mi_tb mi_P20 (mi_tb_e))
set_option maxRecDepth 20000 in
theorem ms_kpmC_0 {h : sm_H} {d : Nat} {Q : Option mi_V → sm_H → Prop} {zk : Int} (hS : ab_Sh sx_sk h) (ok_zk : mi_in zk) (ho : ((mi_f h 13577) ≠ ((1 : Int)))) (kon : ∀ h1, me_W [] h h1 → Q none h1) : me_E (d + 6) 107 47 [some (.inr (.inr 106)), some (.inl (zk))] [] h Q := mf_seg (mp_kpmC_0 h d zk) (mi_tab_kpmC_0) hS (mi_okL_c (trivial) (mi_okL_c (ok_zk) (mi_okL_e))) (mi_okS_e) (mi_al (ho) (mi_al_e)) (fun h1 W _ hst => mf_ret (M := (2, 0, sb_107)) rfl rfl rfl hst (mi_al_e) (kon h1 W))
set_option maxRecDepth 20000 in
theorem mp_kpmC_1 (h : sm_H) (d : Nat) (zk : Int) : mj_path [(107, (2, 0, sb_107)), (20, (2, 5, sb_20))] sx_sk h 8 [0, 1] (d + 6, 107, 47, [some (.inr (.inr 106)), some (.inl (zk))], [], [], []) = some ((d + 6, 107, 92, [some (.inr (.inr 106)), some (.inl (zk))], [], [], []), [(mi_f h 13577) = ((1 : Int)), (mi_f h 13575) ≤ zk]) := rfl
theorem mi_tab_kpmC_1 : ∀ e ∈ ([(107, (2, 0, sb_107)), (20, (2, 5, sb_20))] : mi_T), sc_P e.1 = some e.2 := mi_tb mi_P107 (mi_tb mi_P20 (mi_tb_e))
set_option maxRecDepth 20000 in
theorem ms_kpmC_1 {h : sm_H} {d : Nat} {Q : Option mi_V → sm_H → Prop} {zk : Int} (hS : ab_Sh sx_sk h) (ok_zk : mi_in zk) (ho : ((mi_f h 13577) = ((1 : Int))) ∧ ((mi_f h 13575) ≤ zk)) (kon : ∀ h1, me_W [] h h1 → Q none h1) : me_E (d + 6) 107 47 [some (.inr (.inr 106)), some (.inl (zk))] [] h Q := mf_seg (mp_kpmC_1 h d zk) (mi_tab_kpmC_1) hS (mi_okL_c (trivial) (mi_okL_c (ok_zk) (mi_okL_e))) (mi_okS_e) (mi_al (ho.1) (mi_al (ho.2) (mi_al_e))) (fun h1 W _ hst => mf_ret (M := (2, 0, sb_107)) rfl rfl rfl hst (mi_al_e) (kon h1 W))
set_option maxRecDepth 20000 in
theorem mp_kpmC_2 (h : sm_H) (d : Nat) (zk : Int) : mj_path [(107, (2, 0, sb_107)), (20, (2, 5, sb_20))] sx_sk h 27 [0, 0, 1, 8, 8] (d + 6, 107, 47, [some (.inr (.inr 106)), some (.inl (zk))], [], [], []) = some ((d + 6, 107, 47, [some (.inr (.inr 106)), some (.inl (zk + 1))], [], [.inl (13578, (((mi_f h 13578) * ((10 : Int))) + ((32 : Int))) - ((48 : Int)))], []), [(mi_f h 13577) = ((1 : Int)), zk < (mi_f h 13575), -2147483648 ≤ (mi_f h 13578) * ((10 : Int)) ∧ (mi_f h 13578) * ((10 : Int)) ≤ 2147483647, zk < ((0 : Int)), 0 ≤ ((32 : Int)) ∧ ((32 : Int)) ≤ 65535, -2147483648 ≤ ((mi_f h 13578) * ((10 : Int))) + ((32 : Int)) ∧ ((mi_f h 13578) * ((10 : Int))) + ((32 : Int)) ≤ 2147483647, -2147483648 ≤ (((mi_f h 13578) * ((10 : Int))) + ((32 : Int))) - ((48 : Int)) ∧ (((mi_f h 13578) * ((10 : Int))) + ((32 : Int))) - ((48 : Int)) ≤ 2147483647, -2147483648 ≤ zk + 1 ∧ zk + 1 ≤ 2147483647]) := rfl
theorem mi_tab_kpmC_2 : ∀ e ∈ ([(107, (2, 0, sb_107)), (20, (2, 5, sb_20))] : mi_T), sc_P e.1 = some e.2 := mi_tb mi_P107 (mi_tb mi_P20 (mi_tb_e))
set_option maxRecDepth 20000 in
theorem ms_kpmC_2 {h : sm_H} {d : Nat} {Q : Option mi_V → sm_H → Prop} {zk : Int} (hS : ab_Sh sx_sk h) (ok_zk : mi_in zk) (ho : ((mi_f h 13577) = ((1 : Int))) ∧ (zk < (mi_f h 13575)) ∧ (-2147483648 ≤ (mi_f h 13578) * ((10 : Int)) ∧ (mi_f h 13578) * ((10 : Int)) ≤ 2147483647) ∧ (zk < ((0 : Int))) ∧ (0 ≤ ((32 : Int)) ∧ ((32 : Int)) ≤ 65535) ∧ (-2147483648 ≤ ((mi_f h 13578) * ((10 : Int))) + ((32 : Int)) ∧ ((mi_f h 13578) * ((10 : Int))) + ((32 : Int)) ≤ 2147483647) ∧ (-2147483648 ≤ (((mi_f h 13578) * ((10 : Int))) + ((32 : Int))) - ((48 : Int)) ∧ (((mi_f h 13578) * ((10 : Int))) + ((32 : Int))) - ((48 : Int)) ≤ 2147483647) ∧ (-2147483648 ≤ zk + 1 ∧ zk + 1 ≤ 2147483647)) (kon : ∀ h1, me_W [.inl (13578, (((mi_f h 13578) * ((10 : Int))) + ((32 : Int))) - ((48 : Int)))] h h1 → me_E (d + 6) 107 47 [some (.inr (.inr 106)), some (.inl (zk + 1))] [] h1 Q) : me_E (d + 6) 107 47 [some (.inr (.inr 106)), some (.inl (zk))] [] h Q := mf_seg (mp_kpmC_2 h d zk) (mi_tab_kpmC_2) hS (mi_okL_c (trivial) (mi_okL_c (ok_zk) (mi_okL_e))) (mi_okS_e) (mi_al (ho.1) (mi_al (ho.2.1) (mi_al (ho.2.2.1) (mi_al (ho.2.2.2.1) (mi_al (ho.2.2.2.2.1) (mi_al (ho.2.2.2.2.2.1) (mi_al (ho.2.2.2.2.2.2.1) (mi_al (ho.2.2.2.2.2.2.2) (mi_al_e))))))))) (fun h1 W _ hst => kon h1 W)
set_option maxRecDepth 20000 in
theorem mp_kpmC_3 (h : sm_H) (d : Nat) (zk : Int) : mj_path [(107, (2, 0, sb_107)), (20, (2, 5, sb_20))] sx_sk h 31 [0, 0, 0, 1, 8, 8] (d + 6, 107, 47, [some (.inr (.inr 106)), some (.inl (zk))], [], [], []) = some ((d + 6, 107, 47, [some (.inr (.inr 106)), some (.inl (zk + 1))], [], [.inl (13578, (((mi_f h 13578) * ((10 : Int))) + ((32 : Int))) - ((48 : Int)))], []), [(mi_f h 13577) = ((1 : Int)), zk < (mi_f h 13575), -2147483648 ≤ (mi_f h 13578) * ((10 : Int)) ∧ (mi_f h 13578) * ((10 : Int)) ≤ 2147483647, ((0 : Int)) ≤ zk, (mi_f h 6913) ≤ zk, 0 ≤ ((32 : Int)) ∧ ((32 : Int)) ≤ 65535, -2147483648 ≤ ((mi_f h 13578) * ((10 : Int))) + ((32 : Int)) ∧ ((mi_f h 13578) * ((10 : Int))) + ((32 : Int)) ≤ 2147483647, -2147483648 ≤ (((mi_f h 13578) * ((10 : Int))) + ((32 : Int))) - ((48 : Int)) ∧ (((mi_f h 13578) * ((10 : Int))) + ((32 : Int))) - ((48 : Int)) ≤ 2147483647, -2147483648 ≤ zk + 1 ∧ zk + 1 ≤ 2147483647]) := rfl
theorem mi_tab_kpmC_3 : ∀ e ∈ ([(107, (2, 0, sb_107)), (20, (2, 5, sb_20))] : mi_T), sc_P e.1 = some e.2 := mi_tb mi_P107 (mi_tb mi_P20 (mi_tb_e))
set_option maxRecDepth 20000 in
theorem ms_kpmC_3 {h : sm_H} {d : Nat} {Q : Option mi_V → sm_H → Prop} {zk : Int} (hS : ab_Sh sx_sk h) (ok_zk : mi_in zk) (ho : ((mi_f h 13577) = ((1 : Int))) ∧ (zk < (mi_f h 13575)) ∧ (-2147483648 ≤ (mi_f h 13578) * ((10 : Int)) ∧ (mi_f h 13578) * ((10 : Int)) ≤ 2147483647) ∧ (((0 : Int)) ≤ zk) ∧ ((mi_f h 6913) ≤ zk) ∧ (0 ≤ ((32 : Int)) ∧ ((32 : Int)) ≤ 65535) ∧ (-2147483648 ≤ ((mi_f h 13578) * ((10 : Int))) + ((32 : Int)) ∧ ((mi_f h 13578) * ((10 : Int))) + ((32 : Int)) ≤ 2147483647) ∧ (-2147483648 ≤ (((mi_f h 13578) * ((10 : Int))) + ((32 : Int))) - ((48 : Int)) ∧ (((mi_f h 13578) * ((10 : Int))) + ((32 : Int))) - ((48 : Int)) ≤ 2147483647) ∧ (-2147483648 ≤ zk + 1 ∧ zk + 1 ≤ 2147483647)) (kon : ∀ h1, me_W [.inl (13578, (((mi_f h 13578) * ((10 : Int))) + ((32 : Int))) - ((48 : Int)))] h h1 → me_E (d + 6) 107 47 [some (.inr (.inr 106)), some (.inl (zk + 1))] [] h1 Q) : me_E (d + 6) 107 47 [some (.inr (.inr 106)), some (.inl (zk))] [] h Q := mf_seg (mp_kpmC_3 h d zk) (mi_tab_kpmC_3) hS (mi_okL_c (trivial) (mi_okL_c (ok_zk) (mi_okL_e))) (mi_okS_e) (mi_al (ho.1) (mi_al (ho.2.1) (mi_al (ho.2.2.1) (mi_al (ho.2.2.2.1) (mi_al (ho.2.2.2.2.1) (mi_al (ho.2.2.2.2.2.1) (mi_al (ho.2.2.2.2.2.2.1) (mi_al (ho.2.2.2.2.2.2.2.1) (mi_al (ho.2.2.2.2.2.2.2.2) (mi_al_e)))))))))) (fun h1 W _ hst => kon h1 W)
set_option maxRecDepth 20000 in
theorem mp_kpmC_4 (h : sm_H) (d : Nat) (zk : Int) : mj_path [(107, (2, 0, sb_107)), (20, (2, 5, sb_20))] sx_sk h 36 [0, 0, 0, 0, 1, 8, 8] (d + 6, 107, 47, [some (.inr (.inr 106)), some (.inl (zk))], [], [], []) = some ((d + 6, 107, 47, [some (.inr (.inr 106)), some (.inl (zk + 1))], [], [.inl (13578, (((mi_f h 13578) * ((10 : Int))) + ((32 : Int))) - ((48 : Int)))], []), [(mi_f h 13577) = ((1 : Int)), zk < (mi_f h 13575), -2147483648 ≤ (mi_f h 13578) * ((10 : Int)) ∧ (mi_f h 13578) * ((10 : Int)) ≤ 2147483647, ((0 : Int)) ≤ zk, zk < (mi_f h 6913), ((160 : Int)) ≤ zk, 0 ≤ ((32 : Int)) ∧ ((32 : Int)) ≤ 65535, -2147483648 ≤ ((mi_f h 13578) * ((10 : Int))) + ((32 : Int)) ∧ ((mi_f h 13578) * ((10 : Int))) + ((32 : Int)) ≤ 2147483647, -2147483648 ≤ (((mi_f h 13578) * ((10 : Int))) + ((32 : Int))) - ((48 : Int)) ∧ (((mi_f h 13578) * ((10 : Int))) + ((32 : Int))) - ((48 : Int)) ≤ 2147483647, -2147483648 ≤ zk + 1 ∧ zk + 1 ≤ 2147483647]) := rfl
theorem mi_tab_kpmC_4 : ∀ e ∈ ([(107, (2, 0, sb_107)), (20, (2, 5, sb_20))] : mi_T), sc_P e.1 = some e.2 := mi_tb mi_P107 (mi_tb mi_P20 (mi_tb_e))
set_option maxRecDepth 20000 in
theorem ms_kpmC_4 {h : sm_H} {d : Nat} {Q : Option mi_V → sm_H → Prop} {zk : Int} (hS : ab_Sh sx_sk h) (ok_zk : mi_in zk) (ho : ((mi_f h 13577) = ((1 : Int))) ∧ (zk < (mi_f h 13575)) ∧ (-2147483648 ≤ (mi_f h 13578) * ((10 : Int)) ∧ (mi_f h 13578) * ((10 : Int)) ≤ 2147483647) ∧ (((0 : Int)) ≤ zk) ∧ (zk < (mi_f h 6913)) ∧ (((160 : Int)) ≤ zk) ∧ (0 ≤ ((32 : Int)) ∧ ((32 : Int)) ≤ 65535) ∧ (-2147483648 ≤ ((mi_f h 13578) * ((10 : Int))) + ((32 : Int)) ∧ ((mi_f h 13578) * ((10 : Int))) + ((32 : Int)) ≤ 2147483647) ∧ (-2147483648 ≤ (((mi_f h 13578) * ((10 : Int))) + ((32 : Int))) - ((48 : Int)) ∧ (((mi_f h 13578) * ((10 : Int))) + ((32 : Int))) - ((48 : Int)) ≤ 2147483647) ∧ (-2147483648 ≤ zk + 1 ∧ zk + 1 ≤ 2147483647)) (kon : ∀ h1, me_W [.inl (13578, (((mi_f h 13578) * ((10 : Int))) + ((32 : Int))) - ((48 : Int)))] h h1 → me_E (d + 6) 107 47 [some (.inr (.inr 106)), some (.inl (zk + 1))] [] h1 Q) : me_E (d + 6) 107 47 [some (.inr (.inr 106)), some (.inl (zk))] [] h Q := mf_seg (mp_kpmC_4 h d zk) (mi_tab_kpmC_4) hS (mi_okL_c (trivial) (mi_okL_c (ok_zk) (mi_okL_e))) (mi_okS_e) (mi_al (ho.1) (mi_al (ho.2.1) (mi_al (ho.2.2.1) (mi_al (ho.2.2.2.1) (mi_al (ho.2.2.2.2.1) (mi_al (ho.2.2.2.2.2.1) (mi_al (ho.2.2.2.2.2.2.1) (mi_al (ho.2.2.2.2.2.2.2.1) (mi_al (ho.2.2.2.2.2.2.2.2.1) (mi_al (ho.2.2.2.2.2.2.2.2.2) (mi_al_e))))))))))) (fun h1 W _ hst => kon h1 W)
set_option maxRecDepth 20000 in
theorem mp_kpmC_5 (h : sm_H) (d : Nat) (zk : Int) : mj_path [(107, (2, 0, sb_107)), (20, (2, 5, sb_20))] sx_sk h 40 [0, 0, 0, 0, 0, 8, 8] (d + 6, 107, 47, [some (.inr (.inr 106)), some (.inl (zk))], [], [], []) = some ((d + 6, 107, 47, [some (.inr (.inr 106)), some (.inl (zk + 1))], [], [.inl (13578, (((mi_f h 13578) * ((10 : Int))) + (mi_a h 55 (Int.toNat zk))) - ((48 : Int)))], []), [(mi_f h 13577) = ((1 : Int)), zk < (mi_f h 13575), -2147483648 ≤ (mi_f h 13578) * ((10 : Int)) ∧ (mi_f h 13578) * ((10 : Int)) ≤ 2147483647, ((0 : Int)) ≤ zk, zk < (mi_f h 6913), zk < ((160 : Int)), 0 ≤ zk ∧ zk < 160, 0 ≤ (mi_a h 55 (Int.toNat zk)) ∧ (mi_a h 55 (Int.toNat zk)) ≤ 65535, -2147483648 ≤ ((mi_f h 13578) * ((10 : Int))) + (mi_a h 55 (Int.toNat zk)) ∧ ((mi_f h 13578) * ((10 : Int))) + (mi_a h 55 (Int.toNat zk)) ≤ 2147483647, -2147483648 ≤ (((mi_f h 13578) * ((10 : Int))) + (mi_a h 55 (Int.toNat zk))) - ((48 : Int)) ∧ (((mi_f h 13578) * ((10 : Int))) + (mi_a h 55 (Int.toNat zk))) - ((48 : Int)) ≤ 2147483647, -2147483648 ≤ zk + 1 ∧ zk + 1 ≤ 2147483647]) := rfl
theorem mi_tab_kpmC_5 : ∀ e ∈ ([(107, (2, 0, sb_107)), (20, (2, 5, sb_20))] : mi_T), sc_P e.1 = some e.2 := mi_tb mi_P107 (mi_tb mi_P20 (mi_tb_e))
set_option maxRecDepth 20000 in
theorem ms_kpmC_5 {h : sm_H} {d : Nat} {Q : Option mi_V → sm_H → Prop} {zk : Int} (hS : ab_Sh sx_sk h) (ok_zk : mi_in zk) (ho : ((mi_f h 13577) = ((1 : Int))) ∧ (zk < (mi_f h 13575)) ∧ (-2147483648 ≤ (mi_f h 13578) * ((10 : Int)) ∧ (mi_f h 13578) * ((10 : Int)) ≤ 2147483647) ∧ (((0 : Int)) ≤ zk) ∧ (zk < (mi_f h 6913)) ∧ (zk < ((160 : Int))) ∧ (0 ≤ zk ∧ zk < 160) ∧ (0 ≤ (mi_a h 55 (Int.toNat zk)) ∧ (mi_a h 55 (Int.toNat zk)) ≤ 65535) ∧ (-2147483648 ≤ ((mi_f h 13578) * ((10 : Int))) + (mi_a h 55 (Int.toNat zk)) ∧ ((mi_f h 13578) * ((10 : Int))) + (mi_a h 55 (Int.toNat zk)) ≤ 2147483647) ∧ (-2147483648 ≤ (((mi_f h 13578) * ((10 : Int))) + (mi_a h 55 (Int.toNat zk))) - ((48 : Int)) ∧ (((mi_f h 13578) * ((10 : Int))) + (mi_a h 55 (Int.toNat zk))) - ((48 : Int)) ≤ 2147483647) ∧ (-2147483648 ≤ zk + 1 ∧ zk + 1 ≤ 2147483647)) (kon : ∀ h1, me_W [.inl (13578, (((mi_f h 13578) * ((10 : Int))) + (mi_a h 55 (Int.toNat zk))) - ((48 : Int)))] h h1 → me_E (d + 6) 107 47 [some (.inr (.inr 106)), some (.inl (zk + 1))] [] h1 Q) : me_E (d + 6) 107 47 [some (.inr (.inr 106)), some (.inl (zk))] [] h Q := mf_seg (mp_kpmC_5 h d zk) (mi_tab_kpmC_5) hS (mi_okL_c (trivial) (mi_okL_c (ok_zk) (mi_okL_e))) (mi_okS_e) (mi_al (ho.1) (mi_al (ho.2.1) (mi_al (ho.2.2.1) (mi_al (ho.2.2.2.1) (mi_al (ho.2.2.2.2.1) (mi_al (ho.2.2.2.2.2.1) (mi_al (ho.2.2.2.2.2.2.1) (mi_al (ho.2.2.2.2.2.2.2.1) (mi_al (ho.2.2.2.2.2.2.2.2.1) (mi_al (ho.2.2.2.2.2.2.2.2.2.1) (mi_al (ho.2.2.2.2.2.2.2.2.2.2) (mi_al_e)))))))))))) (fun h1 W _ hst => kon h1 W)
set_option maxRecDepth 20000 in
theorem mt_kpmC {h : sm_H} {d : Nat} {Q : Option mi_V → sm_H → Prop} {zk : Int} (hS : ab_Sh sx_sk h) (ok_zk : mi_in zk) (k0 : ((-2147483648) ≤ mi_f h 13577 ∧ mi_f h 13577 ≤ 2147483647) → ((mi_f h 13577) ≠ ((1 : Int))) → (∀ h1, ab_Sh sx_sk h1 → ab_Fr [] h h1 → Q none h1)) (k1 : ((-2147483648) ≤ mi_f h 13577 ∧ mi_f h 13577 ≤ 2147483647) → (0 ≤ mi_f h 13575 ∧ mi_f h 13575 ≤ 161) → ((mi_f h 13577) = ((1 : Int))) → ((mi_f h 13575) ≤ zk) → (∀ h1, ab_Sh sx_sk h1 → ab_Fr [] h h1 → Q none h1)) (k2 : ((-2147483648) ≤ mi_f h 13577 ∧ mi_f h 13577 ≤ 2147483647) → (0 ≤ mi_f h 13575 ∧ mi_f h 13575 ≤ 161) → ((-2147483648) ≤ mi_f h 13578 ∧ mi_f h 13578 ≤ 2147483647) → ((mi_f h 13577) = ((1 : Int))) → (zk < (mi_f h 13575)) → (zk < ((0 : Int))) → ((-2147483648 ≤ (mi_f h 13578) * ((10 : Int)) ∧ (mi_f h 13578) * ((10 : Int)) ≤ 2147483647) ∧ (-2147483648 ≤ ((mi_f h 13578) * ((10 : Int))) + ((32 : Int)) ∧ ((mi_f h 13578) * ((10 : Int))) + ((32 : Int)) ≤ 2147483647) ∧ (-2147483648 ≤ (((mi_f h 13578) * ((10 : Int))) + ((32 : Int))) - ((48 : Int)) ∧ (((mi_f h 13578) * ((10 : Int))) + ((32 : Int))) - ((48 : Int)) ≤ 2147483647) ∧ (-2147483648 ≤ zk + 1 ∧ zk + 1 ≤ 2147483647)) ∧ (∀ h1, ab_Sh sx_sk h1 → mi_f h1 13578 = (((mi_f h 13578) * ((10 : Int))) + ((32 : Int))) - ((48 : Int)) → ab_Fr [(13578, 13579)] h h1 → me_E (d + 6) 107 47 [some (.inr (.inr 106)), some (.inl (zk + 1))] [] h1 Q)) (k3 : ((-2147483648) ≤ mi_f h 13577 ∧ mi_f h 13577 ≤ 2147483647) → (0 ≤ mi_f h 13575 ∧ mi_f h 13575 ≤ 161) → (0 ≤ mi_f h 6913 ∧ mi_f h 6913 ≤ 160) → ((-2147483648) ≤ mi_f h 13578 ∧ mi_f h 13578 ≤ 2147483647) → ((mi_f h 13577) = ((1 : Int))) → (zk < (mi_f h 13575)) → (((0 : Int)) ≤ zk) → ((mi_f h 6913) ≤ zk) → ((-2147483648 ≤ (mi_f h 13578) * ((10 : Int)) ∧ (mi_f h 13578) * ((10 : Int)) ≤ 2147483647) ∧ (-2147483648 ≤ ((mi_f h 13578) * ((10 : Int))) + ((32 : Int)) ∧ ((mi_f h 13578) * ((10 : Int))) + ((32 : Int)) ≤ 2147483647) ∧ (-2147483648 ≤ (((mi_f h 13578) * ((10 : Int))) + ((32 : Int))) - ((48 : Int)) ∧ (((mi_f h 13578) * ((10 : Int))) + ((32 : Int))) - ((48 : Int)) ≤ 2147483647) ∧ (-2147483648 ≤ zk + 1 ∧ zk + 1 ≤ 2147483647)) ∧ (∀ h1, ab_Sh sx_sk h1 → mi_f h1 13578 = (((mi_f h 13578) * ((10 : Int))) + ((32 : Int))) - ((48 : Int)) → ab_Fr [(13578, 13579)] h h1 → me_E (d + 6) 107 47 [some (.inr (.inr 106)), some (.inl (zk + 1))] [] h1 Q)) (k4 : ((-2147483648) ≤ mi_f h 13577 ∧ mi_f h 13577 ≤ 2147483647) → (0 ≤ mi_f h 13575 ∧ mi_f h 13575 ≤ 161) → (0 ≤ mi_f h 6913 ∧ mi_f h 6913 ≤ 160) → ((-2147483648) ≤ mi_f h 13578 ∧ mi_f h 13578 ≤ 2147483647) → ((mi_f h 13577) = ((1 : Int))) → (zk < (mi_f h 13575)) → (((0 : Int)) ≤ zk) → (zk < (mi_f h 6913)) → (((160 : Int)) ≤ zk) → ((-2147483648 ≤ (mi_f h 13578) * ((10 : Int)) ∧ (mi_f h 13578) * ((10 : Int)) ≤ 2147483647) ∧ (-2147483648 ≤ ((mi_f h 13578) * ((10 : Int))) + ((32 : Int)) ∧ ((mi_f h 13578) * ((10 : Int))) + ((32 : Int)) ≤ 2147483647) ∧ (-2147483648 ≤ (((mi_f h 13578) * ((10 : Int))) + ((32 : Int))) - ((48 : Int)) ∧ (((mi_f h 13578) * ((10 : Int))) + ((32 : Int))) - ((48 : Int)) ≤ 2147483647) ∧ (-2147483648 ≤ zk + 1 ∧ zk + 1 ≤ 2147483647)) ∧ (∀ h1, ab_Sh sx_sk h1 → mi_f h1 13578 = (((mi_f h 13578) * ((10 : Int))) + ((32 : Int))) - ((48 : Int)) → ab_Fr [(13578, 13579)] h h1 → me_E (d + 6) 107 47 [some (.inr (.inr 106)), some (.inl (zk + 1))] [] h1 Q)) (k5 : ((-2147483648) ≤ mi_f h 13577 ∧ mi_f h 13577 ≤ 2147483647) → (0 ≤ mi_f h 13575 ∧ mi_f h 13575 ≤ 161) → (0 ≤ mi_f h 6913 ∧ mi_f h 6913 ≤ 160) → ((-2147483648) ≤ mi_f h 13578 ∧ mi_f h 13578 ≤ 2147483647) → ((mi_f h 13577) = ((1 : Int))) → (zk < (mi_f h 13575)) → (((0 : Int)) ≤ zk) → (zk < (mi_f h 6913)) → (zk < ((160 : Int))) → ((-2147483648 ≤ (mi_f h 13578) * ((10 : Int)) ∧ (mi_f h 13578) * ((10 : Int)) ≤ 2147483647) ∧ (0 ≤ zk ∧ zk < 160) ∧ (0 ≤ (mi_a h 55 (Int.toNat zk)) ∧ (mi_a h 55 (Int.toNat zk)) ≤ 65535) ∧ (-2147483648 ≤ ((mi_f h 13578) * ((10 : Int))) + (mi_a h 55 (Int.toNat zk)) ∧ ((mi_f h 13578) * ((10 : Int))) + (mi_a h 55 (Int.toNat zk)) ≤ 2147483647) ∧ (-2147483648 ≤ (((mi_f h 13578) * ((10 : Int))) + (mi_a h 55 (Int.toNat zk))) - ((48 : Int)) ∧ (((mi_f h 13578) * ((10 : Int))) + (mi_a h 55 (Int.toNat zk))) - ((48 : Int)) ≤ 2147483647) ∧ (-2147483648 ≤ zk + 1 ∧ zk + 1 ≤ 2147483647)) ∧ (∀ h1, ab_Sh sx_sk h1 → mi_f h1 13578 = (((mi_f h 13578) * ((10 : Int))) + (mi_a h 55 (Int.toNat zk))) - ((48 : Int)) → ab_Fr [(13578, 13579)] h h1 → me_E (d + 6) 107 47 [some (.inr (.inr 106)), some (.inl (zk + 1))] [] h1 Q)) : me_E (d + 6) 107 47 [some (.inr (.inr 106)), some (.inl (zk))] [] h Q := Or.elim (mi_em .ne ((mi_f h 13577)) (((1 : Int)))) (fun c0 => ms_kpmC_0 hS ok_zk (c0) (fun h1 W => (k0 (me_fb hS rfl) c0) h1 W.1 (W.2.2.2.2.2 _ rfl))) (fun c0 => Or.elim (mi_em .ge (zk) ((mi_f h 13575))) (fun c1 => ms_kpmC_1 hS ok_zk ⟨c0, c1⟩ (fun h1 W => (k1 (me_fb hS rfl) (me_fb hS rfl) c0 c1) h1 W.1 (W.2.2.2.2.2 _ rfl))) (fun c1 => Or.elim (mi_em .lt (zk) (((0 : Int)))) (fun c2 => ms_kpmC_2 hS ok_zk ⟨c0, c1, (k2 (me_fb hS rfl) (me_fb hS rfl) (me_fb hS rfl) c0 c1 c2).1.1, c2, (by decide), (k2 (me_fb hS rfl) (me_fb hS rfl) (me_fb hS rfl) c0 c1 c2).1.2.1, (k2 (me_fb hS rfl) (me_fb hS rfl) (me_fb hS rfl) c0 c1 c2).1.2.2.1, (k2 (me_fb hS rfl) (me_fb hS rfl) (me_fb hS rfl) c0 c1 c2).1.2.2.2⟩ (fun h1 W => (k2 (me_fb hS rfl) (me_fb hS rfl) (me_fb hS rfl) c0 c1 c2).2 h1 W.1 (W.2.1 13578) (W.2.2.2.2.2 _ rfl))) (fun c2 => Or.elim (mi_em .ge (zk) ((mi_f h 6913))) (fun c3 => ms_kpmC_3 hS ok_zk ⟨c0, c1, (k3 (me_fb hS rfl) (me_fb hS rfl) (me_fb hS rfl) (me_fb hS rfl) c0 c1 c2 c3).1.1, c2, c3, (by decide), (k3 (me_fb hS rfl) (me_fb hS rfl) (me_fb hS rfl) (me_fb hS rfl) c0 c1 c2 c3).1.2.1, (k3 (me_fb hS rfl) (me_fb hS rfl) (me_fb hS rfl) (me_fb hS rfl) c0 c1 c2 c3).1.2.2.1, (k3 (me_fb hS rfl) (me_fb hS rfl) (me_fb hS rfl) (me_fb hS rfl) c0 c1 c2 c3).1.2.2.2⟩ (fun h1 W => (k3 (me_fb hS rfl) (me_fb hS rfl) (me_fb hS rfl) (me_fb hS rfl) c0 c1 c2 c3).2 h1 W.1 (W.2.1 13578) (W.2.2.2.2.2 _ rfl))) (fun c3 => Or.elim (mi_em .ge (zk) (((160 : Int)))) (fun c4 => ms_kpmC_4 hS ok_zk ⟨c0, c1, (k4 (me_fb hS rfl) (me_fb hS rfl) (me_fb hS rfl) (me_fb hS rfl) c0 c1 c2 c3 c4).1.1, c2, c3, c4, (by decide), (k4 (me_fb hS rfl) (me_fb hS rfl) (me_fb hS rfl) (me_fb hS rfl) c0 c1 c2 c3 c4).1.2.1, (k4 (me_fb hS rfl) (me_fb hS rfl) (me_fb hS rfl) (me_fb hS rfl) c0 c1 c2 c3 c4).1.2.2.1, (k4 (me_fb hS rfl) (me_fb hS rfl) (me_fb hS rfl) (me_fb hS rfl) c0 c1 c2 c3 c4).1.2.2.2⟩ (fun h1 W => (k4 (me_fb hS rfl) (me_fb hS rfl) (me_fb hS rfl) (me_fb hS rfl) c0 c1 c2 c3 c4).2 h1 W.1 (W.2.1 13578) (W.2.2.2.2.2 _ rfl))) (fun c4 => ms_kpmC_5 hS ok_zk ⟨c0, c1, (k5 (me_fb hS rfl) (me_fb hS rfl) (me_fb hS rfl) (me_fb hS rfl) c0 c1 c2 c3 c4).1.1, c2, c3, c4, (k5 (me_fb hS rfl) (me_fb hS rfl) (me_fb hS rfl) (me_fb hS rfl) c0 c1 c2 c3 c4).1.2.1, (k5 (me_fb hS rfl) (me_fb hS rfl) (me_fb hS rfl) (me_fb hS rfl) c0 c1 c2 c3 c4).1.2.2.1, (k5 (me_fb hS rfl) (me_fb hS rfl) (me_fb hS rfl) (me_fb hS rfl) c0 c1 c2 c3 c4).1.2.2.2.1, (k5 (me_fb hS rfl) (me_fb hS rfl) (me_fb hS rfl) (me_fb hS rfl) c0 c1 c2 c3 c4).1.2.2.2.2.1, (k5 (me_fb hS rfl) (me_fb hS rfl) (me_fb hS rfl) (me_fb hS rfl) c0 c1 c2 c3 c4).1.2.2.2.2.2⟩ (fun h1 W => (k5 (me_fb hS rfl) (me_fb hS rfl) (me_fb hS rfl) (me_fb hS rfl) c0 c1 c2 c3 c4).2 h1 W.1 (W.2.1 13578) (W.2.2.2.2.2 _ rfl)))))))
set_option maxRecDepth 20000 in
theorem mp_kpoA_0 (h : sm_H) (d : Nat) : mj_path [(109, (1, 0, sb_109))] sx_sk h 5 [] (d + 6, 109, 0, [some (.inr (.inr 106))], [], [], []) = some ((d + 6, 109, 9, [some (.inr (.inr 106))], [.inl (mi_f h 13576), .inr (.inr 54), .inr (.inr 106)], [], []), []) := rfl
theorem mi_tab_kpoA_0 : ∀ e ∈ ([(109, (1, 0, sb_109))] : mi_T), sc_P e.1 = some e.2 := mi_tb mi_P109 (mi_tb_e)
set_option maxRecDepth 20000 in
theorem ms_kpoA_0 {h : sm_H} {d : Nat} {Q : Option mi_V → sm_H → Prop} (hS : ab_Sh sx_sk h)  (kon : ∀ h1, me_W [] h h1 → ∃ Q1, me_E (d + 5) 25 0 (mi_entry 3 [.inr (.inr 54), .inl (mi_f h 13576)]) [] h1 Q1 ∧ ∀ w h2, (∀ x, w = some x → mi_ok x) → Q1 w h2 → me_E (d + 6) 109 12 [some (.inr (.inr 106))] (mi_back w [.inr (.inr 106)]) h2 Q) : me_E (d + 6) 109 0 [some (.inr (.inr 106))] [] h Q := mf_seg (mp_kpoA_0 h d ) (mi_tab_kpoA_0) hS (mi_okL_c (trivial) (mi_okL_e)) (mi_okS_e) (mi_al_e) (fun h1 W _ hst => let ⟨_, k1, k2⟩ := kon h1 W; mf_call (M := (1, 0, sb_109)) (M' := (3, 1, sb_25)) rfl rfl rfl rfl (Nat.le_of_ble_eq_true rfl) (Nat.le_of_ble_eq_true rfl) W.1 k1 k2)
set_option maxRecDepth 20000 in
theorem mt_kpoA {h : sm_H} {d : Nat} {Q : Option mi_V → sm_H → Prop} (hS : ab_Sh sx_sk h)  (k0 : (∀ h1, ab_Sh sx_sk h1 → ab_Fr [] h h1 → ∃ Q1, me_E (d + 5) 25 0 (mi_entry 3 [.inr (.inr 54), .inl (mi_f h 13576)]) [] h1 Q1 ∧ ∀ w h2, (∀ x, w = some x → mi_ok x) → Q1 w h2 → me_E (d + 6) 109 12 [some (.inr (.inr 106))] (mi_back w [.inr (.inr 106)]) h2 Q)) : me_E (d + 6) 109 0 [some (.inr (.inr 106))] [] h Q := ms_kpoA_0 hS (fun h1 W => (k0) h1 W.1 (W.2.2.2.2.2 _ rfl))
set_option maxRecDepth 20000 in
theorem mp_kpoB_0 (h : sm_H) (d : Nat) (zz : Int) : mj_path [(109, (1, 0, sb_109))] sx_sk h 11 [8, 1] (d + 6, 109, 12, [some (.inr (.inr 106))], [.inl (zz), .inr (.inr 106)], [], []) = some ((d + 6, 109, 66, [some (.inr (.inr 106))], [], [.inl (13577, (-1 : Int)), .inl (13575, zz)], []), [0 ≤ zz ∧ zz ≤ 161, -2147483648 ≤ zz - (mi_f h 13576) ∧ zz - (mi_f h 13576) ≤ 2147483647, ((6 : Int)) < (zz - (mi_f h 13576))]) := rfl
theorem mi_tab_kpoB_0 : ∀ e ∈ ([(109, (1, 0, sb_109))] : mi_T), sc_P e.1 = some e.2 := mi_tb mi_P109 (mi_tb_e)
set_option maxRecDepth 20000 in
theorem ms_kpoB_0 {h : sm_H} {d : Nat} {Q : Option mi_V → sm_H → Prop} {zz : Int} (hS : ab_Sh sx_sk h) (ok_zz : mi_in zz) (ho : (0 ≤ zz ∧ zz ≤ 161) ∧ (-2147483648 ≤ zz - (mi_f h 13576) ∧ zz - (mi_f h 13576) ≤ 2147483647) ∧ (((6 : Int)) < (zz - (mi_f h 13576)))) (kon : ∀ h1, me_W [.inl (13577, (-1 : Int)), .inl (13575, zz)] h h1 → Q none h1) : me_E (d + 6) 109 12 [some (.inr (.inr 106))] [.inl (zz), .inr (.inr 106)] h Q := mf_seg (mp_kpoB_0 h d zz) (mi_tab_kpoB_0) hS (mi_okL_c (trivial) (mi_okL_e)) (mi_okS_cons (ok_zz) (mi_okS_cons (trivial) (mi_okS_e))) (mi_al (ho.1) (mi_al (ho.2.1) (mi_al (ho.2.2) (mi_al_e)))) (fun h1 W _ hst => mf_ret (M := (1, 0, sb_109)) rfl rfl rfl hst (mi_al_e) (kon h1 W))
set_option maxRecDepth 20000 in
theorem mp_kpoB_1 (h : sm_H) (d : Nat) (zz : Int) : mj_path [(109, (1, 0, sb_109))] sx_sk h 18 [8, 0] (d + 6, 109, 12, [some (.inr (.inr 106))], [.inl (zz), .inr (.inr 106)], [], []) = some ((d + 6, 109, 47, [some (.inr (.inr 106))], [.inl (zz), .inl (mi_f h 13576), .inr (.inr 54), .inr (.inr 106)], [.inl (13577, (-1 : Int)), .inl (13575, zz)], []), [0 ≤ zz ∧ zz ≤ 161, -2147483648 ≤ zz - (mi_f h 13576) ∧ zz - (mi_f h 13576) ≤ 2147483647, (zz - (mi_f h 13576)) ≤ ((6 : Int))]) := rfl
theorem mi_tab_kpoB_1 : ∀ e ∈ ([(109, (1, 0, sb_109))] : mi_T), sc_P e.1 = some e.2 := mi_tb mi_P109 (mi_tb_e)
set_option maxRecDepth 20000 in
theorem ms_kpoB_1 {h : sm_H} {d : Nat} {Q : Option mi_V → sm_H → Prop} {zz : Int} (hS : ab_Sh sx_sk h) (ok_zz : mi_in zz) (ho : (0 ≤ zz ∧ zz ≤ 161) ∧ (-2147483648 ≤ zz - (mi_f h 13576) ∧ zz - (mi_f h 13576) ≤ 2147483647) ∧ ((zz - (mi_f h 13576)) ≤ ((6 : Int)))) (kon : ∀ h1, me_W [.inl (13577, (-1 : Int)), .inl (13575, zz)] h h1 → ∃ Q1, me_E (d + 5) 34 0 (mi_entry 5 [.inr (.inr 54), .inl (mi_f h 13576), .inl (zz)]) [] h1 Q1 ∧ ∀ w h2, (∀ x, w = some x → mi_ok x) → Q1 w h2 → me_E (d + 6) 109 50 [some (.inr (.inr 106))] (mi_back w [.inr (.inr 106)]) h2 Q) : me_E (d + 6) 109 12 [some (.inr (.inr 106))] [.inl (zz), .inr (.inr 106)] h Q := mf_seg (mp_kpoB_1 h d zz) (mi_tab_kpoB_1) hS (mi_okL_c (trivial) (mi_okL_e)) (mi_okS_cons (ok_zz) (mi_okS_cons (trivial) (mi_okS_e))) (mi_al (ho.1) (mi_al (ho.2.1) (mi_al (ho.2.2) (mi_al_e)))) (fun h1 W _ hst => let ⟨_, k1, k2⟩ := kon h1 W; mf_call (M := (1, 0, sb_109)) (M' := (5, 1, sb_34)) rfl rfl rfl rfl (Nat.le_of_ble_eq_true rfl) (Nat.le_of_ble_eq_true rfl) W.1 k1 k2)
set_option maxRecDepth 20000 in
theorem mt_kpoB {h : sm_H} {d : Nat} {Q : Option mi_V → sm_H → Prop} {zz : Int} (hS : ab_Sh sx_sk h) (ok_zz : mi_in zz) (k0 : (0 ≤ mi_f h 13576 ∧ mi_f h 13576 ≤ 161) → (((6 : Int)) < (zz - (mi_f h 13576))) → ((0 ≤ zz ∧ zz ≤ 161) ∧ (-2147483648 ≤ zz - (mi_f h 13576) ∧ zz - (mi_f h 13576) ≤ 2147483647)) ∧ (∀ h1, ab_Sh sx_sk h1 → mi_f h1 13575 = zz → mi_f h1 13577 = (-1 : Int) → ab_Fr [(13575, 13576), (13577, 13578)] h h1 → Q none h1)) (k1 : (0 ≤ mi_f h 13576 ∧ mi_f h 13576 ≤ 161) → ((zz - (mi_f h 13576)) ≤ ((6 : Int))) → ((0 ≤ zz ∧ zz ≤ 161) ∧ (-2147483648 ≤ zz - (mi_f h 13576) ∧ zz - (mi_f h 13576) ≤ 2147483647)) ∧ (∀ h1, ab_Sh sx_sk h1 → mi_f h1 13575 = zz → mi_f h1 13577 = (-1 : Int) → ab_Fr [(13575, 13576), (13577, 13578)] h h1 → ∃ Q1, me_E (d + 5) 34 0 (mi_entry 5 [.inr (.inr 54), .inl (mi_f h 13576), .inl (zz)]) [] h1 Q1 ∧ ∀ w h2, (∀ x, w = some x → mi_ok x) → Q1 w h2 → me_E (d + 6) 109 50 [some (.inr (.inr 106))] (mi_back w [.inr (.inr 106)]) h2 Q)) : me_E (d + 6) 109 12 [some (.inr (.inr 106))] [.inl (zz), .inr (.inr 106)] h Q := Or.elim (mi_em .gt ((zz - (mi_f h 13576))) (((6 : Int)))) (fun c0 => ms_kpoB_0 hS ok_zz ⟨(k0 (me_fb hS rfl) c0).1.1, (k0 (me_fb hS rfl) c0).1.2, c0⟩ (fun h1 W => (k0 (me_fb hS rfl) c0).2 h1 W.1 (W.2.1 13575) (W.2.1 13577) (W.2.2.2.2.2 _ rfl))) (fun c0 => ms_kpoB_1 hS ok_zz ⟨(k1 (me_fb hS rfl) c0).1.1, (k1 (me_fb hS rfl) c0).1.2, c0⟩ (fun h1 W => (k1 (me_fb hS rfl) c0).2 h1 W.1 (W.2.1 13575) (W.2.1 13577) (W.2.2.2.2.2 _ rfl)))
set_option maxRecDepth 20000 in
theorem mp_kpoC_0 (h : sm_H) (d : Nat) (zz : Int) : mj_path [(109, (1, 0, sb_109))] sx_sk h 6 [] (d + 6, 109, 50, [some (.inr (.inr 106))], [.inl (zz), .inr (.inr 106)], [], []) = some ((d + 6, 109, 60, [some (.inr (.inr 106))], [.inl (zz), .inl ((2 : Int)), .inr (.inr 106), .inr (.inr 106)], [.inl (13578, zz)], []), []) := rfl
theorem mi_tab_kpoC_0 : ∀ e ∈ ([(109, (1, 0, sb_109))] : mi_T), sc_P e.1 = some e.2 := mi_tb mi_P109 (mi_tb_e)
set_option maxRecDepth 20000 in
theorem ms_kpoC_0 {h : sm_H} {d : Nat} {Q : Option mi_V → sm_H → Prop} {zz : Int} (hS : ab_Sh sx_sk h) (ok_zz : mi_in zz) (kon : ∀ h1, me_W [.inl (13578, zz)] h h1 → ∃ Q1, me_E (d + 5) 110 0 (mi_entry 4 [.inr (.inr 106), .inl ((2 : Int)), .inl (zz)]) [] h1 Q1 ∧ ∀ w h2, (∀ x, w = some x → mi_ok x) → Q1 w h2 → me_E (d + 6) 109 63 [some (.inr (.inr 106))] (mi_back w [.inr (.inr 106)]) h2 Q) : me_E (d + 6) 109 50 [some (.inr (.inr 106))] [.inl (zz), .inr (.inr 106)] h Q := mf_seg (mp_kpoC_0 h d zz) (mi_tab_kpoC_0) hS (mi_okL_c (trivial) (mi_okL_e)) (mi_okS_cons (ok_zz) (mi_okS_cons (trivial) (mi_okS_e))) (mi_al_e) (fun h1 W _ hst => let ⟨_, k1, k2⟩ := kon h1 W; mf_call (M := (1, 0, sb_109)) (M' := (4, 1, sb_110)) rfl rfl rfl rfl (Nat.le_of_ble_eq_true rfl) (Nat.le_of_ble_eq_true rfl) W.1 k1 k2)
set_option maxRecDepth 20000 in
theorem mt_kpoC {h : sm_H} {d : Nat} {Q : Option mi_V → sm_H → Prop} {zz : Int} (hS : ab_Sh sx_sk h) (ok_zz : mi_in zz) (k0 : (∀ h1, ab_Sh sx_sk h1 → mi_f h1 13578 = zz → ab_Fr [(13578, 13579)] h h1 → ∃ Q1, me_E (d + 5) 110 0 (mi_entry 4 [.inr (.inr 106), .inl ((2 : Int)), .inl (zz)]) [] h1 Q1 ∧ ∀ w h2, (∀ x, w = some x → mi_ok x) → Q1 w h2 → me_E (d + 6) 109 63 [some (.inr (.inr 106))] (mi_back w [.inr (.inr 106)]) h2 Q)) : me_E (d + 6) 109 50 [some (.inr (.inr 106))] [.inl (zz), .inr (.inr 106)] h Q := ms_kpoC_0 hS ok_zz (fun h1 W => (k0) h1 W.1 (W.2.1 13578) (W.2.2.2.2.2 _ rfl))
set_option maxRecDepth 20000 in
theorem mp_kpoD_0 (h : sm_H) (d : Nat) (zz : Int) : mj_path [(109, (1, 0, sb_109))] sx_sk h 1 [] (d + 6, 109, 63, [some (.inr (.inr 106))], [.inl (zz), .inr (.inr 106)], [], []) = some ((d + 6, 109, 66, [some (.inr (.inr 106))], [], [.inl (13577, zz)], []), []) := rfl
theorem mi_tab_kpoD_0 : ∀ e ∈ ([(109, (1, 0, sb_109))] : mi_T), sc_P e.1 = some e.2 := mi_tb mi_P109 (mi_tb_e)
set_option maxRecDepth 20000 in
theorem ms_kpoD_0 {h : sm_H} {d : Nat} {Q : Option mi_V → sm_H → Prop} {zz : Int} (hS : ab_Sh sx_sk h) (ok_zz : mi_in zz) (kon : ∀ h1, me_W [.inl (13577, zz)] h h1 → Q none h1) : me_E (d + 6) 109 63 [some (.inr (.inr 106))] [.inl (zz), .inr (.inr 106)] h Q := mf_seg (mp_kpoD_0 h d zz) (mi_tab_kpoD_0) hS (mi_okL_c (trivial) (mi_okL_e)) (mi_okS_cons (ok_zz) (mi_okS_cons (trivial) (mi_okS_e))) (mi_al_e) (fun h1 W _ hst => mf_ret (M := (1, 0, sb_109)) rfl rfl rfl hst (mi_al_e) (kon h1 W))
set_option maxRecDepth 20000 in
theorem mt_kpoD {h : sm_H} {d : Nat} {Q : Option mi_V → sm_H → Prop} {zz : Int} (hS : ab_Sh sx_sk h) (ok_zz : mi_in zz) (k0 : (∀ h1, ab_Sh sx_sk h1 → mi_f h1 13577 = zz → ab_Fr [(13577, 13578)] h h1 → Q none h1)) : me_E (d + 6) 109 63 [some (.inr (.inr 106))] [.inl (zz), .inr (.inr 106)] h Q := ms_kpoD_0 hS ok_zz (fun h1 W => (k0) h1 W.1 (W.2.1 13577) (W.2.2.2.2.2 _ rfl))
set_option maxRecDepth 20000 in
theorem mp_kplA_0 (h : sm_H) (d : Nat) (zo zc : Int) : mj_path [(110, (4, 1, sb_110))] sx_sk h 3 [] (d + 4, 110, 0, [some (.inr (.inr 106)), some (.inl (zo)), some (.inl (zc)), none], [], [], []) = some ((d + 4, 110, 5, [some (.inr (.inr 106)), some (.inl (zo)), some (.inl (zc)), none], [.inl (zc), .inr (.inr 60)], [], []), []) := rfl
theorem mi_tab_kplA_0 : ∀ e ∈ ([(110, (4, 1, sb_110))] : mi_T), sc_P e.1 = some e.2 := mi_tb mi_P110 (mi_tb_e)
set_option maxRecDepth 20000 in
theorem ms_kplA_0 {h : sm_H} {d : Nat} {Q : Option mi_V → sm_H → Prop} {zo zc : Int} (hS : ab_Sh sx_sk h) (ok_zo : mi_in zo) (ok_zc : mi_in zc) (kon : ∀ h1, me_W [] h h1 → ∃ Q1, me_E (d + 3) 58 0 (mi_entry 3 [.inr (.inr 60), .inl (zc)]) [] h1 Q1 ∧ ∀ w h2, (∀ x, w = some x → mi_ok x) → Q1 w h2 → me_E (d + 4) 110 8 [some (.inr (.inr 106)), some (.inl (zo)), some (.inl (zc)), none] (mi_back w []) h2 Q) : me_E (d + 4) 110 0 [some (.inr (.inr 106)), some (.inl (zo)), some (.inl (zc)), none] [] h Q := mf_seg (mp_kplA_0 h d zo zc) (mi_tab_kplA_0) hS (mi_okL_c (trivial) (mi_okL_c (ok_zo) (mi_okL_c (ok_zc) (mi_okL_n (mi_okL_e))))) (mi_okS_e) (mi_al_e) (fun h1 W _ hst => let ⟨_, k1, k2⟩ := kon h1 W; mf_call (M := (4, 1, sb_110)) (M' := (3, 1, sb_58)) rfl rfl rfl rfl (Nat.le_of_ble_eq_true rfl) (Nat.le_of_ble_eq_true rfl) W.1 k1 k2)
set_option maxRecDepth 20000 in
theorem mt_kplA {h : sm_H} {d : Nat} {Q : Option mi_V → sm_H → Prop} {zo zc : Int} (hS : ab_Sh sx_sk h) (ok_zo : mi_in zo) (ok_zc : mi_in zc) (k0 : (∀ h1, ab_Sh sx_sk h1 → ab_Fr [] h h1 → ∃ Q1, me_E (d + 3) 58 0 (mi_entry 3 [.inr (.inr 60), .inl (zc)]) [] h1 Q1 ∧ ∀ w h2, (∀ x, w = some x → mi_ok x) → Q1 w h2 → me_E (d + 4) 110 8 [some (.inr (.inr 106)), some (.inl (zo)), some (.inl (zc)), none] (mi_back w []) h2 Q)) : me_E (d + 4) 110 0 [some (.inr (.inr 106)), some (.inl (zo)), some (.inl (zc)), none] [] h Q := ms_kplA_0 hS ok_zo ok_zc (fun h1 W => (k0) h1 W.1 (W.2.2.2.2.2 _ rfl))
set_option maxRecDepth 20000 in
theorem mp_kplB_0 (h : sm_H) (d : Nat) (zo zc zz : Int) : mj_path [(110, (4, 1, sb_110))] sx_sk h 7 [1, 8] (d + 4, 110, 8, [some (.inr (.inr 106)), some (.inl (zo)), some (.inl (zc)), none], [.inl (zz)], [], []) = some ((d + 4, 110, 21, [some (.inr (.inr 106)), some (.inl (zo)), some (.inl (zc)), some (.inl (zz))], [.inl (((3 : Int)) + zz)], [], []), [zz ≠ ((-1 : Int)), -2147483648 ≤ ((3 : Int)) + zz ∧ ((3 : Int)) + zz ≤ 2147483647]) := rfl
theorem mi_tab_kplB_0 : ∀ e ∈ ([(110, (4, 1, sb_110))] : mi_T), sc_P e.1 = some e.2 := mi_tb mi_P110 (mi_tb_e)
set_option maxRecDepth 20000 in
theorem ms_kplB_0 {h : sm_H} {d : Nat} {Q : Option mi_V → sm_H → Prop} {zo zc zz : Int} (hS : ab_Sh sx_sk h) (ok_zo : mi_in zo) (ok_zc : mi_in zc) (ok_zz : mi_in zz) (ho : (zz ≠ ((-1 : Int))) ∧ (-2147483648 ≤ ((3 : Int)) + zz ∧ ((3 : Int)) + zz ≤ 2147483647)) (kon : ∀ h1, me_W [] h h1 → Q (some (.inl (((3 : Int)) + zz))) h1) : me_E (d + 4) 110 8 [some (.inr (.inr 106)), some (.inl (zo)), some (.inl (zc)), none] [.inl (zz)] h Q := mf_seg (mp_kplB_0 h d zo zc zz) (mi_tab_kplB_0) hS (mi_okL_c (trivial) (mi_okL_c (ok_zo) (mi_okL_c (ok_zc) (mi_okL_n (mi_okL_e))))) (mi_okS_cons (ok_zz) (mi_okS_e)) (mi_al (ho.1) (mi_al (ho.2) (mi_al_e))) (fun h1 W _ hst => mf_ret (M := (4, 1, sb_110)) rfl rfl rfl hst (mi_al_e) (kon h1 W))
set_option maxRecDepth 20000 in
theorem mp_kplB_1 (h : sm_H) (d : Nat) (zo zc zz : Int) : mj_path [(110, (4, 1, sb_110))] sx_sk h 6 [0] (d + 4, 110, 8, [some (.inr (.inr 106)), some (.inl (zo)), some (.inl (zc)), none], [.inl (zz)], [], []) = some ((d + 4, 110, 21, [some (.inr (.inr 106)), some (.inl (zo)), some (.inl (zc)), some (.inl (zz))], [.inl (zo)], [], []), [zz = ((-1 : Int))]) := rfl
theorem mi_tab_kplB_1 : ∀ e ∈ ([(110, (4, 1, sb_110))] : mi_T), sc_P e.1 = some e.2 := mi_tb mi_P110 (mi_tb_e)
set_option maxRecDepth 20000 in
theorem ms_kplB_1 {h : sm_H} {d : Nat} {Q : Option mi_V → sm_H → Prop} {zo zc zz : Int} (hS : ab_Sh sx_sk h) (ok_zo : mi_in zo) (ok_zc : mi_in zc) (ok_zz : mi_in zz) (ho : (zz = ((-1 : Int)))) (kon : ∀ h1, me_W [] h h1 → Q (some (.inl (zo))) h1) : me_E (d + 4) 110 8 [some (.inr (.inr 106)), some (.inl (zo)), some (.inl (zc)), none] [.inl (zz)] h Q := mf_seg (mp_kplB_1 h d zo zc zz) (mi_tab_kplB_1) hS (mi_okL_c (trivial) (mi_okL_c (ok_zo) (mi_okL_c (ok_zc) (mi_okL_n (mi_okL_e))))) (mi_okS_cons (ok_zz) (mi_okS_e)) (mi_al (ho) (mi_al_e)) (fun h1 W _ hst => mf_ret (M := (4, 1, sb_110)) rfl rfl rfl hst (mi_al_e) (kon h1 W))
set_option maxRecDepth 20000 in
theorem mt_kplB {h : sm_H} {d : Nat} {Q : Option mi_V → sm_H → Prop} {zo zc zz : Int} (hS : ab_Sh sx_sk h) (ok_zo : mi_in zo) (ok_zc : mi_in zc) (ok_zz : mi_in zz) (k0 : (zz ≠ ((-1 : Int))) → ((-2147483648 ≤ ((3 : Int)) + zz ∧ ((3 : Int)) + zz ≤ 2147483647)) ∧ (∀ h1, ab_Sh sx_sk h1 → ab_Fr [] h h1 → Q (some (.inl (((3 : Int)) + zz))) h1)) (k1 : (zz = ((-1 : Int))) → (∀ h1, ab_Sh sx_sk h1 → ab_Fr [] h h1 → Q (some (.inl (zo))) h1)) : me_E (d + 4) 110 8 [some (.inr (.inr 106)), some (.inl (zo)), some (.inl (zc)), none] [.inl (zz)] h Q := Or.elim (mi_em .ne (zz) (((-1 : Int)))) (fun c0 => ms_kplB_0 hS ok_zo ok_zc ok_zz ⟨c0, (k0 c0).1⟩ (fun h1 W => (k0 c0).2 h1 W.1 (W.2.2.2.2.2 _ rfl))) (fun c0 => ms_kplB_1 hS ok_zo ok_zc ok_zz (c0) (fun h1 W => (k1 c0) h1 W.1 (W.2.2.2.2.2 _ rfl)))
/-! segments of the class: the input -/
set_option maxRecDepth 20000 in
theorem mp_jtA_0 (h : sm_H) (d : Nat) (zk : Int) : mj_path [(20, (2, 5, sb_20))] sx_sk h 3 [1] (d, 20, 0, [some (.inr (.inr 54)), some (.inl (zk))], [], [], []) = some ((d, 20, 32, [some (.inr (.inr 54)), some (.inl (zk))], [.inl ((32 : Int))], [], []), [zk < ((0 : Int))]) := rfl
theorem mi_tab_jtA_0 : ∀ e ∈ ([(20, (2, 5, sb_20))] : mi_T), sc_P e.1 = some e.2 := mi_tb mi_P20 (mi_tb_e)
set_option maxRecDepth 20000 in
theorem ms_jtA_0 {h : sm_H} {d : Nat} {Q : Option mi_V → sm_H → Prop} {zk : Int} (hS : ab_Sh sx_sk h) (ok_zk : mi_in zk) (ho : (zk < ((0 : Int))) ∧ (0 ≤ ((32 : Int)) ∧ ((32 : Int)) ≤ 65535)) (kon : ∀ h1, me_W [] h h1 → Q (some (.inl ((32 : Int)))) h1) : me_E (d) 20 0 [some (.inr (.inr 54)), some (.inl (zk))] [] h Q := mf_seg (mp_jtA_0 h d zk) (mi_tab_jtA_0) hS (mi_okL_c (trivial) (mi_okL_c (ok_zk) (mi_okL_e))) (mi_okS_e) (mi_al (ho.1) (mi_al_e)) (fun h1 W _ hst => mf_ret (M := (2, 5, sb_20)) rfl rfl rfl hst (mi_al (ho.2) mi_al_e) (kon h1 W))
set_option maxRecDepth 20000 in
theorem mp_jtA_1 (h : sm_H) (d : Nat) (zk : Int) : mj_path [(20, (2, 5, sb_20))] sx_sk h 7 [0, 1] (d, 20, 0, [some (.inr (.inr 54)), some (.inl (zk))], [], [], []) = some ((d, 20, 32, [some (.inr (.inr 54)), some (.inl (zk))], [.inl ((32 : Int))], [], []), [((0 : Int)) ≤ zk, (mi_f h 6913) ≤ zk]) := rfl
theorem mi_tab_jtA_1 : ∀ e ∈ ([(20, (2, 5, sb_20))] : mi_T), sc_P e.1 = some e.2 := mi_tb mi_P20 (mi_tb_e)
set_option maxRecDepth 20000 in
theorem ms_jtA_1 {h : sm_H} {d : Nat} {Q : Option mi_V → sm_H → Prop} {zk : Int} (hS : ab_Sh sx_sk h) (ok_zk : mi_in zk) (ho : (((0 : Int)) ≤ zk) ∧ ((mi_f h 6913) ≤ zk) ∧ (0 ≤ ((32 : Int)) ∧ ((32 : Int)) ≤ 65535)) (kon : ∀ h1, me_W [] h h1 → Q (some (.inl ((32 : Int)))) h1) : me_E (d) 20 0 [some (.inr (.inr 54)), some (.inl (zk))] [] h Q := mf_seg (mp_jtA_1 h d zk) (mi_tab_jtA_1) hS (mi_okL_c (trivial) (mi_okL_c (ok_zk) (mi_okL_e))) (mi_okS_e) (mi_al (ho.1) (mi_al (ho.2.1) (mi_al_e))) (fun h1 W _ hst => mf_ret (M := (2, 5, sb_20)) rfl rfl rfl hst (mi_al (ho.2.2) mi_al_e) (kon h1 W))
set_option maxRecDepth 20000 in
theorem mp_jtA_2 (h : sm_H) (d : Nat) (zk : Int) : mj_path [(20, (2, 5, sb_20))] sx_sk h 12 [0, 0, 1] (d, 20, 0, [some (.inr (.inr 54)), some (.inl (zk))], [], [], []) = some ((d, 20, 32, [some (.inr (.inr 54)), some (.inl (zk))], [.inl ((32 : Int))], [], []), [((0 : Int)) ≤ zk, zk < (mi_f h 6913), ((160 : Int)) ≤ zk]) := rfl
theorem mi_tab_jtA_2 : ∀ e ∈ ([(20, (2, 5, sb_20))] : mi_T), sc_P e.1 = some e.2 := mi_tb mi_P20 (mi_tb_e)
set_option maxRecDepth 20000 in
theorem ms_jtA_2 {h : sm_H} {d : Nat} {Q : Option mi_V → sm_H → Prop} {zk : Int} (hS : ab_Sh sx_sk h) (ok_zk : mi_in zk) (ho : (((0 : Int)) ≤ zk) ∧ (zk < (mi_f h 6913)) ∧ (((160 : Int)) ≤ zk) ∧ (0 ≤ ((32 : Int)) ∧ ((32 : Int)) ≤ 65535)) (kon : ∀ h1, me_W [] h h1 → Q (some (.inl ((32 : Int)))) h1) : me_E (d) 20 0 [some (.inr (.inr 54)), some (.inl (zk))] [] h Q := mf_seg (mp_jtA_2 h d zk) (mi_tab_jtA_2) hS (mi_okL_c (trivial) (mi_okL_c (ok_zk) (mi_okL_e))) (mi_okS_e) (mi_al (ho.1) (mi_al (ho.2.1) (mi_al (ho.2.2.1) (mi_al_e)))) (fun h1 W _ hst => mf_ret (M := (2, 5, sb_20)) rfl rfl rfl hst (mi_al (ho.2.2.2) mi_al_e) (kon h1 W))
set_option maxRecDepth 20000 in
theorem mp_jtA_3 (h : sm_H) (d : Nat) (zk : Int) : mj_path [(20, (2, 5, sb_20))] sx_sk h 16 [0, 0, 0] (d, 20, 0, [some (.inr (.inr 54)), some (.inl (zk))], [], [], []) = some ((d, 20, 32, [some (.inr (.inr 54)), some (.inl (zk))], [.inl (mi_a h 55 (Int.toNat zk))], [], []), [((0 : Int)) ≤ zk, zk < (mi_f h 6913), zk < ((160 : Int)), 0 ≤ zk ∧ zk < 160]) := rfl
theorem mi_tab_jtA_3 : ∀ e ∈ ([(20, (2, 5, sb_20))] : mi_T), sc_P e.1 = some e.2 := mi_tb mi_P20 (mi_tb_e)
set_option maxRecDepth 20000 in
theorem ms_jtA_3 {h : sm_H} {d : Nat} {Q : Option mi_V → sm_H → Prop} {zk : Int} (hS : ab_Sh sx_sk h) (ok_zk : mi_in zk) (ho : (((0 : Int)) ≤ zk) ∧ (zk < (mi_f h 6913)) ∧ (zk < ((160 : Int))) ∧ (0 ≤ zk ∧ zk < 160) ∧ (0 ≤ (mi_a h 55 (Int.toNat zk)) ∧ (mi_a h 55 (Int.toNat zk)) ≤ 65535)) (kon : ∀ h1, me_W [] h h1 → Q (some (.inl (mi_a h 55 (Int.toNat zk)))) h1) : me_E (d) 20 0 [some (.inr (.inr 54)), some (.inl (zk))] [] h Q := mf_seg (mp_jtA_3 h d zk) (mi_tab_jtA_3) hS (mi_okL_c (trivial) (mi_okL_c (ok_zk) (mi_okL_e))) (mi_okS_e) (mi_al (ho.1) (mi_al (ho.2.1) (mi_al (ho.2.2.1) (mi_al (ho.2.2.2.1) (mi_al_e))))) (fun h1 W _ hst => mf_ret (M := (2, 5, sb_20)) rfl rfl rfl hst (mi_al (ho.2.2.2.2) mi_al_e) (kon h1 W))
set_option maxRecDepth 20000 in
theorem mt_jtA {h : sm_H} {d : Nat} {Q : Option mi_V → sm_H → Prop} {zk : Int} (hS : ab_Sh sx_sk h) (ok_zk : mi_in zk) (k0 : (zk < ((0 : Int))) → (∀ h1, ab_Sh sx_sk h1 → ab_Fr [] h h1 → Q (some (.inl ((32 : Int)))) h1)) (k1 : (0 ≤ mi_f h 6913 ∧ mi_f h 6913 ≤ 160) → (((0 : Int)) ≤ zk) → ((mi_f h 6913) ≤ zk) → (∀ h1, ab_Sh sx_sk h1 → ab_Fr [] h h1 → Q (some (.inl ((32 : Int)))) h1)) (k2 : (0 ≤ mi_f h 6913 ∧ mi_f h 6913 ≤ 160) → (((0 : Int)) ≤ zk) → (zk < (mi_f h 6913)) → (((160 : Int)) ≤ zk) → (∀ h1, ab_Sh sx_sk h1 → ab_Fr [] h h1 → Q (some (.inl ((32 : Int)))) h1)) (k3 : (0 ≤ mi_f h 6913 ∧ mi_f h 6913 ≤ 160) → (((0 : Int)) ≤ zk) → (zk < (mi_f h 6913)) → (zk < ((160 : Int))) → ((0 ≤ zk ∧ zk < 160) ∧ (0 ≤ (mi_a h 55 (Int.toNat zk)) ∧ (mi_a h 55 (Int.toNat zk)) ≤ 65535)) ∧ (∀ h1, ab_Sh sx_sk h1 → ab_Fr [] h h1 → Q (some (.inl (mi_a h 55 (Int.toNat zk)))) h1)) : me_E (d) 20 0 [some (.inr (.inr 54)), some (.inl (zk))] [] h Q := Or.elim (mi_em .lt (zk) (((0 : Int)))) (fun c0 => ms_jtA_0 hS ok_zk ⟨c0, (by decide)⟩ (fun h1 W => (k0 c0) h1 W.1 (W.2.2.2.2.2 _ rfl))) (fun c0 => Or.elim (mi_em .ge (zk) ((mi_f h 6913))) (fun c1 => ms_jtA_1 hS ok_zk ⟨c0, c1, (by decide)⟩ (fun h1 W => (k1 (me_fb hS rfl) c0 c1) h1 W.1 (W.2.2.2.2.2 _ rfl))) (fun c1 => Or.elim (mi_em .ge (zk) (((160 : Int)))) (fun c2 => ms_jtA_2 hS ok_zk ⟨c0, c1, c2, (by decide)⟩ (fun h1 W => (k2 (me_fb hS rfl) c0 c1 c2) h1 W.1 (W.2.2.2.2.2 _ rfl))) (fun c2 => ms_jtA_3 hS ok_zk ⟨c0, c1, c2, (k3 (me_fb hS rfl) c0 c1 c2).1.1, (k3 (me_fb hS rfl) c0 c1 c2).1.2⟩ (fun h1 W => (k3 (me_fb hS rfl) c0 c1 c2).2 h1 W.1 (W.2.2.2.2.2 _ rfl)))))
set_option maxRecDepth 20000 in
theorem mp_jbA_0 (h : sm_H) (d : Nat) (zf : Int) : mj_path [(19, (3, 1, sb_19))] sx_sk h 2 [] (d + 1, 19, 0, [some (.inr (.inr 54)), some (.inl (zf)), none], [], [], []) = some ((d + 1, 19, 2, [some (.inr (.inr 54)), some (.inl (zf)), some (.inl (zf))], [], [], []), []) := rfl
theorem mi_tab_jbA_0 : ∀ e ∈ ([(19, (3, 1, sb_19))] : mi_T), sc_P e.1 = some e.2 := mi_tb mi_P19 (mi_tb_e)
set_option maxRecDepth 20000 in
theorem ms_jbA_0 {h : sm_H} {d : Nat} {Q : Option mi_V → sm_H → Prop} {zf : Int} (hS : ab_Sh sx_sk h) (ok_zf : mi_in zf) (kon : ∀ h1, me_W [] h h1 → me_E (d + 1) 19 2 [some (.inr (.inr 54)), some (.inl (zf)), some (.inl (zf))] [] h1 Q) : me_E (d + 1) 19 0 [some (.inr (.inr 54)), some (.inl (zf)), none] [] h Q := mf_seg (mp_jbA_0 h d zf) (mi_tab_jbA_0) hS (mi_okL_c (trivial) (mi_okL_c (ok_zf) (mi_okL_n (mi_okL_e)))) (mi_okS_e) (mi_al_e) (fun h1 W _ hst => kon h1 W)
set_option maxRecDepth 20000 in
theorem mt_jbA {h : sm_H} {d : Nat} {Q : Option mi_V → sm_H → Prop} {zf : Int} (hS : ab_Sh sx_sk h) (ok_zf : mi_in zf) (k0 : (∀ h1, ab_Sh sx_sk h1 → ab_Fr [] h h1 → me_E (d + 1) 19 2 [some (.inr (.inr 54)), some (.inl (zf)), some (.inl (zf))] [] h1 Q)) : me_E (d + 1) 19 0 [some (.inr (.inr 54)), some (.inl (zf)), none] [] h Q := ms_jbA_0 hS ok_zf (fun h1 W => (k0) h1 W.1 (W.2.2.2.2.2 _ rfl))
set_option maxRecDepth 20000 in
theorem mp_jbB_0 (h : sm_H) (d : Nat) (zf zk : Int) : mj_path [(19, (3, 1, sb_19))] sx_sk h 5 [1] (d + 1, 19, 2, [some (.inr (.inr 54)), some (.inl (zf)), some (.inl (zk))], [], [], []) = some ((d + 1, 19, 28, [some (.inr (.inr 54)), some (.inl (zf)), some (.inl (zk))], [.inl (zk)], [], []), [(mi_f h 6913) ≤ zk]) := rfl
theorem mi_tab_jbB_0 : ∀ e ∈ ([(19, (3, 1, sb_19))] : mi_T), sc_P e.1 = some e.2 := mi_tb mi_P19 (mi_tb_e)
set_option maxRecDepth 20000 in
theorem ms_jbB_0 {h : sm_H} {d : Nat} {Q : Option mi_V → sm_H → Prop} {zf zk : Int} (hS : ab_Sh sx_sk h) (ok_zf : mi_in zf) (ok_zk : mi_in zk) (ho : ((mi_f h 6913) ≤ zk)) (kon : ∀ h1, me_W [] h h1 → Q (some (.inl (zk))) h1) : me_E (d + 1) 19 2 [some (.inr (.inr 54)), some (.inl (zf)), some (.inl (zk))] [] h Q := mf_seg (mp_jbB_0 h d zf zk) (mi_tab_jbB_0) hS (mi_okL_c (trivial) (mi_okL_c (ok_zf) (mi_okL_c (ok_zk) (mi_okL_e)))) (mi_okS_e) (mi_al (ho) (mi_al_e)) (fun h1 W _ hst => mf_ret (M := (3, 1, sb_19)) rfl rfl rfl hst (mi_al_e) (kon h1 W))
set_option maxRecDepth 20000 in
theorem mp_jbB_1 (h : sm_H) (d : Nat) (zf zk : Int) : mj_path [(19, (3, 1, sb_19))] sx_sk h 6 [0] (d + 1, 19, 2, [some (.inr (.inr 54)), some (.inl (zf)), some (.inl (zk))], [], [], []) = some ((d + 1, 19, 12, [some (.inr (.inr 54)), some (.inl (zf)), some (.inl (zk))], [.inl (zk), .inr (.inr 54)], [], []), [zk < (mi_f h 6913)]) := rfl
theorem mi_tab_jbB_1 : ∀ e ∈ ([(19, (3, 1, sb_19))] : mi_T), sc_P e.1 = some e.2 := mi_tb mi_P19 (mi_tb_e)
set_option maxRecDepth 20000 in
theorem ms_jbB_1 {h : sm_H} {d : Nat} {Q : Option mi_V → sm_H → Prop} {zf zk : Int} (hS : ab_Sh sx_sk h) (ok_zf : mi_in zf) (ok_zk : mi_in zk) (ho : (zk < (mi_f h 6913))) (kon : ∀ h1, me_W [] h h1 → ∃ Q1, me_E (d + 0) 20 0 (mi_entry 2 [.inr (.inr 54), .inl (zk)]) [] h1 Q1 ∧ ∀ w h2, (∀ x, w = some x → mi_ok x) → Q1 w h2 → me_E (d + 1) 19 15 [some (.inr (.inr 54)), some (.inl (zf)), some (.inl (zk))] (mi_back w []) h2 Q) : me_E (d + 1) 19 2 [some (.inr (.inr 54)), some (.inl (zf)), some (.inl (zk))] [] h Q := mf_seg (mp_jbB_1 h d zf zk) (mi_tab_jbB_1) hS (mi_okL_c (trivial) (mi_okL_c (ok_zf) (mi_okL_c (ok_zk) (mi_okL_e)))) (mi_okS_e) (mi_al (ho) (mi_al_e)) (fun h1 W _ hst => let ⟨_, k1, k2⟩ := kon h1 W; mf_call (M := (3, 1, sb_19)) (M' := (2, 5, sb_20)) rfl rfl rfl rfl (Nat.le_of_ble_eq_true rfl) (Nat.le_of_ble_eq_true rfl) W.1 k1 k2)
set_option maxRecDepth 20000 in
theorem mt_jbB {h : sm_H} {d : Nat} {Q : Option mi_V → sm_H → Prop} {zf zk : Int} (hS : ab_Sh sx_sk h) (ok_zf : mi_in zf) (ok_zk : mi_in zk) (k0 : (0 ≤ mi_f h 6913 ∧ mi_f h 6913 ≤ 160) → ((mi_f h 6913) ≤ zk) → (∀ h1, ab_Sh sx_sk h1 → ab_Fr [] h h1 → Q (some (.inl (zk))) h1)) (k1 : (0 ≤ mi_f h 6913 ∧ mi_f h 6913 ≤ 160) → (zk < (mi_f h 6913)) → (∀ h1, ab_Sh sx_sk h1 → ab_Fr [] h h1 → ∃ Q1, me_E (d + 0) 20 0 (mi_entry 2 [.inr (.inr 54), .inl (zk)]) [] h1 Q1 ∧ ∀ w h2, (∀ x, w = some x → mi_ok x) → Q1 w h2 → me_E (d + 1) 19 15 [some (.inr (.inr 54)), some (.inl (zf)), some (.inl (zk))] (mi_back w []) h2 Q)) : me_E (d + 1) 19 2 [some (.inr (.inr 54)), some (.inl (zf)), some (.inl (zk))] [] h Q := Or.elim (mi_em .ge (zk) ((mi_f h 6913))) (fun c0 => ms_jbB_0 hS ok_zf ok_zk (c0) (fun h1 W => (k0 (me_fb hS rfl) c0) h1 W.1 (W.2.2.2.2.2 _ rfl))) (fun c0 => ms_jbB_1 hS ok_zf ok_zk (c0) (fun h1 W => (k1 (me_fb hS rfl) c0) h1 W.1 (W.2.2.2.2.2 _ rfl)))
set_option maxRecDepth 20000 in
theorem mp_jbC_0 (h : sm_H) (d : Nat) (zf zk zz : Int) : mj_path [(19, (3, 1, sb_19)), (21, (1, 4, sb_21))] sx_sk h 10 [1, 0] (d + 1, 19, 15, [some (.inr (.inr 54)), some (.inl (zf)), some (.inl (zk))], [.inl (zz)], [], []) = some ((d + 1, 19, 2, [some (.inr (.inr 54)), some (.inl (zf)), some (.inl (zk + 1))], [], [], []), [zz = ((32 : Int)), ((1 : Int)) = 0 ∨ ((1 : Int)) = 1, ((1 : Int)) ≠ ((0 : Int)), -2147483648 ≤ zk + 1 ∧ zk + 1 ≤ 2147483647]) := rfl
theorem mi_tab_jbC_0 : ∀ e ∈ ([(19, (3, 1, sb_19)), (21, (1, 4, sb_21))] : mi_T), sc_P e.1 = some e.2 := mi_tb mi_P19 (mi_tb mi_P21 (mi_tb_e))
set_option maxRecDepth 20000 in
theorem ms_jbC_0 {h : sm_H} {d : Nat} {Q : Option mi_V → sm_H → Prop} {zf zk zz : Int} (hS : ab_Sh sx_sk h) (ok_zf : mi_in zf) (ok_zk : mi_in zk) (ok_zz : mi_in zz) (ho : (zz = ((32 : Int))) ∧ (((1 : Int)) = 0 ∨ ((1 : Int)) = 1) ∧ (((1 : Int)) ≠ ((0 : Int))) ∧ (-2147483648 ≤ zk + 1 ∧ zk + 1 ≤ 2147483647)) (kon : ∀ h1, me_W [] h h1 → me_E (d + 1) 19 2 [some (.inr (.inr 54)), some (.inl (zf)), some (.inl (zk + 1))] [] h1 Q) : me_E (d + 1) 19 15 [some (.inr (.inr 54)), some (.inl (zf)), some (.inl (zk))] [.inl (zz)] h Q := mf_seg (mp_jbC_0 h d zf zk zz) (mi_tab_jbC_0) hS (mi_okL_c (trivial) (mi_okL_c (ok_zf) (mi_okL_c (ok_zk) (mi_okL_e)))) (mi_okS_cons (ok_zz) (mi_okS_e)) (mi_al (ho.1) (mi_al (ho.2.1) (mi_al (ho.2.2.1) (mi_al (ho.2.2.2) (mi_al_e))))) (fun h1 W _ hst => kon h1 W)
set_option maxRecDepth 20000 in
theorem mp_jbC_1 (h : sm_H) (d : Nat) (zf zk zz : Int) : mj_path [(19, (3, 1, sb_19)), (21, (1, 4, sb_21))] sx_sk h 11 [0, 1, 1] (d + 1, 19, 15, [some (.inr (.inr 54)), some (.inl (zf)), some (.inl (zk))], [.inl (zz)], [], []) = some ((d + 1, 19, 28, [some (.inr (.inr 54)), some (.inl (zf)), some (.inl (zk))], [.inl (zk)], [], []), [zz ≠ ((32 : Int)), zz ≠ ((10 : Int)), ((0 : Int)) = 0 ∨ ((0 : Int)) = 1, ((0 : Int)) = ((0 : Int))]) := rfl
theorem mi_tab_jbC_1 : ∀ e ∈ ([(19, (3, 1, sb_19)), (21, (1, 4, sb_21))] : mi_T), sc_P e.1 = some e.2 := mi_tb mi_P19 (mi_tb mi_P21 (mi_tb_e))
set_option maxRecDepth 20000 in
theorem ms_jbC_1 {h : sm_H} {d : Nat} {Q : Option mi_V → sm_H → Prop} {zf zk zz : Int} (hS : ab_Sh sx_sk h) (ok_zf : mi_in zf) (ok_zk : mi_in zk) (ok_zz : mi_in zz) (ho : (zz ≠ ((32 : Int))) ∧ (zz ≠ ((10 : Int))) ∧ (((0 : Int)) = 0 ∨ ((0 : Int)) = 1) ∧ (((0 : Int)) = ((0 : Int)))) (kon : ∀ h1, me_W [] h h1 → Q (some (.inl (zk))) h1) : me_E (d + 1) 19 15 [some (.inr (.inr 54)), some (.inl (zf)), some (.inl (zk))] [.inl (zz)] h Q := mf_seg (mp_jbC_1 h d zf zk zz) (mi_tab_jbC_1) hS (mi_okL_c (trivial) (mi_okL_c (ok_zf) (mi_okL_c (ok_zk) (mi_okL_e)))) (mi_okS_cons (ok_zz) (mi_okS_e)) (mi_al (ho.1) (mi_al (ho.2.1) (mi_al (ho.2.2.1) (mi_al (ho.2.2.2) (mi_al_e))))) (fun h1 W _ hst => mf_ret (M := (3, 1, sb_19)) rfl rfl rfl hst (mi_al_e) (kon h1 W))
set_option maxRecDepth 20000 in
theorem mp_jbC_2 (h : sm_H) (d : Nat) (zf zk zz : Int) : mj_path [(19, (3, 1, sb_19)), (21, (1, 4, sb_21))] sx_sk h 13 [0, 0, 0] (d + 1, 19, 15, [some (.inr (.inr 54)), some (.inl (zf)), some (.inl (zk))], [.inl (zz)], [], []) = some ((d + 1, 19, 2, [some (.inr (.inr 54)), some (.inl (zf)), some (.inl (zk + 1))], [], [], []), [zz ≠ ((32 : Int)), zz = ((10 : Int)), ((1 : Int)) = 0 ∨ ((1 : Int)) = 1, ((1 : Int)) ≠ ((0 : Int)), -2147483648 ≤ zk + 1 ∧ zk + 1 ≤ 2147483647]) := rfl
theorem mi_tab_jbC_2 : ∀ e ∈ ([(19, (3, 1, sb_19)), (21, (1, 4, sb_21))] : mi_T), sc_P e.1 = some e.2 := mi_tb mi_P19 (mi_tb mi_P21 (mi_tb_e))
set_option maxRecDepth 20000 in
theorem ms_jbC_2 {h : sm_H} {d : Nat} {Q : Option mi_V → sm_H → Prop} {zf zk zz : Int} (hS : ab_Sh sx_sk h) (ok_zf : mi_in zf) (ok_zk : mi_in zk) (ok_zz : mi_in zz) (ho : (zz ≠ ((32 : Int))) ∧ (zz = ((10 : Int))) ∧ (((1 : Int)) = 0 ∨ ((1 : Int)) = 1) ∧ (((1 : Int)) ≠ ((0 : Int))) ∧ (-2147483648 ≤ zk + 1 ∧ zk + 1 ≤ 2147483647)) (kon : ∀ h1, me_W [] h h1 → me_E (d + 1) 19 2 [some (.inr (.inr 54)), some (.inl (zf)), some (.inl (zk + 1))] [] h1 Q) : me_E (d + 1) 19 15 [some (.inr (.inr 54)), some (.inl (zf)), some (.inl (zk))] [.inl (zz)] h Q := mf_seg (mp_jbC_2 h d zf zk zz) (mi_tab_jbC_2) hS (mi_okL_c (trivial) (mi_okL_c (ok_zf) (mi_okL_c (ok_zk) (mi_okL_e)))) (mi_okS_cons (ok_zz) (mi_okS_e)) (mi_al (ho.1) (mi_al (ho.2.1) (mi_al (ho.2.2.1) (mi_al (ho.2.2.2.1) (mi_al (ho.2.2.2.2) (mi_al_e)))))) (fun h1 W _ hst => kon h1 W)
set_option maxRecDepth 20000 in
theorem mt_jbC {h : sm_H} {d : Nat} {Q : Option mi_V → sm_H → Prop} {zf zk zz : Int} (hS : ab_Sh sx_sk h) (ok_zf : mi_in zf) (ok_zk : mi_in zk) (ok_zz : mi_in zz) (k0 : (zz = ((32 : Int))) → ((-2147483648 ≤ zk + 1 ∧ zk + 1 ≤ 2147483647)) ∧ (∀ h1, ab_Sh sx_sk h1 → ab_Fr [] h h1 → me_E (d + 1) 19 2 [some (.inr (.inr 54)), some (.inl (zf)), some (.inl (zk + 1))] [] h1 Q)) (k1 : (zz ≠ ((32 : Int))) → (zz ≠ ((10 : Int))) → (∀ h1, ab_Sh sx_sk h1 → ab_Fr [] h h1 → Q (some (.inl (zk))) h1)) (k2 : (zz ≠ ((32 : Int))) → (zz = ((10 : Int))) → ((-2147483648 ≤ zk + 1 ∧ zk + 1 ≤ 2147483647)) ∧ (∀ h1, ab_Sh sx_sk h1 → ab_Fr [] h h1 → me_E (d + 1) 19 2 [some (.inr (.inr 54)), some (.inl (zf)), some (.inl (zk + 1))] [] h1 Q)) : me_E (d + 1) 19 15 [some (.inr (.inr 54)), some (.inl (zf)), some (.inl (zk))] [.inl (zz)] h Q := Or.elim (mi_em .eq (zz) (((32 : Int)))) (fun c0 => ms_jbC_0 hS ok_zf ok_zk ok_zz ⟨c0, (by decide), (by decide), (k0 c0).1⟩ (fun h1 W => (k0 c0).2 h1 W.1 (W.2.2.2.2.2 _ rfl))) (fun c0 => Or.elim (mi_em .ne (zz) (((10 : Int)))) (fun c1 => ms_jbC_1 hS ok_zf ok_zk ok_zz ⟨c0, c1, (by decide), (by decide)⟩ (fun h1 W => (k1 c0 c1) h1 W.1 (W.2.2.2.2.2 _ rfl))) (fun c1 => ms_jbC_2 hS ok_zf ok_zk ok_zz ⟨c0, c1, (by decide), (by decide), (k2 c0 c1).1⟩ (fun h1 W => (k2 c0 c1).2 h1 W.1 (W.2.2.2.2.2 _ rfl))))
set_option maxRecDepth 20000 in
theorem mp_jlA_0 (h : sm_H) (d : Nat) (zf : Int) : mj_path [(25, (3, 1, sb_25))] sx_sk h 2 [] (d + 1, 25, 0, [some (.inr (.inr 54)), some (.inl (zf)), none], [], [], []) = some ((d + 1, 25, 2, [some (.inr (.inr 54)), some (.inl (zf)), some (.inl (zf))], [], [], []), []) := rfl
theorem mi_tab_jlA_0 : ∀ e ∈ ([(25, (3, 1, sb_25))] : mi_T), sc_P e.1 = some e.2 := mi_tb mi_P25 (mi_tb_e)
set_option maxRecDepth 20000 in
theorem ms_jlA_0 {h : sm_H} {d : Nat} {Q : Option mi_V → sm_H → Prop} {zf : Int} (hS : ab_Sh sx_sk h) (ok_zf : mi_in zf) (kon : ∀ h1, me_W [] h h1 → me_E (d + 1) 25 2 [some (.inr (.inr 54)), some (.inl (zf)), some (.inl (zf))] [] h1 Q) : me_E (d + 1) 25 0 [some (.inr (.inr 54)), some (.inl (zf)), none] [] h Q := mf_seg (mp_jlA_0 h d zf) (mi_tab_jlA_0) hS (mi_okL_c (trivial) (mi_okL_c (ok_zf) (mi_okL_n (mi_okL_e)))) (mi_okS_e) (mi_al_e) (fun h1 W _ hst => kon h1 W)
set_option maxRecDepth 20000 in
theorem mt_jlA {h : sm_H} {d : Nat} {Q : Option mi_V → sm_H → Prop} {zf : Int} (hS : ab_Sh sx_sk h) (ok_zf : mi_in zf) (k0 : (∀ h1, ab_Sh sx_sk h1 → ab_Fr [] h h1 → me_E (d + 1) 25 2 [some (.inr (.inr 54)), some (.inl (zf)), some (.inl (zf))] [] h1 Q)) : me_E (d + 1) 25 0 [some (.inr (.inr 54)), some (.inl (zf)), none] [] h Q := ms_jlA_0 hS ok_zf (fun h1 W => (k0) h1 W.1 (W.2.2.2.2.2 _ rfl))
set_option maxRecDepth 20000 in
theorem mp_jlB_0 (h : sm_H) (d : Nat) (zf zk : Int) : mj_path [(25, (3, 1, sb_25))] sx_sk h 5 [1] (d + 1, 25, 2, [some (.inr (.inr 54)), some (.inl (zf)), some (.inl (zk))], [], [], []) = some ((d + 1, 25, 28, [some (.inr (.inr 54)), some (.inl (zf)), some (.inl (zk))], [.inl (zk)], [], []), [(mi_f h 6913) ≤ zk]) := rfl
theorem mi_tab_jlB_0 : ∀ e ∈ ([(25, (3, 1, sb_25))] : mi_T), sc_P e.1 = some e.2 := mi_tb mi_P25 (mi_tb_e)
set_option maxRecDepth 20000 in
theorem ms_jlB_0 {h : sm_H} {d : Nat} {Q : Option mi_V → sm_H → Prop} {zf zk : Int} (hS : ab_Sh sx_sk h) (ok_zf : mi_in zf) (ok_zk : mi_in zk) (ho : ((mi_f h 6913) ≤ zk)) (kon : ∀ h1, me_W [] h h1 → Q (some (.inl (zk))) h1) : me_E (d + 1) 25 2 [some (.inr (.inr 54)), some (.inl (zf)), some (.inl (zk))] [] h Q := mf_seg (mp_jlB_0 h d zf zk) (mi_tab_jlB_0) hS (mi_okL_c (trivial) (mi_okL_c (ok_zf) (mi_okL_c (ok_zk) (mi_okL_e)))) (mi_okS_e) (mi_al (ho) (mi_al_e)) (fun h1 W _ hst => mf_ret (M := (3, 1, sb_25)) rfl rfl rfl hst (mi_al_e) (kon h1 W))
set_option maxRecDepth 20000 in
theorem mp_jlB_1 (h : sm_H) (d : Nat) (zf zk : Int) : mj_path [(25, (3, 1, sb_25))] sx_sk h 6 [0] (d + 1, 25, 2, [some (.inr (.inr 54)), some (.inl (zf)), some (.inl (zk))], [], [], []) = some ((d + 1, 25, 12, [some (.inr (.inr 54)), some (.inl (zf)), some (.inl (zk))], [.inl (zk), .inr (.inr 54)], [], []), [zk < (mi_f h 6913)]) := rfl
theorem mi_tab_jlB_1 : ∀ e ∈ ([(25, (3, 1, sb_25))] : mi_T), sc_P e.1 = some e.2 := mi_tb mi_P25 (mi_tb_e)
set_option maxRecDepth 20000 in
theorem ms_jlB_1 {h : sm_H} {d : Nat} {Q : Option mi_V → sm_H → Prop} {zf zk : Int} (hS : ab_Sh sx_sk h) (ok_zf : mi_in zf) (ok_zk : mi_in zk) (ho : (zk < (mi_f h 6913))) (kon : ∀ h1, me_W [] h h1 → ∃ Q1, me_E (d + 0) 20 0 (mi_entry 2 [.inr (.inr 54), .inl (zk)]) [] h1 Q1 ∧ ∀ w h2, (∀ x, w = some x → mi_ok x) → Q1 w h2 → me_E (d + 1) 25 15 [some (.inr (.inr 54)), some (.inl (zf)), some (.inl (zk))] (mi_back w []) h2 Q) : me_E (d + 1) 25 2 [some (.inr (.inr 54)), some (.inl (zf)), some (.inl (zk))] [] h Q := mf_seg (mp_jlB_1 h d zf zk) (mi_tab_jlB_1) hS (mi_okL_c (trivial) (mi_okL_c (ok_zf) (mi_okL_c (ok_zk) (mi_okL_e)))) (mi_okS_e) (mi_al (ho) (mi_al_e)) (fun h1 W _ hst => let ⟨_, k1, k2⟩ := kon h1 W; mf_call (M := (3, 1, sb_25)) (M' := (2, 5, sb_20)) rfl rfl rfl rfl (Nat.le_of_ble_eq_true rfl) (Nat.le_of_ble_eq_true rfl) W.1 k1 k2)
set_option maxRecDepth 20000 in
theorem mt_jlB {h : sm_H} {d : Nat} {Q : Option mi_V → sm_H → Prop} {zf zk : Int} (hS : ab_Sh sx_sk h) (ok_zf : mi_in zf) (ok_zk : mi_in zk) (k0 : (0 ≤ mi_f h 6913 ∧ mi_f h 6913 ≤ 160) → ((mi_f h 6913) ≤ zk) → (∀ h1, ab_Sh sx_sk h1 → ab_Fr [] h h1 → Q (some (.inl (zk))) h1)) (k1 : (0 ≤ mi_f h 6913 ∧ mi_f h 6913 ≤ 160) → (zk < (mi_f h 6913)) → (∀ h1, ab_Sh sx_sk h1 → ab_Fr [] h h1 → ∃ Q1, me_E (d + 0) 20 0 (mi_entry 2 [.inr (.inr 54), .inl (zk)]) [] h1 Q1 ∧ ∀ w h2, (∀ x, w = some x → mi_ok x) → Q1 w h2 → me_E (d + 1) 25 15 [some (.inr (.inr 54)), some (.inl (zf)), some (.inl (zk))] (mi_back w []) h2 Q)) : me_E (d + 1) 25 2 [some (.inr (.inr 54)), some (.inl (zf)), some (.inl (zk))] [] h Q := Or.elim (mi_em .ge (zk) ((mi_f h 6913))) (fun c0 => ms_jlB_0 hS ok_zf ok_zk (c0) (fun h1 W => (k0 (me_fb hS rfl) c0) h1 W.1 (W.2.2.2.2.2 _ rfl))) (fun c0 => ms_jlB_1 hS ok_zf ok_zk (c0) (fun h1 W => (k1 (me_fb hS rfl) c0) h1 W.1 (W.2.2.2.2.2 _ rfl)))
set_option maxRecDepth 20000 in
theorem mp_jlC_0 (h : sm_H) (d : Nat) (zf zk zz : Int) : mj_path [(25, (3, 1, sb_25)), (23, (1, 4, sb_23))] sx_sk h 8 [1, 1] (d + 1, 25, 15, [some (.inr (.inr 54)), some (.inl (zf)), some (.inl (zk))], [.inl (zz)], [], []) = some ((d + 1, 25, 28, [some (.inr (.inr 54)), some (.inl (zf)), some (.inl (zk))], [.inl (zk)], [], []), [zz < ((97 : Int)), ((0 : Int)) = 0 ∨ ((0 : Int)) = 1, ((0 : Int)) = ((0 : Int))]) := rfl
theorem mi_tab_jlC_0 : ∀ e ∈ ([(25, (3, 1, sb_25)), (23, (1, 4, sb_23))] : mi_T), sc_P e.1 = some e.2 := mi_tb mi_P25 (mi_tb mi_P23 (mi_tb_e))
set_option maxRecDepth 20000 in
theorem ms_jlC_0 {h : sm_H} {d : Nat} {Q : Option mi_V → sm_H → Prop} {zf zk zz : Int} (hS : ab_Sh sx_sk h) (ok_zf : mi_in zf) (ok_zk : mi_in zk) (ok_zz : mi_in zz) (ho : (zz < ((97 : Int))) ∧ (((0 : Int)) = 0 ∨ ((0 : Int)) = 1) ∧ (((0 : Int)) = ((0 : Int)))) (kon : ∀ h1, me_W [] h h1 → Q (some (.inl (zk))) h1) : me_E (d + 1) 25 15 [some (.inr (.inr 54)), some (.inl (zf)), some (.inl (zk))] [.inl (zz)] h Q := mf_seg (mp_jlC_0 h d zf zk zz) (mi_tab_jlC_0) hS (mi_okL_c (trivial) (mi_okL_c (ok_zf) (mi_okL_c (ok_zk) (mi_okL_e)))) (mi_okS_cons (ok_zz) (mi_okS_e)) (mi_al (ho.1) (mi_al (ho.2.1) (mi_al (ho.2.2) (mi_al_e)))) (fun h1 W _ hst => mf_ret (M := (3, 1, sb_25)) rfl rfl rfl hst (mi_al_e) (kon h1 W))
set_option maxRecDepth 20000 in
theorem mp_jlC_1 (h : sm_H) (d : Nat) (zf zk zz : Int) : mj_path [(25, (3, 1, sb_25)), (23, (1, 4, sb_23))] sx_sk h 11 [0, 1, 1] (d + 1, 25, 15, [some (.inr (.inr 54)), some (.inl (zf)), some (.inl (zk))], [.inl (zz)], [], []) = some ((d + 1, 25, 28, [some (.inr (.inr 54)), some (.inl (zf)), some (.inl (zk))], [.inl (zk)], [], []), [((97 : Int)) ≤ zz, ((122 : Int)) < zz, ((0 : Int)) = 0 ∨ ((0 : Int)) = 1, ((0 : Int)) = ((0 : Int))]) := rfl
theorem mi_tab_jlC_1 : ∀ e ∈ ([(25, (3, 1, sb_25)), (23, (1, 4, sb_23))] : mi_T), sc_P e.1 = some e.2 := mi_tb mi_P25 (mi_tb mi_P23 (mi_tb_e))
set_option maxRecDepth 20000 in
theorem ms_jlC_1 {h : sm_H} {d : Nat} {Q : Option mi_V → sm_H → Prop} {zf zk zz : Int} (hS : ab_Sh sx_sk h) (ok_zf : mi_in zf) (ok_zk : mi_in zk) (ok_zz : mi_in zz) (ho : (((97 : Int)) ≤ zz) ∧ (((122 : Int)) < zz) ∧ (((0 : Int)) = 0 ∨ ((0 : Int)) = 1) ∧ (((0 : Int)) = ((0 : Int)))) (kon : ∀ h1, me_W [] h h1 → Q (some (.inl (zk))) h1) : me_E (d + 1) 25 15 [some (.inr (.inr 54)), some (.inl (zf)), some (.inl (zk))] [.inl (zz)] h Q := mf_seg (mp_jlC_1 h d zf zk zz) (mi_tab_jlC_1) hS (mi_okL_c (trivial) (mi_okL_c (ok_zf) (mi_okL_c (ok_zk) (mi_okL_e)))) (mi_okS_cons (ok_zz) (mi_okS_e)) (mi_al (ho.1) (mi_al (ho.2.1) (mi_al (ho.2.2.1) (mi_al (ho.2.2.2) (mi_al_e))))) (fun h1 W _ hst => mf_ret (M := (3, 1, sb_25)) rfl rfl rfl hst (mi_al_e) (kon h1 W))
set_option maxRecDepth 20000 in
theorem mp_jlC_2 (h : sm_H) (d : Nat) (zf zk zz : Int) : mj_path [(25, (3, 1, sb_25)), (23, (1, 4, sb_23))] sx_sk h 13 [0, 0, 0] (d + 1, 25, 15, [some (.inr (.inr 54)), some (.inl (zf)), some (.inl (zk))], [.inl (zz)], [], []) = some ((d + 1, 25, 2, [some (.inr (.inr 54)), some (.inl (zf)), some (.inl (zk + 1))], [], [], []), [((97 : Int)) ≤ zz, zz ≤ ((122 : Int)), ((1 : Int)) = 0 ∨ ((1 : Int)) = 1, ((1 : Int)) ≠ ((0 : Int)), -2147483648 ≤ zk + 1 ∧ zk + 1 ≤ 2147483647]) := rfl
theorem mi_tab_jlC_2 : ∀ e ∈ ([(25, (3, 1, sb_25)), (23, (1, 4, sb_23))] : mi_T), sc_P e.1 = some e.2 := mi_tb mi_P25 (mi_tb mi_P23 (mi_tb_e))
set_option maxRecDepth 20000 in
theorem ms_jlC_2 {h : sm_H} {d : Nat} {Q : Option mi_V → sm_H → Prop} {zf zk zz : Int} (hS : ab_Sh sx_sk h) (ok_zf : mi_in zf) (ok_zk : mi_in zk) (ok_zz : mi_in zz) (ho : (((97 : Int)) ≤ zz) ∧ (zz ≤ ((122 : Int))) ∧ (((1 : Int)) = 0 ∨ ((1 : Int)) = 1) ∧ (((1 : Int)) ≠ ((0 : Int))) ∧ (-2147483648 ≤ zk + 1 ∧ zk + 1 ≤ 2147483647)) (kon : ∀ h1, me_W [] h h1 → me_E (d + 1) 25 2 [some (.inr (.inr 54)), some (.inl (zf)), some (.inl (zk + 1))] [] h1 Q) : me_E (d + 1) 25 15 [some (.inr (.inr 54)), some (.inl (zf)), some (.inl (zk))] [.inl (zz)] h Q := mf_seg (mp_jlC_2 h d zf zk zz) (mi_tab_jlC_2) hS (mi_okL_c (trivial) (mi_okL_c (ok_zf) (mi_okL_c (ok_zk) (mi_okL_e)))) (mi_okS_cons (ok_zz) (mi_okS_e)) (mi_al (ho.1) (mi_al (ho.2.1) (mi_al (ho.2.2.1) (mi_al (ho.2.2.2.1) (mi_al (ho.2.2.2.2) (mi_al_e)))))) (fun h1 W _ hst => kon h1 W)
set_option maxRecDepth 20000 in
theorem mt_jlC {h : sm_H} {d : Nat} {Q : Option mi_V → sm_H → Prop} {zf zk zz : Int} (hS : ab_Sh sx_sk h) (ok_zf : mi_in zf) (ok_zk : mi_in zk) (ok_zz : mi_in zz) (k0 : (zz < ((97 : Int))) → (∀ h1, ab_Sh sx_sk h1 → ab_Fr [] h h1 → Q (some (.inl (zk))) h1)) (k1 : (((97 : Int)) ≤ zz) → (((122 : Int)) < zz) → (∀ h1, ab_Sh sx_sk h1 → ab_Fr [] h h1 → Q (some (.inl (zk))) h1)) (k2 : (((97 : Int)) ≤ zz) → (zz ≤ ((122 : Int))) → ((-2147483648 ≤ zk + 1 ∧ zk + 1 ≤ 2147483647)) ∧ (∀ h1, ab_Sh sx_sk h1 → ab_Fr [] h h1 → me_E (d + 1) 25 2 [some (.inr (.inr 54)), some (.inl (zf)), some (.inl (zk + 1))] [] h1 Q)) : me_E (d + 1) 25 15 [some (.inr (.inr 54)), some (.inl (zf)), some (.inl (zk))] [.inl (zz)] h Q := Or.elim (mi_em .lt (zz) (((97 : Int)))) (fun c0 => ms_jlC_0 hS ok_zf ok_zk ok_zz ⟨c0, (by decide), (by decide)⟩ (fun h1 W => (k0 c0) h1 W.1 (W.2.2.2.2.2 _ rfl))) (fun c0 => Or.elim (mi_em .gt (zz) (((122 : Int)))) (fun c1 => ms_jlC_1 hS ok_zf ok_zk ok_zz ⟨c0, c1, (by decide), (by decide)⟩ (fun h1 W => (k1 c0 c1) h1 W.1 (W.2.2.2.2.2 _ rfl))) (fun c1 => ms_jlC_2 hS ok_zf ok_zk ok_zz ⟨c0, c1, (by decide), (by decide), (k2 c0 c1).1⟩ (fun h1 W => (k2 c0 c1).2 h1 W.1 (W.2.2.2.2.2 _ rfl))))
set_option maxRecDepth 20000 in
theorem mp_jdA_0 (h : sm_H) (d : Nat) (zf : Int) : mj_path [(108, (3, 1, sb_108))] sx_sk h 2 [] (d + 1, 108, 0, [some (.inr (.inr 54)), some (.inl (zf)), none], [], [], []) = some ((d + 1, 108, 2, [some (.inr (.inr 54)), some (.inl (zf)), some (.inl (zf))], [], [], []), []) := rfl
theorem mi_tab_jdA_0 : ∀ e ∈ ([(108, (3, 1, sb_108))] : mi_T), sc_P e.1 = some e.2 := mi_tb mi_P108 (mi_tb_e)
set_option maxRecDepth 20000 in
theorem ms_jdA_0 {h : sm_H} {d : Nat} {Q : Option mi_V → sm_H → Prop} {zf : Int} (hS : ab_Sh sx_sk h) (ok_zf : mi_in zf) (kon : ∀ h1, me_W [] h h1 → me_E (d + 1) 108 2 [some (.inr (.inr 54)), some (.inl (zf)), some (.inl (zf))] [] h1 Q) : me_E (d + 1) 108 0 [some (.inr (.inr 54)), some (.inl (zf)), none] [] h Q := mf_seg (mp_jdA_0 h d zf) (mi_tab_jdA_0) hS (mi_okL_c (trivial) (mi_okL_c (ok_zf) (mi_okL_n (mi_okL_e)))) (mi_okS_e) (mi_al_e) (fun h1 W _ hst => kon h1 W)
set_option maxRecDepth 20000 in
theorem mt_jdA {h : sm_H} {d : Nat} {Q : Option mi_V → sm_H → Prop} {zf : Int} (hS : ab_Sh sx_sk h) (ok_zf : mi_in zf) (k0 : (∀ h1, ab_Sh sx_sk h1 → ab_Fr [] h h1 → me_E (d + 1) 108 2 [some (.inr (.inr 54)), some (.inl (zf)), some (.inl (zf))] [] h1 Q)) : me_E (d + 1) 108 0 [some (.inr (.inr 54)), some (.inl (zf)), none] [] h Q := ms_jdA_0 hS ok_zf (fun h1 W => (k0) h1 W.1 (W.2.2.2.2.2 _ rfl))
set_option maxRecDepth 20000 in
theorem mp_jdB_0 (h : sm_H) (d : Nat) (zf zk : Int) : mj_path [(108, (3, 1, sb_108))] sx_sk h 5 [1] (d + 1, 108, 2, [some (.inr (.inr 54)), some (.inl (zf)), some (.inl (zk))], [], [], []) = some ((d + 1, 108, 28, [some (.inr (.inr 54)), some (.inl (zf)), some (.inl (zk))], [.inl (zk)], [], []), [(mi_f h 6913) ≤ zk]) := rfl
theorem mi_tab_jdB_0 : ∀ e ∈ ([(108, (3, 1, sb_108))] : mi_T), sc_P e.1 = some e.2 := mi_tb mi_P108 (mi_tb_e)
set_option maxRecDepth 20000 in
theorem ms_jdB_0 {h : sm_H} {d : Nat} {Q : Option mi_V → sm_H → Prop} {zf zk : Int} (hS : ab_Sh sx_sk h) (ok_zf : mi_in zf) (ok_zk : mi_in zk) (ho : ((mi_f h 6913) ≤ zk)) (kon : ∀ h1, me_W [] h h1 → Q (some (.inl (zk))) h1) : me_E (d + 1) 108 2 [some (.inr (.inr 54)), some (.inl (zf)), some (.inl (zk))] [] h Q := mf_seg (mp_jdB_0 h d zf zk) (mi_tab_jdB_0) hS (mi_okL_c (trivial) (mi_okL_c (ok_zf) (mi_okL_c (ok_zk) (mi_okL_e)))) (mi_okS_e) (mi_al (ho) (mi_al_e)) (fun h1 W _ hst => mf_ret (M := (3, 1, sb_108)) rfl rfl rfl hst (mi_al_e) (kon h1 W))
set_option maxRecDepth 20000 in
theorem mp_jdB_1 (h : sm_H) (d : Nat) (zf zk : Int) : mj_path [(108, (3, 1, sb_108))] sx_sk h 6 [0] (d + 1, 108, 2, [some (.inr (.inr 54)), some (.inl (zf)), some (.inl (zk))], [], [], []) = some ((d + 1, 108, 12, [some (.inr (.inr 54)), some (.inl (zf)), some (.inl (zk))], [.inl (zk), .inr (.inr 54)], [], []), [zk < (mi_f h 6913)]) := rfl
theorem mi_tab_jdB_1 : ∀ e ∈ ([(108, (3, 1, sb_108))] : mi_T), sc_P e.1 = some e.2 := mi_tb mi_P108 (mi_tb_e)
set_option maxRecDepth 20000 in
theorem ms_jdB_1 {h : sm_H} {d : Nat} {Q : Option mi_V → sm_H → Prop} {zf zk : Int} (hS : ab_Sh sx_sk h) (ok_zf : mi_in zf) (ok_zk : mi_in zk) (ho : (zk < (mi_f h 6913))) (kon : ∀ h1, me_W [] h h1 → ∃ Q1, me_E (d + 0) 20 0 (mi_entry 2 [.inr (.inr 54), .inl (zk)]) [] h1 Q1 ∧ ∀ w h2, (∀ x, w = some x → mi_ok x) → Q1 w h2 → me_E (d + 1) 108 15 [some (.inr (.inr 54)), some (.inl (zf)), some (.inl (zk))] (mi_back w []) h2 Q) : me_E (d + 1) 108 2 [some (.inr (.inr 54)), some (.inl (zf)), some (.inl (zk))] [] h Q := mf_seg (mp_jdB_1 h d zf zk) (mi_tab_jdB_1) hS (mi_okL_c (trivial) (mi_okL_c (ok_zf) (mi_okL_c (ok_zk) (mi_okL_e)))) (mi_okS_e) (mi_al (ho) (mi_al_e)) (fun h1 W _ hst => let ⟨_, k1, k2⟩ := kon h1 W; mf_call (M := (3, 1, sb_108)) (M' := (2, 5, sb_20)) rfl rfl rfl rfl (Nat.le_of_ble_eq_true rfl) (Nat.le_of_ble_eq_true rfl) W.1 k1 k2)
set_option maxRecDepth 20000 in
theorem mt_jdB {h : sm_H} {d : Nat} {Q : Option mi_V → sm_H → Prop} {zf zk : Int} (hS : ab_Sh sx_sk h) (ok_zf : mi_in zf) (ok_zk : mi_in zk) (k0 : (0 ≤ mi_f h 6913 ∧ mi_f h 6913 ≤ 160) → ((mi_f h 6913) ≤ zk) → (∀ h1, ab_Sh sx_sk h1 → ab_Fr [] h h1 → Q (some (.inl (zk))) h1)) (k1 : (0 ≤ mi_f h 6913 ∧ mi_f h 6913 ≤ 160) → (zk < (mi_f h 6913)) → (∀ h1, ab_Sh sx_sk h1 → ab_Fr [] h h1 → ∃ Q1, me_E (d + 0) 20 0 (mi_entry 2 [.inr (.inr 54), .inl (zk)]) [] h1 Q1 ∧ ∀ w h2, (∀ x, w = some x → mi_ok x) → Q1 w h2 → me_E (d + 1) 108 15 [some (.inr (.inr 54)), some (.inl (zf)), some (.inl (zk))] (mi_back w []) h2 Q)) : me_E (d + 1) 108 2 [some (.inr (.inr 54)), some (.inl (zf)), some (.inl (zk))] [] h Q := Or.elim (mi_em .ge (zk) ((mi_f h 6913))) (fun c0 => ms_jdB_0 hS ok_zf ok_zk (c0) (fun h1 W => (k0 (me_fb hS rfl) c0) h1 W.1 (W.2.2.2.2.2 _ rfl))) (fun c0 => ms_jdB_1 hS ok_zf ok_zk (c0) (fun h1 W => (k1 (me_fb hS rfl) c0) h1 W.1 (W.2.2.2.2.2 _ rfl)))
set_option maxRecDepth 20000 in
theorem mp_jdC_0 (h : sm_H) (d : Nat) (zf zk zz : Int) : mj_path [(108, (3, 1, sb_108)), (37, (1, 4, sb_37))] sx_sk h 8 [1, 1] (d + 1, 108, 15, [some (.inr (.inr 54)), some (.inl (zf)), some (.inl (zk))], [.inl (zz)], [], []) = some ((d + 1, 108, 28, [some (.inr (.inr 54)), some (.inl (zf)), some (.inl (zk))], [.inl (zk)], [], []), [zz < ((48 : Int)), ((0 : Int)) = 0 ∨ ((0 : Int)) = 1, ((0 : Int)) = ((0 : Int))]) := rfl
theorem mi_tab_jdC_0 : ∀ e ∈ ([(108, (3, 1, sb_108)), (37, (1, 4, sb_37))] : mi_T), sc_P e.1 = some e.2 := mi_tb mi_P108 (mi_tb mi_P37 (mi_tb_e))
set_option maxRecDepth 20000 in
theorem ms_jdC_0 {h : sm_H} {d : Nat} {Q : Option mi_V → sm_H → Prop} {zf zk zz : Int} (hS : ab_Sh sx_sk h) (ok_zf : mi_in zf) (ok_zk : mi_in zk) (ok_zz : mi_in zz) (ho : (zz < ((48 : Int))) ∧ (((0 : Int)) = 0 ∨ ((0 : Int)) = 1) ∧ (((0 : Int)) = ((0 : Int)))) (kon : ∀ h1, me_W [] h h1 → Q (some (.inl (zk))) h1) : me_E (d + 1) 108 15 [some (.inr (.inr 54)), some (.inl (zf)), some (.inl (zk))] [.inl (zz)] h Q := mf_seg (mp_jdC_0 h d zf zk zz) (mi_tab_jdC_0) hS (mi_okL_c (trivial) (mi_okL_c (ok_zf) (mi_okL_c (ok_zk) (mi_okL_e)))) (mi_okS_cons (ok_zz) (mi_okS_e)) (mi_al (ho.1) (mi_al (ho.2.1) (mi_al (ho.2.2) (mi_al_e)))) (fun h1 W _ hst => mf_ret (M := (3, 1, sb_108)) rfl rfl rfl hst (mi_al_e) (kon h1 W))
set_option maxRecDepth 20000 in
theorem mp_jdC_1 (h : sm_H) (d : Nat) (zf zk zz : Int) : mj_path [(108, (3, 1, sb_108)), (37, (1, 4, sb_37))] sx_sk h 11 [0, 1, 1] (d + 1, 108, 15, [some (.inr (.inr 54)), some (.inl (zf)), some (.inl (zk))], [.inl (zz)], [], []) = some ((d + 1, 108, 28, [some (.inr (.inr 54)), some (.inl (zf)), some (.inl (zk))], [.inl (zk)], [], []), [((48 : Int)) ≤ zz, ((57 : Int)) < zz, ((0 : Int)) = 0 ∨ ((0 : Int)) = 1, ((0 : Int)) = ((0 : Int))]) := rfl
theorem mi_tab_jdC_1 : ∀ e ∈ ([(108, (3, 1, sb_108)), (37, (1, 4, sb_37))] : mi_T), sc_P e.1 = some e.2 := mi_tb mi_P108 (mi_tb mi_P37 (mi_tb_e))
set_option maxRecDepth 20000 in
theorem ms_jdC_1 {h : sm_H} {d : Nat} {Q : Option mi_V → sm_H → Prop} {zf zk zz : Int} (hS : ab_Sh sx_sk h) (ok_zf : mi_in zf) (ok_zk : mi_in zk) (ok_zz : mi_in zz) (ho : (((48 : Int)) ≤ zz) ∧ (((57 : Int)) < zz) ∧ (((0 : Int)) = 0 ∨ ((0 : Int)) = 1) ∧ (((0 : Int)) = ((0 : Int)))) (kon : ∀ h1, me_W [] h h1 → Q (some (.inl (zk))) h1) : me_E (d + 1) 108 15 [some (.inr (.inr 54)), some (.inl (zf)), some (.inl (zk))] [.inl (zz)] h Q := mf_seg (mp_jdC_1 h d zf zk zz) (mi_tab_jdC_1) hS (mi_okL_c (trivial) (mi_okL_c (ok_zf) (mi_okL_c (ok_zk) (mi_okL_e)))) (mi_okS_cons (ok_zz) (mi_okS_e)) (mi_al (ho.1) (mi_al (ho.2.1) (mi_al (ho.2.2.1) (mi_al (ho.2.2.2) (mi_al_e))))) (fun h1 W _ hst => mf_ret (M := (3, 1, sb_108)) rfl rfl rfl hst (mi_al_e) (kon h1 W))
set_option maxRecDepth 20000 in
theorem mp_jdC_2 (h : sm_H) (d : Nat) (zf zk zz : Int) : mj_path [(108, (3, 1, sb_108)), (37, (1, 4, sb_37))] sx_sk h 13 [0, 0, 0] (d + 1, 108, 15, [some (.inr (.inr 54)), some (.inl (zf)), some (.inl (zk))], [.inl (zz)], [], []) = some ((d + 1, 108, 2, [some (.inr (.inr 54)), some (.inl (zf)), some (.inl (zk + 1))], [], [], []), [((48 : Int)) ≤ zz, zz ≤ ((57 : Int)), ((1 : Int)) = 0 ∨ ((1 : Int)) = 1, ((1 : Int)) ≠ ((0 : Int)), -2147483648 ≤ zk + 1 ∧ zk + 1 ≤ 2147483647]) := rfl
theorem mi_tab_jdC_2 : ∀ e ∈ ([(108, (3, 1, sb_108)), (37, (1, 4, sb_37))] : mi_T), sc_P e.1 = some e.2 := mi_tb mi_P108 (mi_tb mi_P37 (mi_tb_e))
set_option maxRecDepth 20000 in
theorem ms_jdC_2 {h : sm_H} {d : Nat} {Q : Option mi_V → sm_H → Prop} {zf zk zz : Int} (hS : ab_Sh sx_sk h) (ok_zf : mi_in zf) (ok_zk : mi_in zk) (ok_zz : mi_in zz) (ho : (((48 : Int)) ≤ zz) ∧ (zz ≤ ((57 : Int))) ∧ (((1 : Int)) = 0 ∨ ((1 : Int)) = 1) ∧ (((1 : Int)) ≠ ((0 : Int))) ∧ (-2147483648 ≤ zk + 1 ∧ zk + 1 ≤ 2147483647)) (kon : ∀ h1, me_W [] h h1 → me_E (d + 1) 108 2 [some (.inr (.inr 54)), some (.inl (zf)), some (.inl (zk + 1))] [] h1 Q) : me_E (d + 1) 108 15 [some (.inr (.inr 54)), some (.inl (zf)), some (.inl (zk))] [.inl (zz)] h Q := mf_seg (mp_jdC_2 h d zf zk zz) (mi_tab_jdC_2) hS (mi_okL_c (trivial) (mi_okL_c (ok_zf) (mi_okL_c (ok_zk) (mi_okL_e)))) (mi_okS_cons (ok_zz) (mi_okS_e)) (mi_al (ho.1) (mi_al (ho.2.1) (mi_al (ho.2.2.1) (mi_al (ho.2.2.2.1) (mi_al (ho.2.2.2.2) (mi_al_e)))))) (fun h1 W _ hst => kon h1 W)
set_option maxRecDepth 20000 in
theorem mt_jdC {h : sm_H} {d : Nat} {Q : Option mi_V → sm_H → Prop} {zf zk zz : Int} (hS : ab_Sh sx_sk h) (ok_zf : mi_in zf) (ok_zk : mi_in zk) (ok_zz : mi_in zz) (k0 : (zz < ((48 : Int))) → (∀ h1, ab_Sh sx_sk h1 → ab_Fr [] h h1 → Q (some (.inl (zk))) h1)) (k1 : (((48 : Int)) ≤ zz) → (((57 : Int)) < zz) → (∀ h1, ab_Sh sx_sk h1 → ab_Fr [] h h1 → Q (some (.inl (zk))) h1)) (k2 : (((48 : Int)) ≤ zz) → (zz ≤ ((57 : Int))) → ((-2147483648 ≤ zk + 1 ∧ zk + 1 ≤ 2147483647)) ∧ (∀ h1, ab_Sh sx_sk h1 → ab_Fr [] h h1 → me_E (d + 1) 108 2 [some (.inr (.inr 54)), some (.inl (zf)), some (.inl (zk + 1))] [] h1 Q)) : me_E (d + 1) 108 15 [some (.inr (.inr 54)), some (.inl (zf)), some (.inl (zk))] [.inl (zz)] h Q := Or.elim (mi_em .lt (zz) (((48 : Int)))) (fun c0 => ms_jdC_0 hS ok_zf ok_zk ok_zz ⟨c0, (by decide), (by decide)⟩ (fun h1 W => (k0 c0) h1 W.1 (W.2.2.2.2.2 _ rfl))) (fun c0 => Or.elim (mi_em .gt (zz) (((57 : Int)))) (fun c1 => ms_jdC_1 hS ok_zf ok_zk ok_zz ⟨c0, c1, (by decide), (by decide)⟩ (fun h1 W => (k1 c0 c1) h1 W.1 (W.2.2.2.2.2 _ rfl))) (fun c1 => ms_jdC_2 hS ok_zf ok_zk ok_zz ⟨c0, c1, (by decide), (by decide), (k2 c0 c1).1⟩ (fun h1 W => (k2 c0 c1).2 h1 W.1 (W.2.2.2.2.2 _ rfl))))
set_option maxRecDepth 20000 in
theorem mp_jcA_0 (h : sm_H) (d : Nat) (zf zt : Int) : mj_path [(34, (5, 1, sb_34))] sx_sk h 6 [8] (d + 1, 34, 0, [some (.inr (.inr 54)), some (.inl (zf)), some (.inl (zt)), none, none], [], [], []) = some ((d + 1, 34, 7, [some (.inr (.inr 54)), some (.inl (zf)), some (.inl (zt)), some (.inl ((0 : Int))), some (.inl (zt - ((1 : Int))))], [], [], []), [-2147483648 ≤ zt - ((1 : Int)) ∧ zt - ((1 : Int)) ≤ 2147483647]) := rfl
theorem mi_tab_jcA_0 : ∀ e ∈ ([(34, (5, 1, sb_34))] : mi_T), sc_P e.1 = some e.2 := mi_tb mi_P34 (mi_tb_e)
set_option maxRecDepth 20000 in
theorem ms_jcA_0 {h : sm_H} {d : Nat} {Q : Option mi_V → sm_H → Prop} {zf zt : Int} (hS : ab_Sh sx_sk h) (ok_zf : mi_in zf) (ok_zt : mi_in zt) (ho : (-2147483648 ≤ zt - ((1 : Int)) ∧ zt - ((1 : Int)) ≤ 2147483647)) (kon : ∀ h1, me_W [] h h1 → me_E (d + 1) 34 7 [some (.inr (.inr 54)), some (.inl (zf)), some (.inl (zt)), some (.inl ((0 : Int))), some (.inl (zt - ((1 : Int))))] [] h1 Q) : me_E (d + 1) 34 0 [some (.inr (.inr 54)), some (.inl (zf)), some (.inl (zt)), none, none] [] h Q := mf_seg (mp_jcA_0 h d zf zt) (mi_tab_jcA_0) hS (mi_okL_c (trivial) (mi_okL_c (ok_zf) (mi_okL_c (ok_zt) (mi_okL_n (mi_okL_n (mi_okL_e)))))) (mi_okS_e) (mi_al (ho) (mi_al_e)) (fun h1 W _ hst => kon h1 W)
set_option maxRecDepth 20000 in
theorem mt_jcA {h : sm_H} {d : Nat} {Q : Option mi_V → sm_H → Prop} {zf zt : Int} (hS : ab_Sh sx_sk h) (ok_zf : mi_in zf) (ok_zt : mi_in zt) (k0 : ((-2147483648 ≤ zt - ((1 : Int)) ∧ zt - ((1 : Int)) ≤ 2147483647)) ∧ (∀ h1, ab_Sh sx_sk h1 → ab_Fr [] h h1 → me_E (d + 1) 34 7 [some (.inr (.inr 54)), some (.inl (zf)), some (.inl (zt)), some (.inl ((0 : Int))), some (.inl (zt - ((1 : Int))))] [] h1 Q)) : me_E (d + 1) 34 0 [some (.inr (.inr 54)), some (.inl (zf)), some (.inl (zt)), none, none] [] h Q := ms_jcA_0 hS ok_zf ok_zt ((k0).1) (fun h1 W => (k0).2 h1 W.1 (W.2.2.2.2.2 _ rfl))
set_option maxRecDepth 20000 in
theorem mp_jcB_0 (h : sm_H) (d : Nat) (zf zt zv zk : Int) : mj_path [(34, (5, 1, sb_34))] sx_sk h 4 [1] (d + 1, 34, 7, [some (.inr (.inr 54)), some (.inl (zf)), some (.inl (zt)), some (.inl (zv)), some (.inl (zk))], [], [], []) = some ((d + 1, 34, 36, [some (.inr (.inr 54)), some (.inl (zf)), some (.inl (zt)), some (.inl (zv)), some (.inl (zk))], [.inl (zv)], [], []), [zk < zf]) := rfl
theorem mi_tab_jcB_0 : ∀ e ∈ ([(34, (5, 1, sb_34))] : mi_T), sc_P e.1 = some e.2 := mi_tb mi_P34 (mi_tb_e)
set_option maxRecDepth 20000 in
theorem ms_jcB_0 {h : sm_H} {d : Nat} {Q : Option mi_V → sm_H → Prop} {zf zt zv zk : Int} (hS : ab_Sh sx_sk h) (ok_zf : mi_in zf) (ok_zt : mi_in zt) (ok_zv : mi_in zv) (ok_zk : mi_in zk) (ho : (zk < zf)) (kon : ∀ h1, me_W [] h h1 → Q (some (.inl (zv))) h1) : me_E (d + 1) 34 7 [some (.inr (.inr 54)), some (.inl (zf)), some (.inl (zt)), some (.inl (zv)), some (.inl (zk))] [] h Q := mf_seg (mp_jcB_0 h d zf zt zv zk) (mi_tab_jcB_0) hS (mi_okL_c (trivial) (mi_okL_c (ok_zf) (mi_okL_c (ok_zt) (mi_okL_c (ok_zv) (mi_okL_c (ok_zk) (mi_okL_e)))))) (mi_okS_e) (mi_al (ho) (mi_al_e)) (fun h1 W _ hst => mf_ret (M := (5, 1, sb_34)) rfl rfl rfl hst (mi_al_e) (kon h1 W))
set_option maxRecDepth 20000 in
theorem mp_jcB_1 (h : sm_H) (d : Nat) (zf zt zv zk : Int) : mj_path [(34, (5, 1, sb_34))] sx_sk h 8 [0] (d + 1, 34, 7, [some (.inr (.inr 54)), some (.inl (zf)), some (.inl (zt)), some (.inl (zv)), some (.inl (zk))], [], [], []) = some ((d + 1, 34, 19, [some (.inr (.inr 54)), some (.inl (zf)), some (.inl (zt)), some (.inl (zv)), some (.inl (zk))], [.inl (zk), .inr (.inr 54), .inl ((Int32.ofInt zv <<< (Int32.ofInt ((5 : Int)) &&& 31)).toInt)], [], []), [zf ≤ zk]) := rfl
theorem mi_tab_jcB_1 : ∀ e ∈ ([(34, (5, 1, sb_34))] : mi_T), sc_P e.1 = some e.2 := mi_tb mi_P34 (mi_tb_e)
set_option maxRecDepth 20000 in
theorem ms_jcB_1 {h : sm_H} {d : Nat} {Q : Option mi_V → sm_H → Prop} {zf zt zv zk : Int} (hS : ab_Sh sx_sk h) (ok_zf : mi_in zf) (ok_zt : mi_in zt) (ok_zv : mi_in zv) (ok_zk : mi_in zk) (ho : (zf ≤ zk)) (kon : ∀ h1, me_W [] h h1 → ∃ Q1, me_E (d + 0) 20 0 (mi_entry 2 [.inr (.inr 54), .inl (zk)]) [] h1 Q1 ∧ ∀ w h2, (∀ x, w = some x → mi_ok x) → Q1 w h2 → me_E (d + 1) 34 22 [some (.inr (.inr 54)), some (.inl (zf)), some (.inl (zt)), some (.inl (zv)), some (.inl (zk))] (mi_back w [.inl ((Int32.ofInt zv <<< (Int32.ofInt ((5 : Int)) &&& 31)).toInt)]) h2 Q) : me_E (d + 1) 34 7 [some (.inr (.inr 54)), some (.inl (zf)), some (.inl (zt)), some (.inl (zv)), some (.inl (zk))] [] h Q := mf_seg (mp_jcB_1 h d zf zt zv zk) (mi_tab_jcB_1) hS (mi_okL_c (trivial) (mi_okL_c (ok_zf) (mi_okL_c (ok_zt) (mi_okL_c (ok_zv) (mi_okL_c (ok_zk) (mi_okL_e)))))) (mi_okS_e) (mi_al (ho) (mi_al_e)) (fun h1 W _ hst => let ⟨_, k1, k2⟩ := kon h1 W; mf_call (M := (5, 1, sb_34)) (M' := (2, 5, sb_20)) rfl rfl rfl rfl (Nat.le_of_ble_eq_true rfl) (Nat.le_of_ble_eq_true rfl) W.1 k1 k2)
set_option maxRecDepth 20000 in
theorem mt_jcB {h : sm_H} {d : Nat} {Q : Option mi_V → sm_H → Prop} {zf zt zv zk : Int} (hS : ab_Sh sx_sk h) (ok_zf : mi_in zf) (ok_zt : mi_in zt) (ok_zv : mi_in zv) (ok_zk : mi_in zk) (k0 : (zk < zf) → (∀ h1, ab_Sh sx_sk h1 → ab_Fr [] h h1 → Q (some (.inl (zv))) h1)) (k1 : (zf ≤ zk) → (∀ h1, ab_Sh sx_sk h1 → ab_Fr [] h h1 → ∃ Q1, me_E (d + 0) 20 0 (mi_entry 2 [.inr (.inr 54), .inl (zk)]) [] h1 Q1 ∧ ∀ w h2, (∀ x, w = some x → mi_ok x) → Q1 w h2 → me_E (d + 1) 34 22 [some (.inr (.inr 54)), some (.inl (zf)), some (.inl (zt)), some (.inl (zv)), some (.inl (zk))] (mi_back w [.inl ((Int32.ofInt zv <<< (Int32.ofInt ((5 : Int)) &&& 31)).toInt)]) h2 Q)) : me_E (d + 1) 34 7 [some (.inr (.inr 54)), some (.inl (zf)), some (.inl (zt)), some (.inl (zv)), some (.inl (zk))] [] h Q := Or.elim (mi_em .lt (zk) (zf)) (fun c0 => ms_jcB_0 hS ok_zf ok_zt ok_zv ok_zk (c0) (fun h1 W => (k0 c0) h1 W.1 (W.2.2.2.2.2 _ rfl))) (fun c0 => ms_jcB_1 hS ok_zf ok_zt ok_zv ok_zk (c0) (fun h1 W => (k1 c0) h1 W.1 (W.2.2.2.2.2 _ rfl)))
set_option maxRecDepth 20000 in
theorem mp_jcC_0 (h : sm_H) (d : Nat) (zf zt zv zk zz zy : Int) : mj_path [(34, (5, 1, sb_34))] sx_sk h 8 [8, 8] (d + 1, 34, 22, [some (.inr (.inr 54)), some (.inl (zf)), some (.inl (zt)), some (.inl (zv)), some (.inl (zk))], [.inl (zz), .inl (zy)], [], []) = some ((d + 1, 34, 7, [some (.inr (.inr 54)), some (.inl (zf)), some (.inl (zt)), some (.inl ((Int32.ofInt zy ||| Int32.ofInt ((zz - ((97 : Int))) + ((1 : Int)))).toInt)), some (.inl (zk + (-1)))], [], [], []), [-2147483648 ≤ zz - ((97 : Int)) ∧ zz - ((97 : Int)) ≤ 2147483647, -2147483648 ≤ (zz - ((97 : Int))) + ((1 : Int)) ∧ (zz - ((97 : Int))) + ((1 : Int)) ≤ 2147483647, -2147483648 ≤ zk + (-1) ∧ zk + (-1) ≤ 2147483647]) := rfl
theorem mi_tab_jcC_0 : ∀ e ∈ ([(34, (5, 1, sb_34))] : mi_T), sc_P e.1 = some e.2 := mi_tb mi_P34 (mi_tb_e)
set_option maxRecDepth 20000 in
theorem ms_jcC_0 {h : sm_H} {d : Nat} {Q : Option mi_V → sm_H → Prop} {zf zt zv zk zz zy : Int} (hS : ab_Sh sx_sk h) (ok_zf : mi_in zf) (ok_zt : mi_in zt) (ok_zv : mi_in zv) (ok_zk : mi_in zk) (ok_zz : mi_in zz) (ok_zy : mi_in zy) (ho : (-2147483648 ≤ zz - ((97 : Int)) ∧ zz - ((97 : Int)) ≤ 2147483647) ∧ (-2147483648 ≤ (zz - ((97 : Int))) + ((1 : Int)) ∧ (zz - ((97 : Int))) + ((1 : Int)) ≤ 2147483647) ∧ (-2147483648 ≤ zk + (-1) ∧ zk + (-1) ≤ 2147483647)) (kon : ∀ h1, me_W [] h h1 → me_E (d + 1) 34 7 [some (.inr (.inr 54)), some (.inl (zf)), some (.inl (zt)), some (.inl ((Int32.ofInt zy ||| Int32.ofInt ((zz - ((97 : Int))) + ((1 : Int)))).toInt)), some (.inl (zk + (-1)))] [] h1 Q) : me_E (d + 1) 34 22 [some (.inr (.inr 54)), some (.inl (zf)), some (.inl (zt)), some (.inl (zv)), some (.inl (zk))] [.inl (zz), .inl (zy)] h Q := mf_seg (mp_jcC_0 h d zf zt zv zk zz zy) (mi_tab_jcC_0) hS (mi_okL_c (trivial) (mi_okL_c (ok_zf) (mi_okL_c (ok_zt) (mi_okL_c (ok_zv) (mi_okL_c (ok_zk) (mi_okL_e)))))) (mi_okS_cons (ok_zz) (mi_okS_cons (ok_zy) (mi_okS_e))) (mi_al (ho.1) (mi_al (ho.2.1) (mi_al (ho.2.2) (mi_al_e)))) (fun h1 W _ hst => kon h1 W)
set_option maxRecDepth 20000 in
theorem mt_jcC {h : sm_H} {d : Nat} {Q : Option mi_V → sm_H → Prop} {zf zt zv zk zz zy : Int} (hS : ab_Sh sx_sk h) (ok_zf : mi_in zf) (ok_zt : mi_in zt) (ok_zv : mi_in zv) (ok_zk : mi_in zk) (ok_zz : mi_in zz) (ok_zy : mi_in zy) (k0 : ((-2147483648 ≤ zz - ((97 : Int)) ∧ zz - ((97 : Int)) ≤ 2147483647) ∧ (-2147483648 ≤ (zz - ((97 : Int))) + ((1 : Int)) ∧ (zz - ((97 : Int))) + ((1 : Int)) ≤ 2147483647) ∧ (-2147483648 ≤ zk + (-1) ∧ zk + (-1) ≤ 2147483647)) ∧ (∀ h1, ab_Sh sx_sk h1 → ab_Fr [] h h1 → me_E (d + 1) 34 7 [some (.inr (.inr 54)), some (.inl (zf)), some (.inl (zt)), some (.inl ((Int32.ofInt zy ||| Int32.ofInt ((zz - ((97 : Int))) + ((1 : Int)))).toInt)), some (.inl (zk + (-1)))] [] h1 Q)) : me_E (d + 1) 34 22 [some (.inr (.inr 54)), some (.inl (zf)), some (.inl (zt)), some (.inl (zv)), some (.inl (zk))] [.inl (zz), .inl (zy)] h Q := ms_jcC_0 hS ok_zf ok_zt ok_zv ok_zk ok_zz ok_zy ⟨(k0).1.1, (k0).1.2.1, (k0).1.2.2⟩ (fun h1 W => (k0).2 h1 W.1 (W.2.2.2.2.2 _ rfl))
/-! the class's parsing walk: what lies in its rows beside the pure one; the next token, enter, leave, which, how often -/
def pq_bit (x : Int64) (k : Int) : Bool := decide (0 ≤ k ∧ (lg_cmp ((((x).toUInt64 >>> ((Int32.ofInt k).toInt64.toUInt64 &&& Int64.toUInt64 63)).toInt64) &&& (Int64.ofNat 1)) (Int64.ofNat 0)).toInt ≠ 0)
def pq_W : List (Nat × Nat) := [(13056, 13057), (13184, 13185), (13312, 13313), (13440, 13441), (13571, 13574), (13575, 13580)]
/-- the j-th token is the next one -/
def pq_K (E : pm_E) (p : Int → Int) (N : Int) (h : sm_H) (j : Int) : Prop := 0 ≤ j ∧ j ≤ N ∧ mi_f h 13577 = E.1 j ∧ ((E.1 j = 1 ∨ E.1 j = 2) → mi_f h 13578 = E.2.1 j) ∧ mi_f h 13575 = p (j + 1)
def pq_R (E : pm_E) (p : Int → Int) (N : Int) (h : sm_H) (s : gm_S) : Prop := gq_T h (gm_T s) ∧ gm_len s ≤ 100 ∧ pq_K E p N h (gm_F s) ∧ pm_K E s ≠ -1
def pq_in (E : pm_E) (p : Int → Int) (N : Int) (h : sm_H) (u : Int) (s : gm_S) : Prop := ab_Sh sx_sk h ∧ mi_f h 13571 = 0 ∧ mi_f h 13572 = 0 ∧ mi_f h 13573 = u ∧ mi_f h 13579 = -1 ∧ pq_R E p N h s
def pq_bad (h : sm_H) : Prop := mi_f h 13571 = 1 ∧ (mi_f h 13572 = 1 ∨ 0 ≤ mi_f h 13579)
/-- the sets of both sides -/
def cs_G (E : pm_E) (g : wk_g) (Y : wk_Y) (h : sm_H) : Prop := (∀ u, 0 ≤ u → u < wk_u Y → ∀ k, pq_bit (mx_b h 90 u.toNat) k = E.2.2.1 u k) ∧ (∀ F, 0 ≤ F → F < wk_f Y → ∀ j : Nat, (j : Int) < g 130 F.toNat → ∀ k, pq_bit (mx_b h 88 (wk_alt g j (g 129 F.toNat)).toNat) k = E.2.2.2 F (wk_alt g j (g 129 F.toNat)) k) ∧ ∀ u, 0 ≤ u → u < wk_u Y → (g 119 u.toNat = 1 → (∀ k, k < 64 → (E.2.2.1 u k = true ↔ k = 1)) ∧ mi_a h 69 u.toNat = g 120 u.toNat ∧ 0 ≤ g 120 u.toNat ∧ g 120 u.toNat ≤ 9) ∧ (g 119 u.toNat = 2 → ∀ k, k < 64 → (E.2.2.1 u k = true ↔ k = 2)) ∧ (g 119 u.toNat = 8 → 0 ≤ g 120 u.toNat ∧ ∀ k, k < 64 → (E.2.2.1 u k = true ↔ k = 3 + g 120 u.toNat)) ∧ (g 119 u.toNat ≠ 1 → g 119 u.toNat ≠ 2 → g 119 u.toNat ≠ 8 → g 119 u.toNat ≠ 9 → g 119 u.toNat ≠ 10 → mx_b h 90 u.toNat = Int64.ofNat 0)
def cs_w (wr : List (Nat × Nat)) : Bool := ab_in wr 11520 || ab_in wr 11264 || ab_in wr 8832
theorem cs_G_fr {E : pm_E} {g : wk_g} {Y : wk_Y} {h h' : sm_H} {wr : List (Nat × Nat)} (hG : cs_G E g Y h) (hF : ab_Fr wr h h') (hS : ab_Sh sx_sk h) (hw : cs_w wr = false) : cs_G E g Y h' := by
  unfold cs_w at hw
  simp only [Bool.or_eq_false_iff] at hw
  have e1 : ∀ i, mx_b h' 90 i = mx_b h 90 i := fun i => me_b (k := 90) hF hS rfl hw.1.1
  have e2 : ∀ i, mx_b h' 88 i = mx_b h 88 i := fun i => me_b (k := 88) hF hS rfl hw.1.2
  have e3 : ∀ i, mi_a h' 69 i = mi_a h 69 i := fun i => me_a (k := 69) hF hS rfl hw.2
  unfold cs_G at hG ⊢
  simp only [e1, e2, e3]
  exact hG
def tx_h (h h0 : sm_H) : Prop := mi_f h 6913 = mi_f h0 6913 ∧ (∀ i, mi_a h 55 i = mi_a h0 55 i) ∧ mi_f h 7698 = mi_f h0 7698 ∧ ∀ i, mi_a h 75 i = mi_a h0 75 i
theorem tx_h_fr {h h' h0 : sm_H} {wr : List (Nat × Nat)} (hx : tx_h h h0) (hF : ab_Fr wr h h') (hS : ab_Sh sx_sk h) (w1 : ab_in wr 6913 = false) (w2 : ab_in wr 7040 = false) (w3 : ab_in wr 7698 = false) (w4 : ab_in wr 9600 = false) : tx_h h' h0 := ⟨(me_f (c := 6913) hF hS rfl w1).trans hx.1, fun i => (me_a (k := 55) hF hS rfl w2).trans (hx.2.1 i), (me_f (c := 7698) hF hS rfl w3).trans hx.2.2.1, fun i => (me_a (k := 75) hF hS rfl w4).trans (hx.2.2.2 i)⟩
/-- what takeToken does -/
def pq_tok (E : pm_E) (p : Int → Int) (N : Int) (h0 : sm_H) : Prop := ∀ (d : Nat) (h : sm_H) (j : Int), ab_Sh sx_sk h → tx_h h h0 → 0 ≤ j → j ≤ N → mi_f h 13575 = p j → me_E (d + 8) 106 0 [some (.inr (.inr 106)), none] [] h (fun w h' => w = none ∧ ab_Sh sx_sk h' ∧ ab_Fr [(13571, 13572), (13575, 13580)] h h' ∧ mi_f h' 13577 = E.1 j ∧ ((E.1 j = 1 ∨ E.1 j = 2) → mi_f h' 13578 = E.2.1 j) ∧ mi_f h' 13575 = p (j + 1) ∧ ((E.1 j = -1 ∧ mi_f h' 13571 = 1 ∧ 0 ≤ mi_f h' 13579) ∨ (E.1 j ≠ -1 ∧ mi_f h' 13571 = mi_f h 13571 ∧ mi_f h' 13579 = mi_f h 13579)))
/-- turns of the pure walk -/
def pm_RO (g : wk_g) (E : pm_E) (m : Option gm_C) (c : gm_C) : Prop := ∃ c1 n, m = some c1 ∧ pw_to (pm_st g E 0) n c1 c
def pm_NOc (g : wk_g) (E : pm_E) (c : gm_C) : Prop := ∀ (n : Nat) (s' : gm_S), pw_to (pm_st g E 0) n c ([], s') → pm_K E s' ≠ 0
def pm_NO (g : wk_g) (E : pm_E) (m : Option gm_C) : Prop := ∀ c1, m = some c1 → pm_NOc g E c1
section PQ0
variable {g : wk_g} {E : pm_E}
theorem pRO_refl {c : gm_C} : pm_RO g E (some c) c := ⟨c, 0, rfl, rfl⟩
theorem pRO_step {m : Option gm_C} {c : gm_C} {e : wk_E} {r : List wk_E} {s : gm_S} (h1 : pm_RO g E m (e :: r, s)) (h2 : pm_RO g E (pm_st g E 0 e r s) c) : pm_RO g E m c := by
  obtain ⟨c1, n, a1, a2⟩ := h1
  obtain ⟨c2, k, b1, b2⟩ := h2
  exact ⟨c1, n + (1 + k), a1, pw_app (pw_app b2 1 _ (pw_one b1)) n _ a2⟩
theorem pNO_of {m : Option gm_C} {c : gm_C} (h1 : pm_RO g E m c) (h2 : pm_NOc g E c) : pm_NO g E m := by
  obtain ⟨c1, n, a1, a2⟩ := h1
  intro c1' e k s' hk
  rw [a1] at e
  injection e with e
  subst e
  by_cases c : n ≤ k
  · exact h2 _ _ (pw_det _ _ _ a2 hk c)
  · have := pw_det _ _ _ hk a2 (by omega)
    have := (pw_end _ this).1
    omega
theorem pNO_step {m : Option gm_C} {e : wk_E} {r : List wk_E} {s : gm_S} (h1 : pm_RO g E m (e :: r, s)) (h2 : pm_NO g E (pm_st g E 0 e r s)) : pm_NO g E m := by
  refine pNO_of h1 (fun n s' hn => ?_)
  cases n with
  | zero => exact (pw_0 hn).elim
  | succ n =>
    obtain ⟨c1, k1, k2⟩ := pw_cons hn
    exact h2 c1 k1 n s' k2
theorem pNO_none {m : Option gm_C} (h : m = none) : pm_NO g E m := fun c1 e => by rw [h] at e; cases e
theorem pNO_bad {m : Option gm_C} {r : List wk_E} {s : gm_S} (h1 : pm_RO g E m (r, s)) (hk : pm_K E s = -1) : pm_NO g E m := by
  refine pNO_of h1 (fun n s' hn => ?_)
  have := pm_to_bad _ _ hn (by show pm_K E s < 1; omega)
  dsimp only at this
  unfold pm_K at hk ⊢
  rw [this, hk]
  decide
end PQ0
def pq_Q (E : pm_E) (p : Int → Int) (N : Int) (g : wk_g) (h0 : sm_H) (u : Int) (M : List wk_E → Option gm_C) (s : gm_S) (w : Option mi_V) (h' : sm_H) : Prop := w = none ∧ ab_Sh sx_sk h' ∧ ab_Fr pq_W h0 h' ∧ mi_f h' 13573 = u ∧ ((pq_bad h' ∧ ∀ r, wk_ul r = u → pm_NO g E (M r)) ∨ (mi_f h' 13571 = 0 ∧ mi_f h' 13572 = 0 ∧ mi_f h' 13579 = -1 ∧ ∃ s', pq_R E p N h' s' ∧ gm_D s' = gm_D s ∧ pq_A h0 s (gm_D s) h' s' ∧ ∀ r, wk_ul r = u → pm_RO g E (M r) (r, s')))
section PQ1
variable {E : pm_E} {p : Int → Int} {N : Int} {h h' : sm_H} {s : gm_S} {d : Nat} {wr : List (Nat × Nat)}
theorem pq_bad_fr (hb : pq_bad h) (hF : ab_Fr wr h h') (hS : ab_Sh sx_sk h) (w1 : ab_in wr 13571 = false) (w2 : ab_in wr 13572 = false) (w3 : ab_in wr 13579 = false) : pq_bad h' := by
  refine ⟨(me_f (c := 13571) hF hS rfl w1).trans hb.1, ?_⟩
  rw [me_f (c := 13572) hF hS rfl w2, me_f (c := 13579) hF hS rfl w3]
  exact hb.2
theorem pq_K_fr {j : Int} (hK : pq_K E p N h j) (hF : ab_Fr wr h h') (hS : ab_Sh sx_sk h) (w1 : ab_in wr 13577 = false) (w2 : ab_in wr 13578 = false) (w3 : ab_in wr 13575 = false) : pq_K E p N h' j := by
  unfold pq_K at hK ⊢
  rw [me_f (c := 13577) hF hS rfl w1, me_f (c := 13578) hF hS rfl w2, me_f (c := 13575) hF hS rfl w3]
  exact hK
def pq_w (wr : List (Nat × Nat)) : Bool := ab_in wr 13577 || ab_in wr 13578 || ab_in wr 13575
theorem pq_R_fr (hR : pq_R E p N h s) (hF : ab_Fr wr h h') (hS : ab_Sh sx_sk h) (w1 : gq_w wr = false) (w2 : pq_w wr = false) : pq_R E p N h' s := by
  unfold pq_w at w2
  simp only [Bool.or_eq_false_iff] at w2
  exact ⟨gq_T_fr hR.1 hF hS w1, hR.2.1, pq_K_fr hR.2.2.1 hF hS w2.1.1 w2.1.2 w2.2, hR.2.2.2⟩
theorem pq_R_D {t : gm_S} (hR : pq_R E p N h s) (e1 : gm_T t = gm_T s) (e3 : gm_F t = gm_F s) : pq_R E p N h t := by
  unfold pq_R gm_len pm_K at hR ⊢
  rw [e1, e3]
  exact hR
theorem me_pnext {zs : Int64} (hS : ab_Sh sx_sk h) : me_E d 125 0 [some (.inr (.inr 106)), some (.inr (.inl zs)), none] [] h (fun w h' => h' = h ∧ w = some (.inl (if pq_bit zs (mi_f h 13577) = true then 1 else 0))) := by
  refine mt_kpns hS ?_ ?_ ?_
  · intro b c h1 g1 g2
    refine ⟨me_nil g2, ?_⟩
    have e : ¬ pq_bit zs (mi_f h 13577) = true := by
      unfold pq_bit
      rw [decide_eq_true_eq]
      exact fun z => by omega
    rw [if_neg e]
  · intro b c1 c2 h1 g1 g2
    refine ⟨me_nil g2, ?_⟩
    have e : ¬ pq_bit zs (mi_f h 13577) = true := by
      unfold pq_bit
      rw [decide_eq_true_eq]
      exact fun z => z.2 c2
    rw [if_neg e]
  · intro b c1 c2 h1 g1 g2
    refine ⟨me_nil g2, ?_⟩
    have e : pq_bit zs (mi_f h 13577) = true := by
      unfold pq_bit
      rw [decide_eq_true_eq]
      exact ⟨c1, c2⟩
    rw [if_pos e]
def pq_en : List (Nat × Nat) := [(13056, 13057), (13184, 13185), (13312, 13313), (13440, 13441), (13571, 13573)]
theorem me_penter {zk zv : Int} (hS : ab_Sh sx_sk h) (hk0 : 0 ≤ zk ∧ zk < 10) (ov : mi_in zv) (h0 : mi_f h 13571 = 0) (h1 : mi_f h 13572 = 0) (hR : pq_R E p N h s) : me_E (d + 2) 116 0 [some (.inr (.inr 106)), some (.inl zk), some (.inl zv), none] [] h (fun w h' => ab_Sh sx_sk h' ∧ ab_Fr pq_en h h' ∧ ((gm_c zk zv s = none ∧ w = some (.inl (-1)) ∧ mi_f h' 13571 = 1 ∧ mi_f h' 13572 = 1) ∨ (∃ t, gm_c zk zv s = some t ∧ w = some (.inl (gm_len s)) ∧ mi_f h' 13571 = 0 ∧ mi_f h' 13572 = 0 ∧ pq_R E p N h' t ∧ ∀ i, mi_a h' 105 i = if i = (gm_T s).length then 0 else mi_a h 105 i))) := by
  obtain ⟨⟨r1, r5⟩, r2, r3, r4⟩ := hR
  have rl : gm_len s = ((gm_T s).length : Int) := rfl
  have ok : mi_in zk := ⟨by omega, by omega⟩
  refine mt_kpen hS ok ov ?_ ?_ ?_ ?_ ?_
  · intro b c1 c2
    exfalso; omega
  · intro b c1 c2
    exfalso; omega
  · intro b c1 c2 c3
    refine ⟨⟨⟨by omega, by omega⟩, ⟨by omega, by omega⟩, by omega, by omega⟩, fun h1' g1 g2 g3 g4 g5 g6 => ?_⟩
    refine ⟨g1, g6.wide (fun c hc => ab_swr_ok (by decide) hc), Or.inr ⟨(gm_X s, gm_F s, gm_T s ++ [(zk + 10 * ((gm_T s).length : Int), zv, gm_D s)], gm_D s, gm_P s), ?_, ?_, (me_f (c := 13571) g6 hS rfl rfl).trans h0, (me_f (c := 13572) g6 hS rfl rfl).trans h1, ?_, ?_⟩⟩
    · unfold gm_c
      rw [if_neg (by omega)]
    · have e : mi_f h 13056 + 1 - 1 = gm_len s := by omega
      rw [e]
    · have el : (gm_T s ++ [(zk + 10 * ((gm_T s).length : Int), zv, gm_D s)]).length = (gm_T s).length + 1 := by rw [List.length_append]; rfl
      unfold pq_R gm_len pm_K
      simp only [gm_T_mk, gm_F_mk]
      refine ⟨⟨by rw [el, g2, r1]; omega, fun k hk => ?_⟩, by rw [el]; omega, pq_K_fr r3 g6 hS rfl rfl rfl, r4⟩
      rw [el] at hk
      rw [g3, g4]
      by_cases c : k = (gm_T s).length
      · refine ⟨gm_D s, ((gm_T s).length : Int), ?_⟩
        rw [if_pos (by omega), if_pos (by omega)]
        refine ⟨?_, hk0⟩
        rw [c, List.getElem?_append_right (Nat.le_refl _), Nat.sub_self]
        rfl
      · obtain ⟨l, q, hl⟩ := r5 k (by omega)
        refine ⟨l, q, ?_⟩
        rw [if_neg (by omega), if_neg (by omega), List.getElem?_append_left (by omega)]
        exact hl
    · intro i
      rw [g5]
      have e : Int.toNat (mi_f h 13056) = (gm_T s).length := by omega
      rw [e]
  · intro b c1 c2 c3
    exfalso; omega
  · intro b c1 h1' g1 g2 g3 g4
    refine ⟨g1, g4.wide (fun c hc => ab_swr_ok (by decide) hc), Or.inl ⟨?_, rfl, g2, g3⟩⟩
    unfold gm_c
    rw [if_pos (by omega)]
/-- a node is left -/
theorem me_pleave0 {zk : Int} (hS : ab_Sh sx_sk h) (ok : mi_in zk) : me_E (d + 2) 147 0 [some (.inr (.inr 106)), some (.inl zk)] [] h (fun w h' => w = none ∧ ab_Sh sx_sk h' ∧ ab_Fr [(13440, 13441)] h h') := by
  have k := me_abs (M := (2, 0, sb_147)) (as := [.inr (.inr 106), .inl zk]) xo_195 rfl hS ⟨rfl, me_nv1 ok ok.1 ok.2, trivial⟩ (fun e he => by cases he) (by decide)
  refine (me_E.deep (d' := d + 2) k (by show 2 ≤ d + 2; omega)).imp (fun w h' hq => ⟨?_, hq.1, hq.2.1⟩)
  obtain ⟨-, -, p, -, hp, -⟩ := hq
  unfold mi_res at hp
  rw [if_pos rfl] at hp
  exact hp
theorem me_pleave {n : Nat} (hS : ab_Sh sx_sk h) (hn : n < 100) (hc0 : 0 ≤ mi_f h 13056) (hc : mi_f h 13056 ≤ 100) : me_E (d + 2) 147 0 [some (.inr (.inr 106)), some (.inl (n : Int))] [] h (fun w h' => w = none ∧ ab_Sh sx_sk h' ∧ ab_Fr [(13440, 13441)] h h' ∧ ∀ i, mi_a h' 105 i = if i = n then mi_f h 13056 - 1 - n else mi_a h 105 i) := by
  refine mt_kple hS ⟨by omega, by omega⟩ (by intros; exfalso; omega) (by intros; exfalso; omega) ?_
  intro b c1 c2
  refine ⟨⟨⟨by omega, by omega⟩, ⟨by omega, by omega⟩, by omega, by omega⟩, fun h1 g1 g2 g3 => ⟨rfl, g1, g3, ?_⟩⟩
  rw [Int.toNat_natCast] at g2
  exact g2
theorem me_ppairs0 {za zb : Int} (hS : ab_Sh sx_sk h) (oa : mi_in za) (ob : mi_in zb) : me_E (d + 4) 152 0 [some (.inr (.inr 106)), some (.inl za), some (.inl zb)] [] h (fun w h' => w = none ∧ ab_Sh sx_sk h' ∧ ab_Fr [(13184, 13185), (13312, 13313), (13440, 13441)] h h') := by
  have k := me_abs (M := (3, 0, sb_152)) (as := [.inr (.inr 106), .inl za, .inl zb]) xo_211 rfl hS ⟨rfl, me_nv1 oa oa.1 oa.2, me_nv1 ob ob.1 ob.2, trivial⟩ (fun e he => by cases he) (by decide)
  refine (me_E.deep (d' := d + 4) k (by show 4 ≤ d + 4; omega)).imp (fun w h' hq => ⟨?_, hq.1, hq.2.1⟩)
  obtain ⟨-, -, p, -, hp, -⟩ := hq
  unfold mi_res at hp
  rw [if_pos rfl] at hp
  exact hp
theorem me_pexch {a m : Nat} {T : List (Int × Int × Int)} (hS : ab_Sh sx_sk h) (hT : gq_T h T) (h1 : a ≤ m) (h2 : m ≤ T.length) (h3 : T.length ≤ 100) : me_E (d + 4) 152 0 [some (.inr (.inr 106)), some (.inl (a : Int)), some (.inl (m : Int))] [] h (fun w h' => w = none ∧ ab_Sh sx_sk h' ∧ ab_Fr tr_W h h' ∧ gq_T h' (gm_rot a m T) ∧ ∀ i, i < T.length → mi_a h' 105 i = mi_a h 105 (ro_i a m T.length i)) := by
  have oa : mi_in (a : Int) := ⟨by omega, by omega⟩
  have om : mi_in (m : Int) := ⟨by omega, by omega⟩
  refine mt_kppA hS oa om ?_
  intro ha a1 a2
  have e := me_nil a2
  subst e
  refine ⟨_, me_sexch (d := d) a1 hT h1 h2 h3, fun w h' hw hq => ?_⟩
  obtain ⟨rfl, q1, q2, q3⟩ := hq
  refine mt_kppB q1 oa om ?_
  intro hb b1 b2
  have e := me_nil b2
  subst e
  exact ⟨rfl, b1, q2, q3⟩
end PQ1
section PQ2
variable {E : pm_E} {p : Int → Int} {N : Int} {h : sm_H} {s : gm_S} {d : Nat} {f : Int → Int} {it : Int → Prop} {g : wk_g} {Y : wk_Y} {F : Int}
theorem pc14 (hS : ab_Sh sx_sk h) (hF : cg_F f it g h F) (hd : ∀ j : Nat, (j : Int) < g 130 F.toNat → ∀ k, pq_bit (mx_b h 88 (wk_alt g j (g 129 F.toNat)).toNat) k = E.2.2.2 F (wk_alt g j (g 129 F.toNat)) k) (hK : mi_f h 13577 = pm_K E s) : ∀ (M j : Nat), g 130 F.toNat - j = M → mi_in (wk_alt g j (g 129 F.toNat)) → me_E (d + 2) 124 14 [some (.inr (.inr 106)), some (.inl (f F)), some (.inl (wk_alt g j (g 129 F.toNat))), some (.inl (j : Int))] [] h (fun w h' => (∃ n, pm_dr g (fun a => E.2.2.2 F a (pm_K E s)) M (wk_alt g j (g 129 F.toNat)) (j : Int) = some n ∧ h' = h ∧ w = some (.inl n)) ∨ (pm_dr g (fun a => E.2.2.2 F a (pm_K E s)) M (wk_alt g j (g 129 F.toNat)) (j : Int) = none ∧ w = some (.inl 0) ∧ ab_Sh sx_sk h' ∧ ab_Fr [(13571, 13572), (13579, 13580)] h h' ∧ mi_f h' 13571 = 1 ∧ mi_f h' 13579 = mi_f h 13576)) := by
  obtain ⟨⟨f0, f1⟩, f2, f3, f4, f5⟩ := hF
  have of : mi_in (f F) := ⟨by omega, by omega⟩
  intro M
  induction M with
  | zero =>
    intro j h1 oa
    have oj : mi_in (j : Int) := ⟨by omega, by omega⟩
    refine mt_kpcB hS of oa oj (by intros; exfalso; omega) (by intros; exfalso; omega) (by intros; exfalso; omega) (by intros; exfalso; omega) (by intros; exfalso; omega) (by intros; exfalso; omega) ?_ ?_ ?_
    · intro c1 c2 c3
      refine ⟨⟨by omega, by omega⟩, fun h1 g1 g2 => ?_⟩
      have e := me_nil g2
      subst e
      refine mt_kpcF hS of oa oj ?_
      intro h2 r1 r2 r3 r4
      exact Or.inr ⟨rfl, rfl, r1, r4, r2, r3⟩
    · intro c1 c2 c3 c4
      rw [f3] at c3
      exfalso; omega
    · intro c1 c2 c3 c4
      rw [f3] at c3
      exfalso; omega
  | succ M ih =>
    intro j h1 oa
    have oj : mi_in (j : Int) := ⟨by omega, by omega⟩
    obtain ⟨⟨p1, p2⟩, p3, p4, -⟩ := f5 j (by omega)
    have es := wk_alt_succ g j (g 129 F.toNat)
    have oa2 : mi_in (wk_alt g (j + 1) (g 129 F.toNat)) := by
      rw [es, ← p4]
      exact mi_inT _
    have key := ih (j + 1) (by omega) oa2
    rw [es] at key
    have hdj := hd j (by omega) (mi_f h 13577)
    generalize wk_alt g j (g 129 F.toNat) = a at p1 p2 p4 oa key hdj ⊢
    rw [pm_dr_s]
    refine mt_kpcB hS of oa oj (by intros; exfalso; omega) (by intros; exfalso; omega) (by intros; exfalso; omega) (by intros; exfalso; omega) (by intros; exfalso; omega) (by intros; exfalso; omega) ?_ ?_ ?_
    · intro c1 c2 c3
      rw [f3] at c3
      exfalso; omega
    · intro c1 c2 c3 c4
      exfalso; omega
    · intro c1 c2 c3 c4
      refine ⟨⟨by omega, by omega⟩, fun h2 g1 g2 => ?_⟩
      have e := me_nil g2
      subst e
      refine mt_kpcC hS of oa oj (by intros; exfalso; omega) (by intros; exfalso; omega) ?_
      intro c5 c6
      refine ⟨⟨by omega, by omega⟩, fun h3 g3 g4 => ?_⟩
      have e := me_nil g4
      subst e
      refine ⟨_, me_pnext hS, fun w h4 hw hq => ?_⟩
      obtain ⟨rfl, rfl⟩ := hq
      rw [hdj, hK]
      by_cases cb : E.2.2.2 F a (pm_K E s) = true
      · rw [if_pos cb, if_pos cb]
        refine mt_kpcD hS of oa oj ⟨by decide, by decide⟩ (by intro c; exact absurd c (by decide)) ?_
        intro c h5 r1 r2
        exact Or.inl ⟨(j : Int), rfl, me_nil r2, rfl⟩
      · rw [if_neg cb, if_neg cb]
        refine mt_kpcD hS of oa oj ⟨by decide, by decide⟩ ?_ (by intro c; exact absurd rfl c)
        intro c h5 r1 r2
        have e := me_nil r2
        subst e
        refine mt_kpcE hS of oa oj (by intros; exfalso; omega) (by intros; exfalso; omega) ?_
        intro c7 c8
        refine ⟨⟨⟨by omega, by omega⟩, by omega, by omega⟩, fun h6 k1 k2 => ?_⟩
        have e := me_nil k2
        subst e
        rw [p4]
        exact key
/-- which alternative comes -/
theorem me_pchosen (hS : ab_Sh sx_sk h) (hF : cg_F f it g h F) (h1 : 1 ≤ g 130 F.toNat) (hd : ∀ j : Nat, (j : Int) < g 130 F.toNat → ∀ k, pq_bit (mx_b h 88 (wk_alt g j (g 129 F.toNat)).toNat) k = E.2.2.2 F (wk_alt g j (g 129 F.toNat)) k) (hK : mi_f h 13577 = pm_K E s) : me_E (d + 2) 124 0 [some (.inr (.inr 106)), some (.inl (f F)), none, none] [] h (fun w h' => (∃ n, pm_w g E F s = some n ∧ h' = h ∧ w = some (.inl n)) ∨ (pm_w g E F s = none ∧ w = some (.inl 0) ∧ ab_Sh sx_sk h' ∧ ab_Fr [(13571, 13572), (13579, 13580)] h h' ∧ mi_f h' 13571 = 1 ∧ mi_f h' 13579 = mi_f h 13576)) := by
  obtain ⟨⟨f0, f1⟩, f2, f3, f4, f5⟩ := id hF
  have of : mi_in (f F) := ⟨by omega, by omega⟩
  refine mt_kpcA hS of (by intros; exfalso; omega) (by intros; exfalso; omega) ?_
  intro c1 c2
  refine ⟨⟨by omega, by omega⟩, fun h1' g1 g2 => ?_⟩
  have e3 := me_nil g2
  subst e3
  rw [f2]
  have o9 : mi_in (wk_alt g 0 (g 129 F.toNat)) := by
    show mi_in (g 129 F.toNat)
    rw [← f2]
    exact mi_inT _
  exact pc14 hS hF hd hK (g 130 F.toNat).toNat 0 (by omega) o9
/-- whether it goes on -/
theorem me_pgoes {zp zt : Int} {n : Nat} (hS : ab_Sh sx_sk h) (p0 : 0 ≤ zp) (p1 : zp < 60) (hn : n < 100) (t0 : 0 ≤ zt) (t1 : zt ≤ 200) (hd : pq_bit (mx_b h 90 zp.toNat) (mi_f h 13577) = pm_h E zp s) : me_E (d + 2) 144 0 [some (.inr (.inr 106)), some (.inl zp), some (.inl (n : Int)), some (.inl zt), none] [] h (fun w h' => (pm_h E zp s = true ∧ w = some (.inl 1) ∧ ab_Sh sx_sk h' ∧ ab_Fr [(13312, 13313)] h h' ∧ ∀ i, mi_a h' 104 i = if i = n then zt + 1 else mi_a h 104 i) ∨ (¬ pm_h E zp s = true ∧ w = some (.inl 0) ∧ h' = h)) := by
  have op : mi_in zp := ⟨by omega, by omega⟩
  have on : mi_in (n : Int) := ⟨by omega, by omega⟩
  have ot : mi_in zt := ⟨by omega, by omega⟩
  refine mt_kpgA hS op on ot (by intros; exfalso; omega) (by intros; exfalso; omega) ?_
  intro c1 c2
  refine ⟨⟨by omega, by omega⟩, fun h1 g1 g2 => ?_⟩
  have e := me_nil g2
  subst e
  refine ⟨_, me_pnext hS, fun w h2 hw hq => ?_⟩
  obtain ⟨rfl, rfl⟩ := hq
  rw [hd]
  by_cases cb : pm_h E zp s = true
  · rw [if_pos cb]
    refine mt_kpgB hS op on ot ⟨by decide, by decide⟩ (by intro c; exact absurd c (by decide)) (by intros; exfalso; omega) (by intros; exfalso; omega) ?_
    intro c3 c4 c5
    refine ⟨⟨⟨by omega, by omega⟩, by omega, by omega⟩, fun h3 r1 r2 r3 => Or.inl ⟨cb, rfl, r1, r3, ?_⟩⟩
    rw [Int.toNat_natCast] at r2
    exact r2
  · rw [if_neg cb]
    refine mt_kpgB hS op on ot ⟨by decide, by decide⟩ ?_ (by intro c; exact absurd rfl c) (by intro c; exact absurd rfl c) (by intro c; exact absurd rfl c)
    intro c
    exact ⟨Or.inl rfl, fun h3 r1 r2 => Or.inr ⟨cb, rfl, me_nil r2⟩⟩
end PQ2
/-! the class's parsing walk: what has no form -/
theorem px_mod32 {X Y : Int32} (x0 : 0 ≤ X.toInt) (y0 : 0 < Y.toInt) : (X - X / Y * Y).toInt = X.toInt % Y.toInt := by
  have x1 : X.toInt < 2147483648 := X.toInt_lt
  have q0 : 0 ≤ X.toInt / Y.toInt := Int.ediv_nonneg x0 (by omega)
  have q1 : X.toInt / Y.toInt ≤ X.toInt := Int.ediv_le_self _ x0
  have p0 : 0 ≤ X.toInt / Y.toInt * Y.toInt := Int.mul_nonneg q0 (by omega)
  have p1 : X.toInt / Y.toInt * Y.toInt ≤ X.toInt := Int.ediv_mul_le _ (by omega)
  have e1 : (X / Y).toInt = X.toInt / Y.toInt := by
    rw [Int32.toInt_div, Int.tdiv_eq_ediv_of_nonneg x0]
    exact Int.bmod_eq_of_le (by omega) (by omega)
  have e2 : (X / Y * Y).toInt = X.toInt / Y.toInt * Y.toInt := by
    rw [Int32.toInt_mul, e1]
    exact Int.bmod_eq_of_le (by omega) (by omega)
  rw [Int32.toInt_sub, e2, Int.bmod_eq_of_le (by omega) (by omega), Int.emod_def, Int.mul_comm]
theorem pq_bit0 {k : Int} : pq_bit (Int64.ofNat 0) k = false := by
  have e : ∀ n : UInt64, (((Int64.ofNat 0).toUInt64 >>> n).toInt64) &&& (Int64.ofNat 1) = Int64.ofNat 0 := by
    intro n
    have e1 : (Int64.ofNat 0).toUInt64 >>> n = 0 := by
      show (0 : UInt64) >>> n = 0
      exact UInt64.zero_shiftRight
    rw [e1]
    decide
  unfold pq_bit
  rw [e, decide_eq_false_iff_not]
  exact fun z => z.2 (by decide)
theorem gx_cmpe {x y : Int64} (hne : x ≠ y) (h : (lg_cmp x y).toInt = 0) : False := by
  unfold lg_cmp at h
  split at h
  · exact absurd h (by decide)
  · first
    | exact absurd h (by decide)
    | (rw [if_neg hne] at h; exact absurd h (by decide))
theorem lg_0 : (lg_cmp (Int64.ofNat 0) (Int64.ofNat 0)).toInt = 0 := by decide
/-- values that are numbers or names -/
def pq_V (E : pm_E) (N : Int) : Prop := ∀ j, 0 ≤ j → j ≤ N → E.1 j < 64 ∧ ((E.1 j = 1 ∨ E.1 j = 2) → 0 ≤ E.2.1 j ∧ E.2.1 j < 1073741824)
section PQ3
variable {E : pm_E} {p : Int → Int} {N : Int} {h h0 : sm_H} {s : gm_S} {d : Nat} {f : Int → Int} {it : Int → Prop} {g : wk_g} {Y : wk_Y} {kw : Int → Bool}
theorem me_pleaf {zp u : Int} (hTok : pq_tok E p N h0) (hEN : E.1 N = 0) (hV : pq_V E N) (hx : tx_h h h0) (hi : pq_in E p N h u s) (hG : cg_G f it g Y kw h) (hC : cs_G E g Y h) (p0 : 0 ≤ zp) (p1 : zp < wk_u Y) (n9 : g 119 zp.toNat ≠ 9) (n10 : g 119 zp.toNat ≠ 10) : me_E (d + 12) 135 0 [some (.inr (.inr 106)), some (.inl zp), none, none] [] h (pq_Q E p N g h u (fun r => pm_sg 0 g E zp r s) s) := by
  obtain ⟨hS, i1, i2, i3, i4, hR⟩ := id hi
  obtain ⟨rT, rl, ⟨k0, k1, k2, k3, k4⟩, rk⟩ := id hR
  have hu60 := hG.1.1
  have op : mi_in zp := ⟨by omega, by omega⟩
  have hb := hC.1 zp p0 p1 (mi_f h 13577)
  have hc := hC.2.2 zp p0 p1
  have k64 : pm_K E s < 64 := (hV _ k0 k1).1
  have b76 := me_fb (c := 13576) hS rfl
  have eK : mi_f h 13577 = pm_K E s := k2
  rw [eK] at hb
  have eM : (fun r => pm_sg 0 g E zp r s) = fun r => (pm_lf E (g 119 zp.toNat) (g 120 zp.toNat) s).map (fun t => (r, t)) := funext fun r => pm_sg_lf n9 n10
  rw [eM]
  -- a token of a kind is not the end
  have nN : 1 ≤ pm_K E s → gm_F s + 1 ≤ N := fun q => by
    rcases Int.lt_or_eq_of_le k1 with e | e
    · omega
    · unfold pm_K at q
      rw [e, hEN] at q
      omega
  refine mt_kpfA hS op (by intros; exfalso; omega) (by intros; exfalso; omega) (by intros; exfalso; omega) (by intros; exfalso; omega) ?_ ?_
  · intro c1 c2 c3
    -- it has a token
    have hs : g 119 zp.toNat = 1 ∨ g 119 zp.toNat = 2 ∨ g 119 zp.toNat = 8 := by
      by_cases q1 : g 119 zp.toNat = 1
      · exact Or.inl q1
      · by_cases q2 : g 119 zp.toNat = 2
        · exact Or.inr (Or.inl q2)
        · by_cases q8 : g 119 zp.toNat = 8
          · exact Or.inr (Or.inr q8)
          · exfalso
            have := hc.2.2.2 q1 q2 q8 n9 n10
            rw [this] at c3
            exact c3 lg_0
    refine ⟨⟨by omega, by omega⟩, fun h1 g1 g2 => ?_⟩
    have e := me_nil g2
    subst e
    refine mt_kpfB hS op ?_
    intro h2 g3 g4
    have e := me_nil g4
    subst e
    refine ⟨_, me_pnext hS, fun w h3 hw hq => ?_⟩
    obtain ⟨rfl, rfl⟩ := hq
    rw [eK, hb]
    have hb2 : pm_h E zp s = E.2.2.1 zp (pm_K E s) := rfl
    by_cases cb : E.2.2.1 zp (pm_K E s) = true
    · rw [if_pos cb]
      -- behind the node, if there is one
      have go87 : ∀ (h4 : sm_H) (t : gm_S), pm_lf E (g 119 zp.toNat) (g 120 zp.toNat) s = some (pm_nx t) → 1 ≤ pm_K E s → gm_F t = gm_F s → gm_D t = gm_D s → ab_Sh sx_sk h4 → ab_Fr pq_en h3 h4 → mi_f h4 13571 = 0 → mi_f h4 13572 = 0 → gq_T h4 (gm_T t) → gm_len t ≤ 100 → pq_A h3 s (gm_D s) h4 t → me_E (d + 12) 135 87 [some (.inr (.inr 106)), some (.inl zp), some (.inr (.inl (mx_b h3 90 zp.toNat))), none] [] h4 (pq_Q E p N g h3 u (fun r => (pm_lf E (g 119 zp.toNat) (g 120 zp.toNat) s).map (fun t => (r, t))) s) := by
        intro h4 t el kp eF eD s4 f4 z1 z2 hT hl hA
        refine mt_kpfF s4 op (by intros; exfalso; omega) ?_
        intro b c h5 r1 r2
        have e := me_nil r2
        subst e
        have f75 : mi_f h5 13575 = p (gm_F s + 1) := (me_f (c := 13575) f4 hS rfl rfl).trans k4
        refine ⟨_, hTok (d + 3) h5 (gm_F s + 1) s4 (tx_h_fr hx f4 hS rfl rfl rfl rfl) (by omega) (nN kp) f75, fun w h6 hw hq => ?_⟩
        obtain ⟨rfl, q1, q2, q3, q4, q5, q6⟩ := hq
        refine mt_kpfG q1 op ?_
        intro h7 v1 v2
        have e := me_nil v2
        subst e
        obtain ⟨y1, y2, y3, y4⟩ := pm_nx_e (s := t)
        have F7 : ab_Fr pq_W h3 h7 := (f4.wide (fun c hc => ab_swr_ok (by decide) hc)).trans (q2.wide (fun c hc => ab_swr_ok (by decide) hc))
        have u3 : mi_f h7 13573 = u := ((me_f (c := 13573) q2 s4 rfl rfl).trans (me_f (c := 13573) f4 hS rfl rfl)).trans i3
        refine ⟨rfl, q1, F7, u3, ?_⟩
        rcases q6 with ⟨w1, w2, w3⟩ | ⟨w1, w2, w3⟩
        · refine Or.inl ⟨⟨w2, Or.inr w3⟩, fun r _ => ?_⟩
          dsimp only
          rw [el]
          exact pNO_bad (r := r) (s := pm_nx t) pRO_refl (by unfold pm_K; rw [y1, eF]; exact w1)
        · refine Or.inr ⟨w2.trans z1, (me_f (c := 13572) q2 s4 rfl rfl).trans z2, (w3.trans (me_f (c := 13579) f4 hS rfl rfl)).trans i4, pm_nx t, ⟨?_, ?_, ?_, ?_⟩, y3.trans eD, pq_A_h hA y4 y2 (fun k _ => me_a (k := 105) q2 s4 rfl rfl), fun r _ => ?_⟩
          · rw [y2]
            exact gq_T_fr hT q2 s4 rfl
          · unfold gm_len at hl ⊢
            rw [y2]
            exact hl
          · rw [y1, eF]
            exact ⟨by omega, nN kp, q3, q4, q5⟩
          · unfold pm_K
            rw [y1, eF]
            exact w1
          · dsimp only
            rw [el]
            exact pRO_refl
      -- a node comes
      have node : ∀ (kd v : Int), (0 ≤ kd ∧ kd < 10) → mi_in v → pm_lf E (g 119 zp.toNat) (g 120 zp.toNat) s = (gm_c kd v s).map pm_nx → 1 ≤ pm_K E s → ∃ Q1, me_E (d + 11) 116 0 [some (.inr (.inr 106)), some (.inl kd), some (.inl v), none] [] h3 Q1 ∧ ∀ (w : Option mi_V) (h4 : sm_H), Q1 w h4 → (∃ z, w = some (.inl z)) ∧ ab_Sh sx_sk h4 ∧ me_E (d + 12) 135 87 [some (.inr (.inr 106)), some (.inl zp), some (.inr (.inl (mx_b h3 90 zp.toNat))), none] [] h4 (pq_Q E p N g h3 u (fun r => (pm_lf E (g 119 zp.toNat) (g 120 zp.toNat) s).map (fun t => (r, t))) s) := by
        intro kd v ok ov el kp
        refine ⟨_, me_penter (d := d + 9) hS ok ov i1 i2 hR, fun w h4 hq => ?_⟩
        obtain ⟨q1, q2, q3⟩ := hq
        rcases q3 with ⟨e1, rfl, e3, e4⟩ | ⟨t, e1, rfl, e3, e4, e5, e6⟩
        · refine ⟨⟨_, rfl⟩, q1, ?_⟩
          refine mt_kpfF q1 op ?_ (by intros; exfalso; omega)
          intro b c h5 r1 r2
          have e := me_nil r2
          subst e
          refine ⟨rfl, q1, q2.wide (fun c hc => ab_swr_ok (by decide) hc), (me_f (c := 13573) q2 hS rfl rfl).trans i3, Or.inl ⟨⟨e3, Or.inl e4⟩, fun r _ => pNO_none ?_⟩⟩
          dsimp only
          rw [el, e1]
          rfl
        · obtain ⟨-, t2, t3, t4, t5⟩ := gm_c_t e1
          have ln : (gm_T t).length = (gm_T s).length + 1 := by rw [t3, List.length_append]; rfl
          refine ⟨⟨_, rfl⟩, q1, go87 h4 t (by rw [el, e1]; rfl) kp t2 t4 q1 q2 e3 e4 e5.1 e5.2.1 ⟨t5, [(kd + 10 * ((gm_T s).length : Int), v, gm_D s)], t3, fo_one, ?_, fun k hk => ?_⟩⟩
          · refine gz_cons fo_nil gz_nil ?_
            rw [e6, if_pos rfl]
            rfl
          · rw [e6, if_neg (by omega)]
      refine mt_kpfB2 hS op ⟨by decide, by decide⟩ ?_ (by intro c; exact absurd c (by decide))
      intro c4 h4 r1 r2
      have e := me_nil r2
      subst e
      refine mt_kpfC hS op ?_ ?_ (by intros; exfalso; omega) (by intros; exfalso; omega) ?_
      · -- a literal
        intro b c5 c6 h5 r3 r4
        have e := me_nil r4
        subst e
        rw [eK] at c5 c6
        have h8 : g 119 zp.toNat = 8 := by
          rcases hs with q | q | q
          · exact absurd (((hc.1 q).1 _ k64).mp cb) c5
          · exact absurd ((hc.2.1 q _ k64).mp cb) c6
          · exact q
        obtain ⟨w0, w1⟩ := hc.2.2.1 h8
        have ek := (w1 _ k64).mp cb
        refine go87 h5 s ?_ (by omega) rfl rfl hS ab_Fr.refl i1 i2 rT rl pq_A_refl
        unfold pm_lf
        rw [if_neg (by omega), if_neg (by omega), if_pos h8, if_pos ⟨w0, ek⟩]
      · -- a name
        intro b c5 c6 h5 r3 r4
        have e := me_nil r4
        subst e
        rw [eK] at c5 c6
        have h2 : g 119 zp.toNat = 2 := by
          rcases hs with q | q | q
          · exact absurd (((hc.1 q).1 _ k64).mp cb) c5
          · exact q
          · have := ((hc.2.2.1 q).2 _ k64).mp cb
            have := (hc.2.2.1 q).1
            exfalso; omega
        have ev : mi_f h5 13578 = pm_V E s := k3 (Or.inr c6)
        obtain ⟨Q1, m1, m2⟩ := node 3 (mi_f h5 13578) ⟨by decide, by decide⟩ (mi_inT _) (by
          unfold pm_lf
          rw [if_neg (by omega), if_pos h2, if_pos c6, ev]) (by omega)
        refine ⟨Q1, m1, fun w h6 hw hq => ?_⟩
        obtain ⟨⟨z, rfl⟩, v1, v2⟩ := m2 w h6 hq
        refine mt_kpfE v1 op (hw _ rfl) ?_
        intro h7 x1 x2
        have e := me_nil x2
        subst e
        exact v2
      · -- a number
        intro b b2 c5 c6 c7
        rw [eK] at c5
        have h1 : g 119 zp.toNat = 1 := by
          rcases hs with q | q | q
          · exact q
          · have := (hc.2.1 q _ k64).mp cb
            exfalso; omega
          · have := ((hc.2.2.1 q).2 _ k64).mp cb
            have := (hc.2.2.1 q).1
            exfalso; omega
        have ev : mi_f h4 13578 = pm_V E s := k3 (Or.inl c5)
        obtain ⟨v0, v1⟩ := (hV _ k0 k1).2 (Or.inl c5)
        have v0 : 0 ≤ pm_V E s := v0
        have v1 : pm_V E s < 1073741824 := v1
        obtain ⟨-, w0, w1, w2⟩ := hc.1 h1
        have o1 : mi_in (mi_f h4 13578 + mi_a h4 69 (Int.toNat zp)) := ⟨by omega, by omega⟩
        refine ⟨⟨⟨by omega, by omega⟩, by omega, by omega⟩, fun h5 r3 r4 => ?_⟩
        have e := me_nil r4
        subst e
        have ex : (Int32.ofInt (mi_f h5 13578 + mi_a h5 69 (Int.toNat zp))).toInt = mi_f h5 13578 + mi_a h5 69 (Int.toNat zp) := mi_ti o1
        have e10 : (Int32.ofInt (10000 : Int)).toInt = 10000 := by decide
        have evv : (Int32.ofInt (mi_f h5 13578 + mi_a h5 69 (Int.toNat zp)) - Int32.ofInt (mi_f h5 13578 + mi_a h5 69 (Int.toNat zp)) / Int32.ofInt (10000 : Int) * Int32.ofInt (10000 : Int)).toInt = (pm_V E s + g 120 zp.toNat) % 10000 := by
          rw [px_mod32 (by rw [ex]; omega) (by rw [e10]; decide), ex, e10, ev, w0]
        rw [evv]
        have m0 : 0 ≤ (pm_V E s + g 120 zp.toNat) % 10000 := Int.emod_nonneg _ (by decide)
        have m9 : (pm_V E s + g 120 zp.toNat) % 10000 < 10000 := Int.emod_lt_of_pos _ (by decide)
        obtain ⟨Q1, m1, m2⟩ := node 2 ((pm_V E s + g 120 zp.toNat) % 10000) ⟨by decide, by decide⟩ ⟨by omega, by omega⟩ (by
          unfold pm_lf
          rw [if_pos h1, if_pos c5]) (by omega)
        refine ⟨Q1, m1, fun w h6 hw hq => ?_⟩
        obtain ⟨⟨z, rfl⟩, v1, v2⟩ := m2 w h6 hq
        refine mt_kpfD v1 op (hw _ rfl) ?_
        intro h7 x1 x2
        have e := me_nil x2
        subst e
        exact v2
    · rw [if_neg cb]
      refine mt_kpfB2 hS op ⟨by decide, by decide⟩ (by intro c; exact absurd rfl c) ?_
      intro c4 h4 r1 r2 r3 r4
      refine ⟨rfl, r1, r4.wide (fun c hc => ab_swr_ok (by decide) hc), (me_f (c := 13573) r4 hS rfl rfl).trans i3, Or.inl ⟨⟨r2, Or.inr (by rw [r3]; exact b76.1)⟩, fun r _ => pNO_none ?_⟩⟩
      have el : pm_lf E (g 119 zp.toNat) (g 120 zp.toNat) s = none := by
        unfold pm_lf
        rcases hs with q | q | q
        · rw [if_pos q, if_neg (fun z => cb (((hc.1 q).1 _ k64).mpr z))]
        · rw [if_neg (by omega), if_pos q, if_neg (fun z => cb ((hc.2.1 q _ k64).mpr z))]
        · rw [if_neg (by omega), if_neg (by omega), if_pos q, if_neg (fun z => cb (((hc.2.2.1 q).2 _ k64).mpr z.2))]
      dsimp only
      rw [el]
      rfl
  · intro c1 c2 c3
    have hx0 : mx_b h 90 zp.toNat = Int64.ofNat 0 := by
      by_cases q : mx_b h 90 zp.toNat = Int64.ofNat 0
      · exact q
      · exfalso
        exact gx_cmpe q c3
    have none_ : ∀ k, ¬ E.2.2.1 zp k = true := fun k q => by
      have := hC.1 zp p0 p1 k
      rw [hx0, pq_bit0] at this
      rw [← this] at q
      cases q
    refine ⟨⟨by omega, by omega⟩, fun h1 g1 g2 => ?_⟩
    have e := me_nil g2
    subst e
    have el : pm_lf E (g 119 zp.toNat) (g 120 zp.toNat) s = some s := pm_lf_o (fun q => none_ 1 (((hc.1 q).1 1 (by decide)).mpr rfl)) (fun q => none_ 2 ((hc.2.1 q 2 (by decide)).mpr rfl)) (fun q => none_ _ (((hc.2.2.1 q).2 _ (by have := (hG.1.2.2.1 zp p0 p1).2.2.2.2.2 q; omega)).mpr rfl))
    rw [el]
    exact ⟨rfl, hS, ab_Fr.refl, i3, Or.inr ⟨i1, i2, i4, s, hR, rfl, pq_A_refl, fun r _ => pRO_refl⟩⟩
end PQ3
/-! the class's parsing walk does the turns of the pure one: a use, a part -/
/-- rows, sets, text -/
def pq_H (E : pm_E) (h0 : sm_H) (f : Int → Int) (it : Int → Prop) (g : wk_g) (Y : wk_Y) (kw : Int → Bool) (h : sm_H) : Prop := cg_G f it g Y kw h ∧ cs_G E g Y h ∧ tx_h h h0
def ph_w (wr : List (Nat × Nat)) : Bool := cg_w wr && !cs_w wr && !ab_in wr 6913 && !ab_in wr 7040 && !ab_in wr 7698 && !ab_in wr 9600
section PW3
variable {E : pm_E} {p : Int → Int} {N : Int} {h0 : sm_H} {f : Int → Int} {it : Int → Prop} {g : wk_g} {Y : wk_Y} {kw : Int → Bool} {d : Nat}
theorem pq_H_fr {h h' : sm_H} {wr : List (Nat × Nat)} (hH : pq_H E h0 f it g Y kw h) (hF : ab_Fr wr h h') (hS : ab_Sh sx_sk h) (hw : ph_w wr = true) : pq_H E h0 f it g Y kw h' := by
  unfold ph_w at hw
  simp only [Bool.and_eq_true, Bool.not_eq_true'] at hw
  obtain ⟨⟨⟨⟨⟨w1, w2⟩, w3⟩, w4⟩, w5⟩, w6⟩ := hw
  exact ⟨cg_G_fr hH.1 hF hS w1, cs_G_fr hH.2.1 hF hS w2, tx_h_fr hH.2.2 hF hS w3 w4 w5 w6⟩
/-- what is said of walkForm -/
def pq_F (E : pm_E) (p : Int → Int) (N : Int) (h0 : sm_H) (f : Int → Int) (it : Int → Prop) (g : wk_g) (Y : wk_Y) (kw : Int → Bool) (D : Nat) (zd : Int) : Prop := ∀ (h : sm_H) (s : gm_S) (u F : Int), pq_in E p N h u s → pq_H E h0 f it g Y kw h → 0 ≤ F → F < wk_f Y → 1 ≤ u → u ≤ 12 → zd ≤ 5 * (u - 1) + wk_d Y F → me_E D 120 0 [some (.inr (.inr 106)), some (.inl (f F)), some (.inl zd), none, none, none, none, none, none, none, none] [] h (pq_Q E p N g h u (fun r => pm_fo g E F r s) s)
theorem pq_F_deep {D D' : Nat} {zd : Int} (h : pq_F E p N h0 f it g Y kw D zd) (hd : D ≤ D') : pq_F E p N h0 f it g Y kw D' zd := fun h1 s u F a b c e k l m => (h h1 s u F a b c e k l m).deep hd
/-- once it has stopped -/
theorem me_pform0 {h : sm_H} {zf zd : Int} (hS : ab_Sh sx_sk h) (h1 : mi_f h 13571 = 1) (of : mi_in zf) (od : mi_in zd) : me_E (d + 12) 120 0 [some (.inr (.inr 106)), some (.inl zf), some (.inl zd), none, none, none, none, none, none, none, none] [] h (fun w h' => w = none ∧ ab_Sh sx_sk h' ∧ ab_Fr [(13571, 13572)] h h' ∧ mi_f h' 13571 = 1) := by
  refine mt_kpwA hS of od ?_ (by intros; exfalso; omega) (by intros; exfalso; omega) (by intros; exfalso; omega) (by intros; exfalso; omega) (by intros; exfalso; omega)
  intro b c h1' g1 g2 g3
  exact ⟨rfl, g1, g3, g2⟩
theorem pq_len {h : sm_H} {s : gm_S} (hR : pq_R E p N h s) : mi_f h 13056 = ((gm_T s).length : Int) ∧ (gm_T s).length ≤ 100 := ⟨hR.1.1, by have := hR.2.1; unfold gm_len at this; omega⟩
theorem me_puse {h : sm_H} {s : gm_S} {u i zd : Int} (hWF : pq_F E p N h0 f it g Y kw (d + 12) zd) (hi : pq_in E p N h u s) (hG : pq_H E h0 f it g Y kw h) (i0 : 0 ≤ i) (i1 : i < 10) (r0 : 0 ≤ g 114 i.toNat) (r1 : g 114 i.toNat < wk_f Y) (rf : f (g 114 i.toNat) = i) (u0 : 0 ≤ u) (z0 : -1 ≤ zd) (z1 : zd ≤ 5 * u) (z2 : zd ≤ 1000) : me_E (d + 13) 113 0 [some (.inr (.inr 106)), some (.inl i), some (.inl zd), none] [] h (pq_Q E p N g h u (fun r => pm_en 0 g i r s) s) := by
  obtain ⟨hS, j1, j2, j3, j4, hR⟩ := hi
  have oi : mi_in i := ⟨by omega, by omega⟩
  have od : mi_in zd := ⟨by omega, by omega⟩
  have hd0 := (hG.1.1.2.2.2 _ r0 r1).1
  refine mt_kpuA hS oi od ?_ ?_
  · intro b c1 h1 g1 g2
    have e := me_nil g2
    subst e
    refine ⟨_, me_penter (d := d + 10) hS ⟨by decide, by decide⟩ oi j1 j2 hR, ?_⟩
    intro w h2 hw hq
    obtain ⟨q1, q2, q3⟩ := hq
    have e01 : mi_f h2 13573 = u := (me_f (c := 13573) q2 hS rfl rfl).trans j3
    rcases q3 with ⟨q3, rfl, q4, q5⟩ | ⟨t, q3, rfl, q4, q5, q6, q7⟩
    · refine mt_kpuB q1 oi od ⟨by decide, by decide⟩ ?_
      intro b1
      refine ⟨⟨by omega, by omega⟩, fun h3 t1 t2 t4 => ?_⟩
      refine ⟨_, me_pform0 (d := d) t1 ((me_f (c := 13571) t4 q1 rfl rfl).trans q4) oi od, fun w h4 hw hq => ?_⟩
      obtain ⟨rfl, v1, v2, v3⟩ := hq
      have n01 : mi_f h4 13573 = u + 1 := by rw [me_f (c := 13573) v2 t1 rfl rfl, t2, e01]
      refine mt_kpuC v1 oi od ⟨by decide, by decide⟩ ?_
      intro b2
      refine ⟨⟨by omega, by omega⟩, fun h5 x1 x2 x3 => ⟨_, me_pleave0 (d := d + 10) x1 ⟨by decide, by decide⟩, fun w h6 hw hq => ?_⟩⟩
      obtain ⟨rfl, y1, y2⟩ := hq
      refine mt_kpuD y1 oi od ⟨by decide, by decide⟩ ?_
      intro h7 l1 l2
      have e := me_nil l2
      subst e
      have F7 : ab_Fr pq_W _ h7 := ((((q2.wide (fun c hc => ab_swr_ok (by decide) hc)).trans (t4.wide (fun c hc => ab_swr_ok (by decide) hc))).trans (v2.wide (fun c hc => ab_swr_ok (by decide) hc))).trans (x3.wide (fun c hc => ab_swr_ok (by decide) hc))).trans (y2.wide (fun c hc => ab_swr_ok (by decide) hc))
      refine ⟨rfl, y1, F7, by rw [me_f (c := 13573) y2 x1 rfl rfl, x2, n01]; omega, Or.inl ⟨⟨?_, Or.inl ?_⟩, fun r hr => pNO_none ?_⟩⟩
      · rw [me_f (c := 13571) y2 x1 rfl rfl, me_f (c := 13571) x3 v1 rfl rfl]
        exact v3
      · rw [me_f (c := 13572) y2 x1 rfl rfl, me_f (c := 13572) x3 v1 rfl rfl, me_f (c := 13572) v2 t1 rfl rfl, me_f (c := 13572) t4 q1 rfl rfl]
        exact q5
      · show pm_en 0 g i r s = none
        unfold pm_en
        rw [if_neg (by omega), q3]
        rfl
    · obtain ⟨-, t2', t3', t4', t5'⟩ := gm_c_t q3
      obtain ⟨dl, dF, dD, dP⟩ := gm_d_e (t := t)
      have dT : gm_T (gm_d t) = gm_T t := by unfold gm_d; rw [gm_T_mk]
      have ln : gm_len s = ((gm_T s).length : Int) := rfl
      have lt := (gm_c_len q3).1
      have on : mi_in (gm_len s) := ⟨by omega, by omega⟩
      refine mt_kpuB q1 oi od on ?_
      intro b1
      refine ⟨⟨by omega, by omega⟩, fun h3 t1 t2 t4 => ?_⟩
      have hR3 : pq_R E p N h3 (gm_d t) := pq_R_D (pq_R_fr q6 t4 q1 rfl rfl) dT dF
      have hG3 : pq_H E h0 f it g Y kw h3 := pq_H_fr (pq_H_fr hG q2 hS rfl) t4 q1 rfl
      have key := hWF h3 (gm_d t) (u + 1) (g 114 i.toNat) ⟨t1, (me_f (c := 13571) t4 q1 rfl rfl).trans q4, (me_f (c := 13572) t4 q1 rfl rfl).trans q5, by rw [t2, e01], ((me_f (c := 13579) t4 q1 rfl rfl).trans (me_f (c := 13579) q2 hS rfl rfl)).trans j4, hR3⟩ hG3 r0 r1 (by omega) (by omega) (by omega)
      rw [rf] at key
      have een : ∀ r, wk_ul r = u → pm_en 0 g i r s = some ((1, g 114 i.toNat, 0) :: (2, 1, 0) :: r, gm_d t) := fun r hr => by
        unfold pm_en
        rw [if_neg (by omega), q3]
        rfl
      have hul : ∀ r, wk_ul r = u → wk_ul ((2, 1, 0) :: r) = u + 1 := fun r hr => by rw [wk_ul_o, hr]; omega
      refine ⟨_, key, fun w h4 hw hq => ?_⟩
      obtain ⟨rfl, v1, v2, v01, v3⟩ := hq
      have Fa : ab_Fr pq_W _ h4 := ((q2.wide (fun c hc => ab_swr_ok (by decide) hc)).trans (t4.wide (fun c hc => ab_swr_ok (by decide) hc))).trans v2
      refine mt_kpuC v1 oi od on ?_
      intro b2
      refine ⟨⟨by omega, by omega⟩, fun h5 x1 x2 x3 => ?_⟩
      rcases v3 with ⟨v3, v5⟩ | ⟨v3, v4, v4', s3, v6, v7, v8, v10⟩
      · refine ⟨_, me_pleave0 (d := d + 10) x1 on, fun w h6 hw hq => ?_⟩
        obtain ⟨rfl, y1, y2⟩ := hq
        refine mt_kpuD y1 oi od on ?_
        intro h7 l1 l2
        have e := me_nil l2
        subst e
        refine ⟨rfl, y1, (Fa.trans (x3.wide (fun c hc => ab_swr_ok (by decide) hc))).trans (y2.wide (fun c hc => ab_swr_ok (by decide) hc)), by rw [me_f (c := 13573) y2 x1 rfl rfl, x2, v01]; omega, Or.inl ⟨pq_bad_fr (pq_bad_fr v3 x3 v1 rfl rfl rfl) y2 x1 rfl rfl rfl, fun r hr => ?_⟩⟩
        show pm_NO g E (pm_en 0 g i r s)
        rw [een r hr]
        exact pNO_step (e := (1, g 114 i.toNat, 0)) (r := (2, 1, 0) :: r) (s := gm_d t) pRO_refl (by rw [pm_st_1]; exact v5 _ (hul r hr))
      · have R5 : pq_R E p N h5 s3 := pq_R_fr v6 x3 v1 rfl rfl
        obtain ⟨c1', c2'⟩ := pq_len R5
        obtain ⟨-, B, a2, a3, a4, a5⟩ := id v8
        rw [dT, t3'] at a2 a4 a5
        rw [dD, t4'] at a3
        have eT3 : gm_T s3 = gm_T s ++ (1 + 10 * ((gm_T s).length : Int), i, gm_D s) :: B := by rw [a2, List.append_assoc]; rfl
        have lB : (gm_T s3).length = (gm_T s).length + 1 + B.length := by rw [eT3, List.length_append, List.length_cons]; omega
        have l1' : (gm_T s ++ [(1 + 10 * ((gm_T s).length : Int), i, gm_D s)]).length = (gm_T s).length + 1 := by rw [List.length_append]; rfl
        rw [l1'] at a4 a5
        refine ⟨_, by rw [ln]; exact me_pleave (d := d + 10) (n := (gm_T s).length) x1 (by omega) (by omega) (by omega), fun w h6 hw hq => ?_⟩
        obtain ⟨rfl, y1, y2, y3⟩ := hq
        refine mt_kpuD y1 oi od on ?_
        intro h7 l1 l2
        have e := me_nil l2
        subst e
        have f5 : ∀ k, mi_a h5 105 k = mi_a h4 105 k := fun k => me_a (k := 105) x3 v1 rfl rfl
        have f3 : ∀ k, mi_a h3 105 k = mi_a h2 105 k := fun k => me_a (k := 105) t4 q1 rfl rfl
        refine ⟨rfl, y1, (Fa.trans (x3.wide (fun c hc => ab_swr_ok (by decide) hc))).trans (y2.wide (fun c hc => ab_swr_ok (by decide) hc)), by rw [me_f (c := 13573) y2 x1 rfl rfl, x2, v01]; omega, Or.inr ⟨by rw [me_f (c := 13571) y2 x1 rfl rfl, me_f (c := 13571) x3 v1 rfl rfl]; exact v3, by rw [me_f (c := 13572) y2 x1 rfl rfl, me_f (c := 13572) x3 v1 rfl rfl]; exact v4, by rw [me_f (c := 13579) y2 x1 rfl rfl, me_f (c := 13579) x3 v1 rfl rfl]; exact v4', (gm_X s3, gm_F s3, gm_T s3, gm_D s3 - 1, gm_P s3), pq_R_D (pq_R_fr R5 y2 x1 rfl rfl) (gm_T_mk _ _ _ _ _) (gm_F_mk _ _ _ _ _), by rw [gm_D_mk, v7, dD, t4']; omega, ?_, fun r hr => ?_⟩⟩
        · refine pq_close (h := h5) (B := B) (by rw [gm_P_mk, v8.1, dP, t5']) (gm_T_mk _ _ _ _ _) eT3 a3 (gz_eq a4 (fun k _ _ => f5 k)) (fun k hk => ?_) (fun k => ?_)
          · rw [f5, a5 k (by omega), f3, q7, if_neg (by omega)]
          · rw [y3, c1', lB]
            by_cases ck : k = (gm_T s).length
            · rw [if_pos ck, if_pos ck]
              omega
            · rw [if_neg ck, if_neg ck]
        · show pm_RO g E (pm_en 0 g i r s) _
          rw [een r hr]
          exact pRO_step (e := (2, 1, 0)) (r := r) (s := s3) (pRO_step (e := (1, g 114 i.toNat, 0)) (r := (2, 1, 0) :: r) (s := gm_d t) pRO_refl (by rw [pm_st_1]; exact v10 _ (hul r hr))) (by rw [pm_st_2]; exact pRO_refl)
  · intro b c1 h1 g1 g2 g3 g4
    refine ⟨rfl, g1, g4.wide (fun c hc => ab_swr_ok (by decide) hc), (me_f (c := 13573) g4 hS rfl rfl).trans j3, Or.inl ⟨⟨g2, Or.inl g3⟩, fun r hr => pNO_none ?_⟩⟩
    show pm_en 0 g i r s = none
    unfold pm_en
    rw [if_pos (by omega)]
theorem me_ppart {h : sm_H} {s : gm_S} {u zp zd : Int} (hTok : pq_tok E p N h0) (hEN : E.1 N = 0) (hV : pq_V E N) (hWF : pq_F E p N h0 f it g Y kw (d + 12) (zd + 1)) (hi : pq_in E p N h u s) (hG : pq_H E h0 f it g Y kw h) (p0 : 0 ≤ zp) (p1 : zp < wk_u Y) (u0 : 1 ≤ u) (u1 : u ≤ 12) (z0 : 0 ≤ zd) (z1 : zd ≤ 5 * (u - 1) + wk_d Y (wk_c Y zp)) : me_E (d + 14) 132 0 [some (.inr (.inr 106)), some (.inl zp), some (.inl zd), none] [] h (pq_Q E p N g h u (fun r => pm_sg 0 g E zp r s) s) := by
  have hS := hi.1
  have hu60 := hG.1.1.1
  obtain ⟨e68, e9, e10, -⟩ := hG.1.2.2.1 zp p0 p1
  obtain ⟨⟨-, -, -, w1, w2⟩, -, -, l9, l10, -⟩ := hG.1.1.2.2.1 zp p0 p1
  have wd := (hG.1.1.2.2.2 _ w1 w2).2.1
  have op : mi_in zp := ⟨by omega, by omega⟩
  have od : mi_in zd := ⟨by omega, by omega⟩
  have o68 : mi_in (mi_a h 68 zp.toNat) := mi_inT _
  refine mt_kpzA hS op od (by intros; exfalso; omega) (by intros; exfalso; omega) ?_ ?_ ?_
  · intro c1 c2 c3 c4
    refine ⟨⟨by omega, by omega⟩, fun h1 g1 g2 => ?_⟩
    have e := me_nil g2
    subst e
    refine ⟨_, me_pleaf (d := d + 1) hTok hEN hV hG.2.2 hi hG.1 hG.2.1 p0 p1 (by rw [← e68]; exact c3) (by rw [← e68]; exact c4), fun w h2 hw hq => ?_⟩
    have e := hq.1
    subst e
    refine mt_kpzD hq.2.1 op od o68 ?_
    intro h3 r1 r2
    have e := me_nil r2
    subst e
    exact hq
  · intro c1 c2 c3 c4
    rw [e68] at c4
    obtain ⟨x1, x2, x3, x4⟩ := l10 c4
    have hf := cg_ok hG.1 x1 x2
    refine ⟨⟨⟨by omega, by omega⟩, by omega, by omega⟩, fun h1 g1 g2 => ?_⟩
    have e := me_nil g2
    subst e
    rw [e10 c4]
    refine ⟨_, (pq_F_deep hWF (by omega : d + 12 ≤ d + 13)) h1 s u (g 120 zp.toNat) hi hG x1 x2 u0 u1 (by omega), fun w h2 hw hq => ?_⟩
    have e := hq.1
    subst e
    refine mt_kpzC hq.2.1 op od o68 ?_
    intro h3 r1 r2
    have e := me_nil r2
    subst e
    have eM : ∀ r, pm_sg 0 g E zp r s = some ((1, g 120 zp.toNat, 0) :: r, s) := fun r => by
      unfold pm_sg
      rw [if_neg (by omega), if_pos c4]
    obtain ⟨-, q1, q2, q3, q4⟩ := hq
    refine ⟨rfl, q1, q2, q3, ?_⟩
    rcases q4 with ⟨q4, q6⟩ | ⟨q4, q5, q5', s3, q6, q7, q8, q9⟩
    · refine Or.inl ⟨q4, fun r hr => ?_⟩
      dsimp only
      rw [eM]
      exact pNO_step (e := (1, g 120 zp.toNat, 0)) (r := r) (s := s) pRO_refl (by rw [pm_st_1]; exact q6 r hr)
    · refine Or.inr ⟨q4, q5, q5', s3, q6, q7, q8, fun r hr => ?_⟩
      dsimp only
      rw [eM]
      exact pRO_step (e := (1, g 120 zp.toNat, 0)) (r := r) (s := s) pRO_refl (by rw [pm_st_1]; exact q9 r hr)
  · intro c1 c2 c3
    rw [e68] at c3
    obtain ⟨x1, x2, x3, x4, x5, x6, x7⟩ := l9 c3
    obtain ⟨y1, y2⟩ := e9 c3
    refine ⟨⟨⟨by omega, by omega⟩, by omega, by omega⟩, fun h1 g1 g2 => ?_⟩
    have e := me_nil g2
    subst e
    rw [y1]
    refine ⟨_, me_puse (d := d) hWF hi hG x3 x4 x5 x6 y2 (by omega) (by omega) (by omega) (by omega), fun w h2 hw hq => ?_⟩
    have e := hq.1
    subst e
    refine mt_kpzB hq.2.1 op od o68 ?_
    intro h3 r1 r2
    have e := me_nil r2
    subst e
    have eM2 : (fun r => pm_sg 0 g E zp r s) = fun r => pm_en 0 g (g 115 (g 120 zp.toNat).toNat) r s := funext fun r => by
      unfold pm_sg
      rw [if_pos c3]
    rw [eM2]
    exact hq
end PW3
/-! the class's parsing walk: a unit -/
theorem pm_up_pre {k v l : Int} {B : List (Int × Int × Int)} : ∀ T : List (Int × Int × Int), pm_up T.length (T ++ (k, v, l) :: B) = T ++ (k, v + 1, l) :: B := by
  intro T
  induction T with
  | nil => rfl
  | cons x T ih =>
    show x :: pm_up T.length (T ++ (k, v, l) :: B) = x :: (T ++ (k, v + 1, l) :: B)
    rw [ih]
/-- a value is written -/
theorem gq_T_up {h h' : sm_H} {T B : List (Int × Int × Int)} {k v v' l : Int} (hT : gq_T h (T ++ (k, v, l) :: B)) (e1 : mi_f h' 13056 = mi_f h 13056) (e2 : ∀ i, mi_a h' 103 i = mi_a h 103 i) (e3 : ∀ i, mi_a h' 104 i = if i = T.length then v' else mi_a h 104 i) : gq_T h' (T ++ (k, v', l) :: B) := by
  obtain ⟨t1, t2⟩ := hT
  have el : (T ++ (k, v', l) :: B).length = (T ++ (k, v, l) :: B).length := by rw [List.length_append, List.length_append]; rfl
  refine ⟨by rw [e1, t1, el], fun j hj => ?_⟩
  rw [el] at hj
  obtain ⟨m, q, hm, hb⟩ := t2 j hj
  rw [e2, e3]
  by_cases c : j = T.length
  · subst c
    rw [List.getElem?_append_right (Nat.le_refl _), Nat.sub_self] at hm
    have hm : some (k, v, l) = some (mi_a h 103 T.length + 10 * q, mi_a h 104 T.length, m) := hm
    injection hm with hm
    injection hm with m1 m2
    refine ⟨l, q, ?_, hb⟩
    rw [if_pos rfl, List.getElem?_append_right (Nat.le_refl _), Nat.sub_self, ← m1]
    rfl
  · refine ⟨m, q, ?_, hb⟩
    rw [if_neg c, ← hm]
    by_cases c2 : j < T.length
    · rw [List.getElem?_append_left c2, List.getElem?_append_left c2]
    · rw [List.getElem?_append_right (by omega), List.getElem?_append_right (by omega)]
      obtain ⟨i, hi⟩ : ∃ i, j - T.length = i + 1 := ⟨j - T.length - 1, by omega⟩
      rw [hi]
      rfl
section PW4
variable {E : pm_E} {p : Int → Int} {N : Int} {h0 : sm_H} {f : Int → Int} {it : Int → Prop} {g : wk_g} {Y : wk_Y} {kw : Int → Bool} {d : Nat} {pf pa : Int → Int → Bool}
/-- a part that was read took a token -/
theorem pm_RO_eat (hL : wk_L g Y) (hH : pm_Hs g Y E pf pa) {zp u : Int} {s s2 : gm_S} (p0 : 0 ≤ zp) (p1 : zp < wk_u Y) (hh : pm_h E zp s = true) (hM : ∀ r, wk_ul r = u → pm_RO g E (pm_sg 0 g E zp r s) (r, s2)) : gm_F s < gm_F s2 := by
  obtain ⟨c1, n, a1, a2⟩ := hM [(2, u, 0)] (by rw [wk_ul_o]; show u + 0 = u; omega)
  rw [show ([(2, u, 0)] : List wk_E) = [] ++ [(2, u, 0)] from rfl, pm_sg_loc] at a1
  obtain ⟨c0, k1, k2⟩ := Option.map_eq_some_iff.mp a1
  subst k2
  rcases pw_split pm_loc n c0 a2 with ⟨B, t', i1, i2, -⟩ | ⟨n1, t1, i1, i2, i3⟩
  · injection i1 with i1 _
    have := congrArg List.length i1
    rw [List.length_append] at this
    have hB : B.length = 0 := by
      have h1 : ([(2, u, 0)] : List wk_E).length = 1 := rfl
      omega
    exact absurd (List.length_eq_zero_iff.mp hB) i2
  · have x := pm_eat_sg hL hH (pm_eat hL hH n1) (Nat.le_refl _) p0 p1 hh k1 i2
    have := pm_to_F _ _ i3
    dsimp only at this
    omega
/-- it is left -/
def pq_X (E : pm_E) (p : Int → Int) (N : Int) (g : wk_g) (h0 : sm_H) (u : Int) (M : List wk_E → Option gm_C) (s : gm_S) (h : sm_H) : Prop := ab_Sh sx_sk h ∧ ab_Fr pq_W h0 h ∧ mi_f h 13573 = u ∧ ((pq_bad h ∧ ∀ r, wk_ul r = u → pm_NO g E (M r)) ∨ (mi_f h 13571 = 0 ∧ mi_f h 13572 = 0 ∧ mi_f h 13579 = -1 ∧ ∃ se, pq_R E p N h se ∧ gm_D se = gm_D s + 1 ∧ gm_P se = gm_P s ∧ (∃ k v B, gm_T se = gm_T s ++ (k, v, gm_D s) :: B ∧ fo (gm_D s + 1) B ∧ gz h ((gm_T s).length + 1) B ∧ ∀ i, i < (gm_T s).length → mi_a h 105 i = mi_a h0 105 i) ∧ ∀ r, wk_ul r = u → pm_RO g E (M r) ((2, 0, 0) :: r, se)))
/-- a node is left, of what is known of it -/
theorem me_pleavex {hb h : sm_H} {u zo : Int} {M : List wk_E → Option gm_C} {s : gm_S} (oo : mi_in zo) (hz : mi_f h 13571 = 0 → zo = gm_len s) (hx : pq_X E p N g hb u M s h) : me_E (d + 2) 147 0 [some (.inr (.inr 106)), some (.inl zo)] [] h (fun w h' => pq_Q E p N g hb u M s w h') := by
  obtain ⟨hS, x2, x3, x4⟩ := hx
  rcases x4 with ⟨a, b⟩ | ⟨a, b, c, se, c1, c2, c3, ⟨k, v, B, c4, c5, c6, c7⟩, c8⟩
  · refine (me_pleave0 (d := d) hS oo).imp (fun w h' hq => ?_)
    obtain ⟨rfl, v1, v2⟩ := hq
    exact ⟨rfl, v1, x2.trans (v2.wide (fun c hc => ab_swr_ok (by decide) hc)), (me_f (c := 13573) v2 hS rfl rfl).trans x3, Or.inl ⟨pq_bad_fr a v2 hS rfl rfl rfl, b⟩⟩
  · have e := hz a
    subst e
    obtain ⟨l1, l2⟩ := pq_len c1
    have ln : gm_len s = ((gm_T s).length : Int) := rfl
    have lB : (gm_T se).length = (gm_T s).length + 1 + B.length := by rw [c4, List.length_append, List.length_cons]; omega
    rw [ln]
    refine (me_pleave (d := d) (n := (gm_T s).length) hS (by omega) (by omega) (by omega)).imp (fun w h' hq => ?_)
    obtain ⟨rfl, v1, v2, v3⟩ := hq
    refine ⟨rfl, v1, x2.trans (v2.wide (fun c hc => ab_swr_ok (by decide) hc)), (me_f (c := 13573) v2 hS rfl rfl).trans x3, Or.inr ⟨(me_f (c := 13571) v2 hS rfl rfl).trans a, (me_f (c := 13572) v2 hS rfl rfl).trans b, (me_f (c := 13579) v2 hS rfl rfl).trans c, (gm_X se, gm_F se, gm_T se, gm_D se - 1, gm_P se), pq_R_D (pq_R_fr c1 v2 hS rfl rfl) (gm_T_mk _ _ _ _ _) (gm_F_mk _ _ _ _ _), by rw [gm_D_mk]; omega, pq_close (h := h) (by rw [gm_P_mk, c3]) (gm_T_mk _ _ _ _ _) c4 c5 c6 c7 (fun i => ?_), fun r hr => pRO_step (e := (2, 0, 0)) (r := r) (s := se) (c8 r hr) (by rw [pm_st_2]; exact pRO_refl)⟩⟩
    rw [v3, l1, lB]
    by_cases ck : i = (gm_T s).length
    · rw [if_pos ck, if_pos ck]
      omega
    · rw [if_neg ck, if_neg ck]
theorem py98 {hb h : sm_H} {u zp zd zr zo zm zt : Int} {M : List wk_E → Option gm_C} {s : gm_S} (op : mi_in zp) (od : mi_in zd) (or_ : mi_in zr) (oo : mi_in zo) (om : mi_in zm) (ot : mi_in zt) (hz : mi_f h 13571 = 0 → zo = gm_len s) (hx : pq_X E p N g hb u M s h) : me_E (d + 15) 131 98 [some (.inr (.inr 106)), some (.inl zp), some (.inl zd), some (.inl zr), some (.inl zo), some (.inl zm), some (.inl zt)] [] h (pq_Q E p N g hb u M s) := by
  refine mt_kpyG hx.1 op od or_ oo om ot ?_
  intro h1 g1 g2
  have e := me_nil g2
  subst e
  refine ⟨_, me_pleavex (d := d + 12) oo hz hx, fun w h2 hw hq => ?_⟩
  have e := hq.1
  subst e
  refine mt_kpyH hq.2.1 op od or_ oo om ot ?_
  intro h3 r1 r2
  have e := me_nil r2
  subst e
  exact hq
/-- the turns of a many -/
theorem py60 {hb : sm_H} {s : gm_S} {u zp zd : Int} {M : List wk_E → Option gm_C} (hTok : pq_tok E p N h0) (hEN : E.1 N = 0) (hN : N ≤ 160) (hV : pq_V E N) (hH : pm_Hs g Y E pf pa) (hSb : ab_Sh sx_sk hb) (hWF : pq_F E p N h0 f it g Y kw (d + 12) (zd + 1)) (hGb : pq_H E h0 f it g Y kw hb) (p0 : 0 ≤ zp) (p1 : zp < wk_u Y) (u0 : 1 ≤ u) (u1 : u ≤ 12) (z0 : 0 ≤ zd) (z1 : zd ≤ 5 * (u - 1) + wk_d Y (wk_c Y zp)) (z2 : zd ≤ 1000) : ∀ (K : Nat) (zt : Int) (h : sm_H) (sj : gm_S), 161 - zt = K → 0 ≤ zt → zt ≤ gm_F sj → pq_in E p N h u sj → ab_Fr pq_W hb h → gm_D sj = gm_D s + 1 → gm_P sj = gm_P s → (∃ B, gm_T sj = gm_T s ++ (5 + 10 * ((gm_T s).length : Int), zt, gm_D s) :: B ∧ fo (gm_D s + 1) B ∧ gz h ((gm_T s).length + 1) B ∧ ∀ i, i < (gm_T s).length → mi_a h 105 i = mi_a hb 105 i) → (∀ r, wk_ul r = u → pm_RO g E (M r) ((5, zp, gm_len s) :: (2, 0, 0) :: r, sj)) → me_E (d + 15) 131 60 [some (.inr (.inr 106)), some (.inl zp), some (.inl zd), some (.inl (5 : Int)), some (.inl (gm_len s)), some (.inl (161 : Int)), some (.inl zt)] [] h (pq_Q E p N g hb u M s) := by
  have hu60 := hGb.1.1.1
  have op : mi_in zp := ⟨by omega, by omega⟩
  have od : mi_in zd := ⟨by omega, by omega⟩
  intro K
  induction K with
  | zero =>
    intro zt h sj hK t0 tF hi
    exfalso
    have := hi.2.2.2.2.2.2.2.1.2.1
    omega
  | succ K ih =>
    intro zt h sj hK t0 tF hi hF eD eP eT hM
    obtain ⟨B, eA, fB, zB, lo⟩ := eT
    obtain ⟨hS, i1, i2, i3, i4, hR⟩ := id hi
    have hFN := hR.2.2.1.2.1
    have ot : mi_in zt := ⟨by omega, by omega⟩
    have ln : gm_len s = ((gm_T s).length : Int) := rfl
    obtain ⟨l1, l2⟩ := pq_len hR
    have lB : (gm_T sj).length = (gm_T s).length + 1 + B.length := by rw [eA, List.length_append, List.length_cons]; omega
    have oo : mi_in (gm_len s) := ⟨by omega, by omega⟩
    have hG := pq_H_fr hGb hF hSb rfl
    refine mt_kpyE hS op od ⟨by decide, by decide⟩ oo ⟨by decide, by decide⟩ ot (by intros; exfalso; omega) (by intros; exfalso; omega) ?_
    intro b c1 c2 h1 g1 g2
    have e := me_nil g2
    subst e
    have hd : pq_bit (mx_b h1 90 zp.toNat) (mi_f h1 13577) = pm_h E zp sj := by
      rw [hG.2.1.1 zp p0 p1, hR.2.2.1.2.2.1]
      rfl
    refine ⟨_, by rw [ln]; exact me_pgoes (d := d + 12) (n := (gm_T s).length) hS p0 (by omega) (by omega) t0 (by omega) hd, fun w h2 hw hq => ?_⟩
    rcases hq with ⟨hh, rfl, q1, q2, q3⟩ | ⟨hh, rfl, rfl⟩
    · -- once more
      refine mt_kpyE2 q1 op od ⟨by decide, by decide⟩ oo ⟨by decide, by decide⟩ ot ⟨by decide, by decide⟩ (by intro c; exact absurd c (by decide)) ?_
      intro c3 h3 r1 r2
      have e := me_nil r2
      subst e
      obtain ⟨y1, y2, y3, y4⟩ := pm_inc_e (s := sj) (a := gm_len s)
      have et : (gm_len s).toNat = (gm_T s).length := by omega
      have eT1 : gm_T (pm_inc (gm_len s) sj) = gm_T s ++ (5 + 10 * ((gm_T s).length : Int), zt + 1, gm_D s) :: B := by rw [y2, et, eA, pm_up_pre]
      have hR3 : pq_R E p N h3 (pm_inc (gm_len s) sj) := by
        refine ⟨?_, ?_, ?_, ?_⟩
        · rw [eT1]
          have := hR.1
          rw [eA] at this
          exact gq_T_up this (me_f (c := 13056) q2 hS rfl rfl) (fun i => me_a (k := 103) q2 hS rfl rfl) q3
        · rw [pm_inc_len]
          exact hR.2.1
        · rw [y1]
          exact pq_K_fr hR.2.2.1 q2 hS rfl rfl rfl
        · rw [pm_K_of y1]
          exact hR.2.2.2
      have hin3 : pq_in E p N h3 u (pm_inc (gm_len s) sj) := ⟨q1, (me_f (c := 13571) q2 hS rfl rfl).trans i1, (me_f (c := 13572) q2 hS rfl rfl).trans i2, (me_f (c := 13573) q2 hS rfl rfl).trans i3, (me_f (c := 13579) q2 hS rfl rfl).trans i4, hR3⟩
      have F3 : ab_Fr pq_W hb h3 := hF.trans (q2.wide (fun c hc => ab_swr_ok (by decide) hc))
      refine ⟨_, me_ppart (d := d) hTok hEN hV hWF hin3 (pq_H_fr hG q2 hS rfl) p0 p1 u0 u1 z0 z1, fun w h4 hw hq => ?_⟩
      obtain ⟨rfl, v1, v2, v3, v4⟩ := hq
      have hst : ∀ r, pm_st g E 0 (5, zp, gm_len s) ((2, 0, 0) :: r) sj = pm_sg 0 g E zp ((5, zp, gm_len s) :: (2, 0, 0) :: r) (pm_inc (gm_len s) sj) := fun r => by
        rw [pm_st_5]
        unfold pm_ag
        rw [if_pos hh]
      have hul : ∀ r, wk_ul r = u → wk_ul ((5, zp, gm_len s) :: (2, 0, 0) :: r) = u := fun r hr => by rw [wk_ul_c (by decide), wk_ul_o, hr, Int.zero_add]
      refine mt_kpyF v1 op od ⟨by decide, by decide⟩ oo ⟨by decide, by decide⟩ ot ?_
      refine ⟨⟨by omega, by omega⟩, fun h5 x1 x2 => ?_⟩
      have e := me_nil x2
      subst e
      rcases v4 with ⟨v4, v6⟩ | ⟨v4, v5, v5', s2, v6, v7, v8, v9⟩
      · have hx : pq_X E p N g hb u M s h5 := ⟨v1, F3.trans v2, v3, Or.inl ⟨v4, fun r hr => pNO_step (e := (5, zp, gm_len s)) (r := (2, 0, 0) :: r) (s := sj) (hM r hr) (by rw [hst]; exact v6 _ (hul r hr))⟩⟩
        have s1 := v4.1
        refine mt_kpyE v1 op od ⟨by decide, by decide⟩ oo ⟨by decide, by decide⟩ ⟨by omega, by omega⟩ ?_ (by intros; exfalso; omega) (by intros; exfalso; omega)
        intro b c4 h6 k1 k2
        have e := me_nil k2
        subst e
        exact py98 op od ⟨by decide, by decide⟩ oo ⟨by decide, by decide⟩ ⟨by omega, by omega⟩ (fun _ => rfl) hx
      · have ea := pm_RO_eat hG.1.1 hH p0 p1 (by rw [pm_h_of y1]; exact hh) v9
        obtain ⟨vP, C, w2, w3, w4, w5⟩ := v8
        rw [eT1] at w2 w4 w5
        rw [y3, eD] at w3
        have l1' : (gm_T s ++ (5 + 10 * ((gm_T s).length : Int), zt + 1, gm_D s) :: B).length = (gm_T s).length + 1 + B.length := by rw [List.length_append, List.length_cons]; omega
        rw [l1'] at w4 w5
        have f3 : ∀ i, mi_a h3 105 i = mi_a h1 105 i := fun i => me_a (k := 105) q2 hS rfl rfl
        refine ih (zt + 1) h5 s2 (by omega) (by omega) (by omega) ⟨v1, v4, v5, v3, v5', v6⟩ (F3.trans v2) (by rw [v7, y3, eD]) (by rw [vP, y4, eP]) ⟨B ++ C, by rw [w2, List.append_assoc]; rfl, fo_app fB w3, gz_app fB w3 (gz_eq zB (fun i i1 i2 => ?_)) w4, fun i hi2 => ?_⟩ (fun r hr => pRO_step (e := (5, zp, gm_len s)) (r := (2, 0, 0) :: r) (s := sj) (hM r hr) (by rw [hst]; exact v9 _ (hul r hr)))
        · rw [w5 i (by omega), f3]
        · rw [w5 i (by omega), f3]
          exact lo i hi2
    · -- no more
      refine mt_kpyE2 hS op od ⟨by decide, by decide⟩ oo ⟨by decide, by decide⟩ ot ⟨by decide, by decide⟩ ?_ (by intro c; exact absurd rfl c)
      intro c3 h3 r1 r2
      have e := me_nil r2
      subst e
      refine py98 op od ⟨by decide, by decide⟩ oo ⟨by decide, by decide⟩ ot (fun _ => rfl) ⟨hS, hF, i3, Or.inr ⟨i1, i2, i4, sj, hR, eD, eP, ⟨_, zt, B, eA, fB, zB, lo⟩, fun r hr => pRO_step (e := (5, zp, gm_len s)) (r := (2, 0, 0) :: r) (s := sj) (hM r hr) ?_⟩⟩
      rw [pm_st_5]
      unfold pm_ag
      rw [if_neg hh]
      exact pRO_refl
theorem me_punit0 {h : sm_H} {zp zd : Int} (hS : ab_Sh sx_sk h) (h1 : mi_f h 13571 = 1) (op : mi_in zp) (od : mi_in zd) : me_E (d + 15) 131 0 [some (.inr (.inr 106)), some (.inl zp), some (.inl zd), none, none, none, none] [] h (fun w h' => w = none ∧ h' = h) := by
  refine mt_kpyA hS op od (by intros; exfalso; omega) ?_ (by intros; exfalso; omega) ?_ (by intros; exfalso; omega) (by intros; exfalso; omega) ?_
  · intro b c1 c2 h2 g1 g2
    exact ⟨rfl, me_nil g2⟩
  · intro b c1 c2 c3 h2 g1 g2
    exact ⟨rfl, me_nil g2⟩
  · intro b c1 c2 c3
    exact ⟨⟨by omega, by omega⟩, fun h2 g1 g2 => ⟨rfl, me_nil g2⟩⟩
theorem me_punit {h : sm_H} {s : gm_S} {u zp zd : Int} (hTok : pq_tok E p N h0) (hEN : E.1 N = 0) (hN : N ≤ 160) (hV : pq_V E N) (hH : pm_Hs g Y E pf pa) (hWF : pq_F E p N h0 f it g Y kw (d + 12) (zd + 1)) (hi : pq_in E p N h u s) (hG : pq_H E h0 f it g Y kw h) (p0 : 0 ≤ zp) (p1 : zp < wk_u Y) (u0 : 1 ≤ u) (u1 : u ≤ 12) (z0 : 0 ≤ zd) (z1 : zd ≤ 5 * (u - 1) + wk_d Y (wk_c Y zp)) : me_E (d + 15) 131 0 [some (.inr (.inr 106)), some (.inl zp), some (.inl zd), none, none, none, none] [] h (pq_Q E p N g h u (fun r => pm_u 0 g E zp r s) s) := by
  obtain ⟨hS, i1, i2, i3, i4, hR⟩ := id hi
  have hu60 := hG.1.1.1
  obtain ⟨e68, -, -, e72, e122, -⟩ := hG.1.2.2.1 zp p0 p1
  obtain ⟨⟨-, -, -, w1, w2⟩, -⟩ := hG.1.1.2.2.1 zp p0 p1
  have wd := (hG.1.1.2.2.2 _ w1 w2).2.1
  have op : mi_in zp := ⟨by omega, by omega⟩
  have od : mi_in zd := ⟨by omega, by omega⟩
  have o72 : mi_in (mi_a h 72 zp.toNat) := mi_inT _
  refine mt_kpyA hS op od (by intros; exfalso; omega) (by intros; exfalso; omega) (by intros; exfalso; omega) (by intros; exfalso; omega) ?_ ?_ (by intros; exfalso; omega)
  · intro b c1 c2 c3 c4
    have n0 : ¬ g 122 zp.toNat = 0 := fun q => by rw [e72, if_pos q] at c4; exact c4 rfl
    rw [if_neg n0] at e72
    refine ⟨⟨by omega, by omega⟩, fun h1 g1 g2 => ?_⟩
    have e := me_nil g2
    subst e
    rw [e72] at o72 ⊢
    refine ⟨_, me_penter (d := d + 12) hS ⟨by omega, by omega⟩ ⟨by decide, by decide⟩ i1 i2 hR, fun w3 h4 hw3 hq3 => ?_⟩
    obtain ⟨t1, t2, t3⟩ := hq3
    have e01 : mi_f h4 13573 = u := (me_f (c := 13573) t2 hS rfl rfl).trans i3
    have F4 : ab_Fr pq_W h1 h4 := t2.wide (fun c hc => ab_swr_ok (by decide) hc)
    have ln : gm_len s = ((gm_T s).length : Int) := rfl
    have hl100 := hR.2.1
    have oo : mi_in (gm_len s) := ⟨by omega, by omega⟩
    -- the end, once it has stopped
    have stp : ∀ zo zm : Int, mi_in zo → mi_in zm → pq_X E p N g h1 u (fun r => pm_u 0 g E zp r s) s h4 → mi_f h4 13571 = 1 → me_E (d + 15) 131 60 [some (.inr (.inr 106)), some (.inl zp), some (.inl zd), some (.inl (g 122 zp.toNat + 4)), some (.inl zo), some (.inl zm), some (.inl (0 : Int))] [] h4 (pq_Q E p N g h1 u (fun r => pm_u 0 g E zp r s) s) := by
      intro zo zm oo' om' hx hs
      refine mt_kpyE t1 op od o72 oo' om' ⟨by decide, by decide⟩ ?_ (by intros; exfalso; omega) (by intros; exfalso; omega)
      intro b c1 h5 s1 s2
      have e := me_nil s2
      subst e
      exact py98 op od o72 oo' om' ⟨by decide, by decide⟩ (fun q => by omega) hx
    by_cases k1 : g 122 zp.toNat = 1
    · -- a many
      have e5 : g 122 zp.toNat + 4 = 5 := by omega
      rw [e5] at t3 o72 stp ⊢
      have eM : ∀ r, pm_u 0 g E zp r s = (gm_c 5 0 s).map (fun t => ((5, zp, gm_len s) :: (2, 0, 0) :: r, gm_d t)) := fun r => by
        unfold pm_u
        rw [if_pos k1]
      rcases t3 with ⟨t3, rfl, t4, t5⟩ | ⟨t, t3, rfl, t4, t5, t6, t7⟩
      · refine mt_kpyD t1 op od o72 ⟨by decide, by decide⟩ (by intros; exfalso; omega) ?_
        intro c5 h5 s1 s2
        have e := me_nil s2
        subst e
        refine stp (-1) 161 ⟨by decide, by decide⟩ ⟨by decide, by decide⟩ ⟨t1, F4, e01, Or.inl ⟨⟨t4, Or.inl t5⟩, fun r _ => pNO_none ?_⟩⟩ t4
        dsimp only
        rw [eM, t3]
        rfl
      · obtain ⟨-, x2, x3, x4, x5⟩ := gm_c_t t3
        obtain ⟨d1, d2, d3, d4⟩ := gm_d_e (t := t)
        have dT : gm_T (gm_d t) = gm_T t := by unfold gm_d; rw [gm_T_mk]
        have lt := (gm_c_len t3).1
        refine mt_kpyD t1 op od o72 oo (by intros; exfalso; omega) ?_
        intro c5 h5 s1 s2
        have e := me_nil s2
        subst e
        refine py60 (d := d) (M := fun r => pm_u 0 g E zp r s) (s := s) hTok hEN hN hV hH hS hWF hG p0 p1 u0 u1 z0 z1 (by omega) 161 0 h5 (gm_d t) (by decide) (by decide) (by rw [d2, x2]; exact hR.2.2.1.1) ⟨t1, t4, t5, e01, (me_f (c := 13579) t2 hS rfl rfl).trans i4, pq_R_D t6 dT d2⟩ F4 (by rw [d3, x4]) (by rw [d4, x5]) ⟨[], by rw [dT, x3], fo_nil, gz_nil, fun i hi2 => ?_⟩ (fun r _ => ?_)
        · rw [t7, if_neg (by omega)]
        · rw [eM, t3]
          exact pRO_refl
    · -- a maybe
      have k2 : g 122 zp.toNat = 2 := by omega
      have e6 : g 122 zp.toNat + 4 = 6 := by omega
      rw [e6] at t3 o72 stp ⊢
      have eM : ∀ r, pm_u 0 g E zp r s = (gm_c 6 (if pm_h E zp s = true then 1 else 0) s).bind (fun t => if pm_h E zp s = true then pm_sg 0 g E zp ((2, 0, 0) :: r) (gm_d t) else some ((2, 0, 0) :: r, gm_d t)) := fun r => by
        unfold pm_u
        rw [if_neg k1, if_pos k2]
      rcases t3 with ⟨t3, rfl, t4, t5⟩ | ⟨t, t3, rfl, t4, t5, t6, t7⟩
      · refine mt_kpyD t1 op od o72 ⟨by decide, by decide⟩ ?_ (by intros; exfalso; omega)
        intro c5 h5 s1 s2
        have e := me_nil s2
        subst e
        refine stp (-1) 1 ⟨by decide, by decide⟩ ⟨by decide, by decide⟩ ⟨t1, F4, e01, Or.inl ⟨⟨t4, Or.inl t5⟩, fun r _ => pNO_none ?_⟩⟩ t4
        have nc : ∀ v, gm_c 6 v s = none := fun v => by
          unfold gm_c at t3 ⊢
          by_cases q : 100 ≤ (gm_T s).length
          · rw [if_pos q]
          · rw [if_neg q] at t3
            cases t3
        dsimp only
        rw [eM, nc]
        rfl
      · obtain ⟨-, x2, x3, x4, x5⟩ := gm_c_t t3
        obtain ⟨d1, d2, d3, d4⟩ := gm_d_e (t := t)
        have dT : gm_T (gm_d t) = gm_T t := by unfold gm_d; rw [gm_T_mk]
        have lt := (gm_c_len t3).1
        have eTd : gm_T (gm_d t) = gm_T s ++ [(6 + 10 * ((gm_T s).length : Int), 0, gm_D s)] := by rw [dT, x3]
        have hRd : pq_R E p N h4 (gm_d t) := pq_R_D t6 dT d2
        have hG4 := pq_H_fr hG F4 hS rfl
        have hFs : gm_F (gm_d t) = gm_F s := d2.trans x2
        have hd : pq_bit (mx_b h4 90 zp.toNat) (mi_f h4 13577) = pm_h E zp s := by
          rw [hG4.2.1.1 zp p0 p1, hRd.2.2.1.2.2.1, hFs]
          rfl
        have lo4 : ∀ i, i < (gm_T s).length → mi_a h4 105 i = mi_a h1 105 i := fun i hi2 => by rw [t7, if_neg (by omega)]
        refine mt_kpyD t1 op od o72 oo ?_ (by intros; exfalso; omega)
        intro c5 h5 s1 s2
        have e := me_nil s2
        subst e
        refine mt_kpyE t1 op od o72 oo ⟨by decide, by decide⟩ ⟨by decide, by decide⟩ (by intros; exfalso; omega) (by intros; exfalso; omega) ?_
        intro b a1 a2 h6 l1 l2
        have e := me_nil l2
        subst e
        refine ⟨_, by rw [ln]; exact me_pgoes (d := d + 12) (s := s) (n := (gm_T s).length) t1 p0 (by omega) lt (by decide) (by decide) hd, fun w h7 hw hq => ?_⟩
        rcases hq with ⟨hh, rfl, q1, q2, q3⟩ | ⟨hh, rfl, rfl⟩
        · refine mt_kpyE2 q1 op od o72 oo ⟨by decide, by decide⟩ ⟨by decide, by decide⟩ ⟨by decide, by decide⟩ (by intro c; exact absurd c (by decide)) ?_
          intro c6 h8 r1 r2
          have e := me_nil r2
          subst e
          -- the state with a 1
          obtain ⟨t', ht'⟩ : ∃ t', gm_c 6 1 s = some t' := by
            unfold gm_c
            rw [if_neg (by omega)]
            exact ⟨_, rfl⟩
          obtain ⟨-, m2, m3, m4, m5⟩ := gm_c_t ht'
          obtain ⟨n1, n2, n3, n4⟩ := gm_d_e (t := t')
          have nT : gm_T (gm_d t') = gm_T s ++ [(6 + 10 * ((gm_T s).length : Int), 1, gm_D s)] := by
            have : gm_T (gm_d t') = gm_T t' := by unfold gm_d; rw [gm_T_mk]
            rw [this, m3]
          have hR8 : pq_R E p N h8 (gm_d t') := by
            refine ⟨?_, ?_, ?_, ?_⟩
            · rw [nT]
              have := hRd.1
              rw [eTd] at this
              exact gq_T_up this (me_f (c := 13056) q2 t1 rfl rfl) (fun i => me_a (k := 103) q2 t1 rfl rfl) q3
            · unfold gm_len
              rw [nT, List.length_append]
              show (((gm_T s).length + 1 : Nat) : Int) ≤ 100
              omega
            · rw [n2, m2, ← hFs]
              exact pq_K_fr hRd.2.2.1 q2 t1 rfl rfl rfl
            · rw [pm_K_of (n2.trans m2)]
              exact hR.2.2.2
          have F8 : ab_Fr pq_W h1 h8 := F4.trans (q2.wide (fun c hc => ab_swr_ok (by decide) hc))
          refine ⟨_, me_ppart (d := d) (s := gm_d t') hTok hEN hV hWF ⟨q1, (me_f (c := 13571) q2 t1 rfl rfl).trans t4, (me_f (c := 13572) q2 t1 rfl rfl).trans t5, (me_f (c := 13573) q2 t1 rfl rfl).trans e01, ((me_f (c := 13579) q2 t1 rfl rfl).trans (me_f (c := 13579) t2 hS rfl rfl)).trans i4, hR8⟩ (pq_H_fr hG4 q2 t1 rfl) p0 p1 u0 u1 z0 z1, fun w h9 hw hq => ?_⟩
          obtain ⟨rfl, v1, v2, v3, v4⟩ := hq
          have hul : ∀ r, wk_ul r = u → wk_ul ((2, 0, 0) :: r) = u := fun r hr => by rw [wk_ul_o, hr, Int.zero_add]
          have eM2 : ∀ r, pm_u 0 g E zp r s = pm_sg 0 g E zp ((2, 0, 0) :: r) (gm_d t') := fun r => by rw [eM, if_pos hh, ht', Option.bind_some, if_pos hh]
          have f8 : ∀ i, mi_a h8 105 i = mi_a h6 105 i := fun i => me_a (k := 105) q2 t1 rfl rfl
          have hx : pq_X E p N g h1 u (fun r => pm_u 0 g E zp r s) s h9 := by
            refine ⟨v1, F8.trans v2, v3, ?_⟩
            rcases v4 with ⟨a, c⟩ | ⟨a, b, b', s2, c, y1, ⟨y2, B, y3, y4, y5, y6⟩, y7⟩
            · refine Or.inl ⟨a, fun r hr => ?_⟩
              dsimp only
              rw [eM2]
              exact c _ (hul r hr)
            · rw [nT] at y3 y5 y6
              rw [n3, m4] at y4
              have l1' : (gm_T s ++ [(6 + 10 * ((gm_T s).length : Int), 1, gm_D s)]).length = (gm_T s).length + 1 := by rw [List.length_append]; rfl
              rw [l1'] at y5 y6
              refine Or.inr ⟨a, b, b', s2, c, by rw [y1, n3, m4], by rw [y2, n4, m5], ⟨_, 1, B, by rw [y3, List.append_assoc]; rfl, y4, y5, fun i hi2 => by rw [y6 i (by omega), f8]; exact lo4 i hi2⟩, fun r hr => ?_⟩
              dsimp only
              rw [eM2]
              exact y7 _ (hul r hr)
          refine mt_kpyF v1 op od o72 oo ⟨by decide, by decide⟩ ⟨by decide, by decide⟩ ?_
          refine ⟨⟨by decide, by decide⟩, fun hA k1' k2' => ?_⟩
          have e := me_nil k2'
          subst e
          refine mt_kpyE v1 op od o72 oo ⟨by decide, by decide⟩ ⟨by decide, by decide⟩ ?_ ?_ (by intros; exfalso; omega)
          · intro b c hB n1 n2
            have e := me_nil n2
            subst e
            exact py98 op od o72 oo ⟨by decide, by decide⟩ ⟨by decide, by decide⟩ (fun _ => rfl) hx
          · intro b c c' hB n1 n2
            have e := me_nil n2
            subst e
            exact py98 op od o72 oo ⟨by decide, by decide⟩ ⟨by decide, by decide⟩ (fun _ => rfl) hx
        · refine mt_kpyE2 t1 op od o72 oo ⟨by decide, by decide⟩ ⟨by decide, by decide⟩ ⟨by decide, by decide⟩ ?_ (by intro c; exact absurd rfl c)
          intro c6 h8 r1 r2
          have e := me_nil r2
          subst e
          refine py98 op od o72 oo ⟨by decide, by decide⟩ ⟨by decide, by decide⟩ (fun _ => rfl) ⟨t1, F4, e01, Or.inr ⟨t4, t5, (me_f (c := 13579) t2 hS rfl rfl).trans i4, gm_d t, hRd, by rw [d3, x4], by rw [d4, x5], ⟨_, 0, [], eTd, fo_nil, gz_nil, lo4⟩, fun r _ => ?_⟩⟩
          dsimp only
          rw [eM, if_neg hh, t3, Option.bind_some, if_neg hh]
          exact pRO_refl
  · intro b c1 c2 c3 c4
    have n0 : g 122 zp.toNat = 0 := by
      by_cases q : g 122 zp.toNat = 0
      · exact q
      · rw [e72, if_neg q] at c4
        omega
    refine ⟨⟨by omega, by omega⟩, fun h1 g1 g2 => ?_⟩
    have e := me_nil g2
    subst e
    refine ⟨_, me_ppart (d := d) hTok hEN hV hWF hi hG p0 p1 u0 u1 z0 z1, fun w h2 hw hq => ?_⟩
    have e := hq.1
    subst e
    refine mt_kpyB hq.2.1 op od o72 ?_
    intro h3 r1 r2
    have e := me_nil r2
    subst e
    have eM : (fun r => pm_u 0 g E zp r s) = fun r => pm_sg 0 g E zp r s := funext fun r => by
      unfold pm_u
      rw [if_neg (by omega), if_neg (by omega)]
    rw [eM]
    exact hq
end PW4
/-! the class's parsing walk: a form, and so all of it -/
section PW5
variable {E : pm_E} {p : Int → Int} {N : Int} {h0 : sm_H} {f : Int → Int} {it : Int → Prop} {g : wk_g} {Y : wk_Y} {kw : Int → Bool} {d : Nat} {pf pa : Int → Int → Bool}
/-- what is done at the end of a form -/
def pq_Z (E : pm_E) (p : Int → Int) (N : Int) (g : wk_g) (hb : sm_H) (u : Int) (M : List wk_E → Option gm_C) (s : gm_S) (zo : Int) (h : sm_H) : Prop := (pq_bad h ∧ ab_Sh sx_sk h ∧ ab_Fr pq_W hb h ∧ mi_f h 13573 = u ∧ ∀ r, wk_ul r = u → pm_NO g E (M r)) ∨ (zo = -1 ∧ pq_Q E p N g hb u M s none h) ∨ (zo ≠ -1 ∧ zo = gm_len s ∧ pq_X E p N g hb u M s h)
theorem pw226 {hb h : sm_H} {u F zd zi zw zo zp zn : Int} {q8 q9 qa : Option mi_V} {M : List wk_E → Option gm_C} {s : gm_S} (of : mi_in (f F)) (od : mi_in zd) (oi : mi_in zi) (ow : mi_in zw) (oo : mi_in zo) (op : mi_in zp) (on : mi_in zn) (o8 : ∀ v, q8 = some v → mi_ok v) (o9 : ∀ v, q9 = some v → mi_ok v) (oa : ∀ v, qa = some v → mi_ok v) (hz : pq_Z E p N g hb u M s zo h) : me_E (d + 16) 120 226 [some (.inr (.inr 106)), some (.inl (f F)), some (.inl zd), some (.inl zi), some (.inl zw), some (.inl zo), some (.inl zp), some (.inl zn), q8, q9, qa] [] h (pq_Q E p N g hb u M s) := by
  have hS : ab_Sh sx_sk h := by
    rcases hz with hz | hz | hz
    · exact hz.2.1
    · exact hz.2.2.1
    · exact hz.2.2.1
  refine mt_kpwL hS of od oi ow oo op on o8 o9 oa ?_ ?_
  · intro c h1 g1 g2
    have e := me_nil g2
    subst e
    rcases hz with ⟨z1, z2, z3, z4, z6⟩ | hz | hz
    · exact ⟨rfl, z2, z3, z4, Or.inl ⟨z1, z6⟩⟩
    · exact hz.2
    · exact absurd c hz.1
  · intro c h1 g1 g2
    have e := me_nil g2
    subst e
    have hx : pq_X E p N g hb u M s h1 ∧ (mi_f h1 13571 = 0 → zo = gm_len s) := by
      rcases hz with ⟨z1, z2, z3, z4, z6⟩ | hz | hz
      · exact ⟨⟨z2, z3, z4, Or.inl ⟨z1, z6⟩⟩, fun q => by have := z1.1; omega⟩
      · exact absurd hz.1 c
      · exact ⟨hz.2.2, fun _ => hz.2.1⟩
    refine ⟨_, me_pleavex (d := d + 13) oo hx.2 hx.1, fun w h2 hw hq => ?_⟩
    have e := hq.1
    subst e
    refine mt_kpwM hq.2.1 of od oi ow oo op on o8 o9 oa ?_
    intro h3 r1 r2
    have e := me_nil r2
    subst e
    exact hq
/-- once it has stopped -/
theorem pw104s {hb h : sm_H} {u F zd zi zw zo zp zn : Int} {q8 q9 qa : Option mi_V} {M : List wk_E → Option gm_C} {s : gm_S} (of : mi_in (f F)) (od : mi_in zd) (oi : mi_in zi) (ow : mi_in zw) (oo : mi_in zo) (op : mi_in zp) (on : mi_in zn) (o8 : ∀ v, q8 = some v → mi_ok v) (o9 : ∀ v, q9 = some v → mi_ok v) (oa : ∀ v, qa = some v → mi_ok v) (h1 : mi_f h 13571 = 1) (hS : ab_Sh sx_sk h) (hz : pq_Z E p N g hb u M s zo h) : me_E (d + 16) 120 104 [some (.inr (.inr 106)), some (.inl (f F)), some (.inl zd), some (.inl zi), some (.inl zw), some (.inl zo), some (.inl zp), some (.inl zn), q8, q9, qa] [] h (pq_Q E p N g hb u M s) := by
  refine mt_kpwG hS of od oi ow oo op on o8 o9 oa ?_ (by intros; exfalso; omega) (by intros; exfalso; omega) (by intros; exfalso; omega) (by intros; exfalso; omega) (by intros; exfalso; omega) (by intros; exfalso; omega)
  intro b c h2 g1 g2
  have e := me_nil g2
  subst e
  exact pw226 of od oi ow oo op on o8 o9 oa hz
theorem pw206s {hb h : sm_H} {u F zd zi zw zo zp zn zl : Int} {q9 qa : Option mi_V} {M : List wk_E → Option gm_C} {s : gm_S} (of : mi_in (f F)) (od : mi_in zd) (oi : mi_in zi) (ow : mi_in zw) (oo : mi_in zo) (op : mi_in zp) (n0 : 0 ≤ zn) (n1 : zn ≤ 60) (ol : mi_in zl) (o9 : ∀ v, q9 = some v → mi_ok v) (oa : ∀ v, qa = some v → mi_ok v) (h1 : mi_f h 13571 = 1) (hS : ab_Sh sx_sk h) (hz : pq_Z E p N g hb u M s zo h) : me_E (d + 16) 120 206 [some (.inr (.inr 106)), some (.inl (f F)), some (.inl zd), some (.inl zi), some (.inl zw), some (.inl zo), some (.inl zp), some (.inl zn), some (.inl zl), q9, qa] [] h (pq_Q E p N g hb u M s) := by
  have on : mi_in zn := ⟨by omega, by omega⟩
  have on1 : mi_in (zn + 1) := ⟨by omega, by omega⟩
  have o8 : ∀ v, some (Sum.inl zl : mi_V) = some v → mi_ok v := fun v e => by cases e; exact ol
  refine mt_kpwH hS of od oi ow oo op on ol o9 oa ?_ ?_ ?_
  · intro c
    refine ⟨⟨by omega, by omega⟩, fun h2 g1 g2 => ?_⟩
    have e := me_nil g2
    subst e
    exact pw104s of od oi ow oo ⟨by decide, by decide⟩ on1 o8 o9 oa h1 hS hz
  · intro c1 c2
    refine ⟨⟨by omega, by omega⟩, fun h2 g1 g2 => ?_⟩
    have e := me_nil g2
    subst e
    exact pw104s of od oi ow oo ⟨by decide, by decide⟩ on1 o8 o9 oa h1 hS hz
  · intro c1 c2
    refine ⟨⟨⟨by omega, by omega⟩, by omega, by omega⟩, fun h2 g1 g2 => ?_⟩
    have e := me_nil g2
    subst e
    exact pw104s of od oi ow oo (mi_inT _) on1 o8 o9 oa h1 hS hz
theorem pw104 {hb hm : sm_H} {s sb : gm_S} {u F zd zi zw zo : Int} {M : List wk_E → Option gm_C} {rest : List wk_E → List wk_E} (hTok : pq_tok E p N h0) (hEN : E.1 N = 0) (hN : N ≤ 160) (hV : pq_V E N) (hH : pm_Hs g Y E pf pa) (hSb : ab_Sh sx_sk hb) (hWF : pq_F E p N h0 f it g Y kw (d + 12) (zd + 1)) (hGb : pq_H E h0 f it g Y kw hb) (F0 : 0 ≤ F) (F1 : F < wk_f Y) (u0 : 1 ≤ u) (u1 : u ≤ 12) (z0 : 0 ≤ zd) (z1 : zd ≤ 5 * (u - 1) + wk_d Y F) (oi : mi_in zi) (ow : mi_in zw) (oo : mi_in zo) (hre : pq_b hb hm s sb zo rest) : ∀ (K : Nat) (zn zp : Int) (q8 q9 qa : Option mi_V) (h : sm_H) (sj : gm_S), 60 - zn = K → 0 ≤ zn → (zp = -1 ∨ (zn ≤ zp ∧ zp < wk_u Y ∧ it zp ∧ wk_c Y zp = F)) → (∀ v, q8 = some v → mi_ok v) → (∀ v, q9 = some v → mi_ok v) → (∀ v, qa = some v → mi_ok v) → pq_in E p N h u sj → ab_Fr pq_W hb h → gm_D sj = gm_D sb → pq_A hm sb (gm_D sb) h sj → (∀ r, wk_ul r = u → pm_RO g E (M r) (wk_it g (K + 1) zp ++ rest r, sj)) → me_E (d + 16) 120 104 [some (.inr (.inr 106)), some (.inl (f F)), some (.inl zd), some (.inl zi), some (.inl zw), some (.inl zo), some (.inl zp), some (.inl zn), q8, q9, qa] [] h (pq_Q E p N g hb u M s) := by
  have hu60 := hGb.1.1.1
  have of := cg_ok hGb.1 F0 F1
  have wd := (hGb.1.1.2.2.2 F F0 F1).2.1
  have od : mi_in zd := ⟨by omega, by omega⟩
  have hru : ∀ r, wk_ul r = u → wk_ul (rest r) = u := fun r hr => by
    rcases hre with ⟨-, e, -⟩ | ⟨-, -, e, -⟩
    · rw [e, hr]
    · rw [e, wk_ul_o, hr, Int.zero_add]
  -- nothing more comes
  have fin : ∀ (zn : Int) (q8 q9 qa : Option mi_V) (h : sm_H) (sj : gm_S) (K : Nat), mi_in zn → (∀ v, q8 = some v → mi_ok v) → (∀ v, q9 = some v → mi_ok v) → (∀ v, qa = some v → mi_ok v) → pq_in E p N h u sj → ab_Fr pq_W hb h → gm_D sj = gm_D sb → pq_A hm sb (gm_D sb) h sj → (∀ r, wk_ul r = u → pm_RO g E (M r) (wk_it g (K + 1) (-1) ++ rest r, sj)) → me_E (d + 16) 120 104 [some (.inr (.inr 106)), some (.inl (f F)), some (.inl zd), some (.inl zi), some (.inl zw), some (.inl zo), some (.inl (-1 : Int)), some (.inl zn), q8, q9, qa] [] h (pq_Q E p N g hb u M s) := by
    intro zn q8 q9 qa h sj K on o8 o9 oa hi hF eD hA hM
    obtain ⟨hS, i1, i2, i3, i4, hR⟩ := hi
    have eit : wk_it g (K + 1) (-1) = [] := by rw [wk_it, if_pos (by decide)]
    rw [eit] at hM
    refine mt_kpwG hS of od oi ow oo ⟨by decide, by decide⟩ on o8 o9 oa (by intros; exfalso; omega) ?_ (by intros; exfalso; omega) (by intros; exfalso; omega) (by intros; exfalso; omega) (by intros; exfalso; omega) (by intros; exfalso; omega)
    intro b c1 c2 h1 g1 g2
    have e := me_nil g2
    subst e
    refine pw226 of od oi ow oo ⟨by decide, by decide⟩ on o8 o9 oa (Or.inr ?_)
    rcases hre with ⟨k1, k2, k3, k4⟩ | ⟨k1, k2, k3, k4, k5, ⟨v, k6⟩, k7⟩
    · subst k3
      subst k4
      refine Or.inl ⟨k1, rfl, hS, hF, i3, Or.inr ⟨i1, i2, i4, sj, hR, eD, hA, fun r hr => ?_⟩⟩
      have := hM r hr
      rw [k2] at this
      exact this
    · obtain ⟨a1, B, a2, a3, a4, a5⟩ := hA
      rw [k6] at a2 a4 a5
      rw [k4] at a3
      have l1' : (gm_T s ++ [(4 + 10 * ((gm_T s).length : Int), v, gm_D s)]).length = (gm_T s).length + 1 := by rw [List.length_append]; rfl
      rw [l1'] at a4 a5
      refine Or.inr ⟨k1, k2, hS, hF, i3, Or.inr ⟨i1, i2, i4, sj, hR, by rw [eD, k4], by rw [a1, k5], ⟨_, v, B, by rw [a2, List.append_assoc]; rfl, a3, a4, fun i hi2 => (a5 i (by omega)).trans (k7 i hi2)⟩, fun r hr => ?_⟩⟩
      have := hM r hr
      rw [k3] at this
      exact this
  intro K
  induction K with
  | zero =>
    intro zn zp q8 q9 qa h sj hN n0 hp o8 o9 oa hi hF eD hA hM
    have e : zp = -1 := by
      rcases hp with e | ⟨e1, e2, -⟩
      · exact e
      · omega
    subst e
    exact fin zn q8 q9 qa h sj 0 ⟨by omega, by omega⟩ o8 o9 oa hi hF eD hA hM
  | succ K ih =>
    intro zn zp q8 q9 qa h sj hK n0 hp o8 o9 oa hi hF eD hA hM
    have on : mi_in zn := ⟨by omega, by omega⟩
    rcases hp with e | ⟨p2, p3, pit, pc⟩
    · subst e
      exact fin zn q8 q9 qa h sj (K + 1) on o8 o9 oa hi hF eD hA hM
    obtain ⟨hS, i1, i2, i3, i4, hR⟩ := id hi
    have p0 : 0 ≤ zp := by omega
    have op : mi_in zp := ⟨by omega, by omega⟩
    have hG : pq_H E h0 f it g Y kw h := pq_H_fr hGb hF hSb rfl
    obtain ⟨-, -, -, -, -, hU⟩ := hG.1.2.2.1 zp p0 p3
    obtain ⟨e74, x125, it125, pairs, plain⟩ := hU pit
    obtain ⟨⟨l1, -⟩, lm, ln, -, -, -⟩ := hG.1.1.2.2.1 zp p0 p3
    have nxt : g 125 zp.toNat = -1 ∨ (zn + 1 ≤ g 125 zp.toNat ∧ g 125 zp.toNat < wk_u Y ∧ it (g 125 zp.toNat) ∧ wk_c Y (g 125 zp.toNat) = F) := by
      by_cases c : 0 ≤ g 125 zp.toNat
      · obtain ⟨a1, a2, a3, -⟩ := ln c
        exact Or.inr ⟨by omega, a1, it125 c, a2.trans pc⟩
      · exact Or.inl (by omega)
    refine mt_kpwG hS of od oi ow oo op on o8 o9 oa (by intros; exfalso; omega) (by intros; exfalso; omega) (by intros; exfalso; omega) (by intros; exfalso; omega) (by intros; exfalso; omega) ?_ ?_
    · intro b c1 c2 c3 c4 c5 c6
      have nm : ¬ 0 ≤ g 124 zp.toNat := fun q => c6 (e74.mpr q)
      have eit : wk_it g (K + 1 + 1) zp = (0, zp, 0) :: wk_it g (K + 1) (g 125 zp.toNat) := by rw [wk_it, if_neg (by omega), if_neg nm]
      rw [eit] at hM
      refine ⟨⟨by omega, by omega⟩, fun h1 g1 g2 => ?_⟩
      have e := me_nil g2
      subst e
      refine ⟨_, me_punit (d := d) hTok hEN hN hV hH hWF hi hG p0 p3 u0 u1 z0 (by rw [pc]; exact z1), fun w h2 hw hq => ?_⟩
      obtain ⟨rfl, q1, q2, q3, q4⟩ := hq
      have hst : ∀ r, pm_st g E 0 (0, zp, 0) r sj = pm_u 0 g E zp r sj := fun r => by
        rw [pm_st_0]
        unfold gm_op
        rw [if_neg (by decide)]
      have hul : ∀ r, wk_ul r = u → wk_ul (wk_it g (K + 1) (g 125 zp.toNat) ++ rest r) = u := fun r hr => by rw [wk_ul_it]; exact hru r hr
      rcases q4 with ⟨q4, q6⟩ | ⟨q4, q5, q5', s2, q6, q7, q9', q10⟩
      · refine pw206s of od oi ow oo op n0 (by omega) op o9 oa q4.1 q1 (Or.inl ⟨q4, q1, hF.trans q2, q3, fun r hr => ?_⟩)
        exact pNO_step (e := (0, zp, 0)) (r := wk_it g (K + 1) (g 125 zp.toNat) ++ rest r) (s := sj) (hM r hr) (by rw [hst]; exact q6 _ (hul r hr))
      · have a71 : mi_a h2 71 (Int.toNat zp) = g 125 zp.toNat := (me_a (k := 71) q2 hS rfl rfl).trans (plain nm)
        refine mt_kpwH q1 of od oi ow oo op on op o9 oa (by intros; exfalso; omega) (by intros; exfalso; omega) ?_
        intro b1 b2
        refine ⟨⟨⟨by omega, by omega⟩, by omega, by omega⟩, fun h3 r1 r2 => ?_⟩
        have e := me_nil r2
        subst e
        rw [a71]
        rw [eD] at q9'
        refine ih (zn + 1) (g 125 zp.toNat) _ q9 qa h3 s2 (by omega) (by omega) nxt (fun v e => by cases e; exact op) o9 oa ⟨q1, q4, q5, q3, q5', q6⟩ (hF.trans q2) (q7.trans eD) (pq_A_trans hA q9') (fun r hr => ?_)
        exact pRO_step (e := (0, zp, 0)) (r := wk_it g (K + 1) (g 125 zp.toNat) ++ rest r) (s := sj) (hM r hr) (by rw [hst]; exact q10 _ (hul r hr))
    · intro b c1 c2 c3 c4 c5 c6
      have hm' := e74.mp c6
      obtain ⟨a71, b71⟩ := pairs hm'
      obtain ⟨m1, m2, m3, m4⟩ := lm hm'
      have om : mi_in (g 124 zp.toNat) := ⟨by omega, by omega⟩
      have eit : wk_it g (K + 1 + 1) zp = (0, zp, 1) :: (3, 0, 0) :: (0, g 124 zp.toNat, 0) :: (4, 0, 0) :: wk_it g (K + 1) (g 125 zp.toNat) := by rw [wk_it, if_neg (by omega), if_pos hm']
      rw [eit] at hM
      have n56 : mi_f h 13056 = ((gm_T sj).length : Int) := hR.1.1
      have hl100 : gm_len sj ≤ 100 := hR.2.1
      have lj : gm_len sj = ((gm_T sj).length : Int) := rfl
      refine ⟨⟨by omega, by omega⟩, fun h1 g1 g2 => ?_⟩
      have e := me_nil g2
      subst e
      rw [a71, n56]
      have os : mi_in ((gm_T sj).length : Int) := ⟨by omega, by omega⟩
      -- the pair is open
      have oT : gm_T (gm_op 1 sj) = gm_T sj := by unfold gm_op; rw [if_pos rfl, gm_T_mk]
      have oF : gm_F (gm_op 1 sj) = gm_F sj := by unfold gm_op; rw [if_pos rfl, gm_F_mk]
      have oD : gm_D (gm_op 1 sj) = gm_D sj := by unfold gm_op; rw [if_pos rfl, gm_D_mk]
      have oP : gm_P (gm_op 1 sj) = ((gm_T sj).length, 0) :: gm_P sj := by unfold gm_op; rw [if_pos rfl, gm_P_mk]
      refine ⟨_, me_punit (d := d) (s := gm_op 1 sj) hTok hEN hN hV hH hWF ⟨hS, i1, i2, i3, i4, pq_R_D hR oT oF⟩ hG p0 p3 u0 u1 z0 (by rw [pc]; exact z1), fun w h2 hw hq => ?_⟩
      obtain ⟨rfl, q1, q2, q3, q4⟩ := hq
      have hul : ∀ r, wk_ul r = u → wk_ul (wk_it g (K + 1) (g 125 zp.toNat) ++ rest r) = u := fun r hr => by rw [wk_ul_it]; exact hru r hr
      have hul3 : ∀ r, wk_ul r = u → wk_ul ((3, 0, 0) :: (0, g 124 zp.toNat, 0) :: (4, 0, 0) :: (wk_it g (K + 1) (g 125 zp.toNat) ++ rest r)) = u := fun r hr => by rw [wk_ul_c (by decide), wk_ul_c (by decide), wk_ul_c (by decide)]; exact hul r hr
      have hul4 : ∀ r, wk_ul r = u → wk_ul ((4, 0, 0) :: (wk_it g (K + 1) (g 125 zp.toNat) ++ rest r)) = u := fun r hr => by rw [wk_ul_c (by decide)]; exact hul r hr
      -- the rest of the way, once it has stopped
      have stp : ∀ (h3 : sm_H) (zm : Int), mi_in zm → ab_Sh sx_sk h3 → ab_Fr pq_W hb h3 → pq_bad h3 → mi_f h3 13573 = u → (∀ r, wk_ul r = u → pm_NO g E (M r)) → me_E (d + 16) 120 188 [some (.inr (.inr 106)), some (.inl (f F)), some (.inl zd), some (.inl zi), some (.inl zw), some (.inl zo), some (.inl zp), some (.inl zn), some (.inl (g 124 zp.toNat)), some (.inl ((gm_T sj).length : Int)), some (.inl zm)] [] h3 (pq_Q E p N g hb u M s) := by
        intro h3 zm ozm s1 s2 s3 s5 s6
        refine mt_kpwJ s1 of od oi ow oo op on om os ozm ?_
        intro h4 t1 t2
        have e := me_nil t2
        subst e
        refine ⟨_, me_ppairs0 (d := d + 11) s1 os ozm, fun w h5 hw hq => ?_⟩
        obtain ⟨rfl, v1, v2⟩ := hq
        refine mt_kpwK v1 of od oi ow oo op on om os ozm ?_
        intro h6 x1 x2
        have e := me_nil x2
        subst e
        have b5 := pq_bad_fr s3 v2 s1 rfl rfl rfl
        exact pw206s of od oi ow oo op n0 (by omega) om (fun v e => by cases e; exact os) (fun v e => by cases e; exact ozm) b5.1 v1 (Or.inl ⟨b5, v1, s2.trans (v2.wide (fun c hc => ab_swr_ok (by decide) hc)), (me_f (c := 13573) v2 s1 rfl rfl).trans s5, s6⟩)
      have hst1 : ∀ r, pm_st g E 0 (0, zp, 1) r sj = pm_u 0 g E zp r (gm_op 1 sj) := fun r => pm_st_0
      rcases q4 with ⟨q4, q6⟩ | ⟨q4, q5, q5', s2, q6, q7, ⟨q8', B, q9', fB, zB, loB⟩, q10⟩
      · refine mt_kpwI q1 of od oi ow oo op on om os oa ?_
        intro h3 r1 r2
        have e := me_nil r2
        subst e
        refine ⟨_, me_punit0 (d := d) q1 q4.1 om od, fun w h4 hw hq => ?_⟩
        obtain ⟨rfl, rfl⟩ := hq
        refine stp _ _ (mi_inT _) q1 (hF.trans q2) q4 q3 (fun r hr => ?_)
        exact pNO_step (e := (0, zp, 1)) (r := (3, 0, 0) :: (0, g 124 zp.toNat, 0) :: (4, 0, 0) :: (wk_it g (K + 1) (g 125 zp.toNat) ++ rest r)) (s := sj) (hM r hr) (by rw [hst1]; exact q6 _ (hul3 r hr))
      · -- the middle
        rw [oP] at q8'
        rw [oD] at q7 fB
        rw [oT] at q9' zB loB
        have m56 : mi_f h2 13056 = ((gm_T s2).length : Int) := q6.1.1
        have l2 : gm_len s2 = ((gm_T s2).length : Int) := rfl
        have l2b : gm_len s2 ≤ 100 := q6.2.1
        have omd : mi_in ((gm_T s2).length : Int) := ⟨by omega, by omega⟩
        have mT : gm_T (gm_mid s2) = gm_T s2 := by unfold gm_mid; rw [gm_T_mk]
        have mF : gm_F (gm_mid s2) = gm_F s2 := by unfold gm_mid; rw [gm_F_mk]
        have mD : gm_D (gm_mid s2) = gm_D s2 := by unfold gm_mid; rw [gm_D_mk]
        have mP : gm_P (gm_mid s2) = ((gm_T sj).length, (gm_T s2).length) :: gm_P sj := by unfold gm_mid; rw [gm_P_mk, q8']
        have hM2 : ∀ r, wk_ul r = u → pm_RO g E (M r) ((0, g 124 zp.toNat, 0) :: (4, 0, 0) :: (wk_it g (K + 1) (g 125 zp.toNat) ++ rest r), gm_mid s2) := fun r hr => pRO_step (e := (3, 0, 0)) (r := (0, g 124 zp.toNat, 0) :: (4, 0, 0) :: (wk_it g (K + 1) (g 125 zp.toNat) ++ rest r)) (s := s2) (pRO_step (e := (0, zp, 1)) (r := (3, 0, 0) :: (0, g 124 zp.toNat, 0) :: (4, 0, 0) :: (wk_it g (K + 1) (g 125 zp.toNat) ++ rest r)) (s := sj) (hM r hr) (by rw [hst1]; exact q10 _ (hul3 r hr))) (by rw [pm_st_3]; exact pRO_refl)
        have hst2 : ∀ r, pm_st g E 0 (0, g 124 zp.toNat, 0) r (gm_mid s2) = pm_u 0 g E (g 124 zp.toNat) r (gm_mid s2) := fun r => by
          rw [pm_st_0]
          unfold gm_op
          rw [if_neg (by decide)]
        refine mt_kpwI q1 of od oi ow oo op on om os oa ?_
        intro h3 r1 r2
        have e := me_nil r2
        subst e
        rw [m56]
        refine ⟨_, me_punit (d := d) (s := gm_mid s2) hTok hEN hN hV hH hWF ⟨q1, q4, q5, q3, q5', pq_R_D q6 mT mF⟩ (pq_H_fr hG q2 hS rfl) hm' m1 u0 u1 z0 (by rw [m2, pc]; exact z1), fun w h4 hw hq => ?_⟩
        obtain ⟨rfl, v1, v2, v3, v4⟩ := hq
        rcases v4 with ⟨v4, v6⟩ | ⟨v4, v5, v5', s3, v6, v7, ⟨v8, C, v9, fC, zC, loC⟩, v10⟩
        · refine stp h4 _ omd v1 ((hF.trans q2).trans v2) v4 v3 (fun r hr => ?_)
          exact pNO_step (e := (0, g 124 zp.toNat, 0)) (r := (4, 0, 0) :: (wk_it g (K + 1) (g 125 zp.toNat) ++ rest r)) (s := gm_mid s2) (hM2 r hr) (by rw [hst2]; exact v6 _ (hul4 r hr))
        · rw [mP] at v8
          rw [mD] at v7 fC
          rw [mT] at v9 zC loC
          rw [q7] at fC
          have hM3 : ∀ r, wk_ul r = u → pm_RO g E (M r) (wk_it g (K + 1) (g 125 zp.toNat) ++ rest r, gm_tu s3) := fun r hr => pRO_step (e := (4, 0, 0)) (r := wk_it g (K + 1) (g 125 zp.toNat) ++ rest r) (s := s3) (pRO_step (e := (0, g 124 zp.toNat, 0)) (r := (4, 0, 0) :: (wk_it g (K + 1) (g 125 zp.toNat) ++ rest r)) (s := gm_mid s2) (hM2 r hr) (by rw [hst2]; exact v10 _ (hul4 r hr))) (by rw [pm_st_4]; exact pRO_refl)
          have etu : gm_tu s3 = (gm_X s3, gm_F s3, gm_rot (gm_T sj).length (gm_T s2).length (gm_T s3), gm_D s3, gm_P sj) := by
            unfold gm_tu
            rw [v8]
          have eT3 : gm_T s3 = gm_T sj ++ B ++ C := by rw [v9, q9']
          have l3b : gm_len s3 ≤ 100 := v6.2.1
          have l3 : gm_len s3 = ((gm_T s3).length : Int) := rfl
          have lens : (gm_T s2).length = (gm_T sj).length + B.length := by rw [q9', List.length_append]
          have lens3 : (gm_T s3).length = (gm_T s2).length + C.length := by rw [v9, List.length_append]
          refine mt_kpwJ v1 of od oi ow oo op on om os omd ?_
          intro h5 t1 t2
          have e := me_nil t2
          subst e
          refine ⟨_, me_pexch (d := d + 11) v1 v6.1 (by omega) (by omega) (by omega), fun w h6 hw hq => ?_⟩
          obtain ⟨rfl, y1, y2, y3, y4⟩ := hq
          refine mt_kpwK y1 of od oi ow oo op on om os omd ?_
          intro h7 k1 k2
          have e := me_nil k2
          subst e
          have hR7 : pq_R E p N h7 (gm_tu s3) := by
            obtain ⟨b1, b2, b3, b4⟩ := v6
            rw [etu]
            unfold pq_R gm_len pm_K
            simp only [gm_T_mk, gm_F_mk, gm_rot_len]
            exact ⟨y3, b2, pq_K_fr b3 y2 v1 rfl rfl rfl, b4⟩
          have F7 : ab_Fr pq_W hb h7 := ((hF.trans q2).trans v2).trans (y2.wide (fun c hc => ab_swr_ok (by decide) hc))
          have c71 : mi_a h7 71 (Int.toNat (g 124 zp.toNat)) = g 125 zp.toNat := by
            rw [me_a (k := 71) y2 v1 rfl rfl, me_a (k := 71) v2 q1 rfl rfl, me_a (k := 71) q2 hS rfl rfl]
            exact b71
          have lT : (gm_T s3).length = (gm_T sj).length + B.length + C.length := by omega
          have hAp : pq_A h1 sj (gm_D sb) h7 (gm_tu s3) := by
            refine ⟨by rw [etu, gm_P_mk], C ++ B, by rw [etu, gm_T_mk, eT3, q9', gm_rot_pre], fo_app (by rw [← eD]; exact fC) (by rw [← eD]; exact fB), ?_, fun i hi2 => ?_⟩
            · rw [lens] at zC y4
              rw [lT] at y4
              exact gz_rot (h := h5) fB fC (gz_eq zB (fun i i1 i2 => loC i (by omega))) zC y4
            · rw [y4 i (by omega)]
              unfold ro_i
              rw [if_pos hi2, loC i (by omega), loB i hi2]
          refine mt_kpwH y1 of od oi ow oo op on om (fun v e => by cases e; exact os) (fun v e => by cases e; exact omd) (by intros; exfalso; omega) (by intros; exfalso; omega) ?_
          intro b1 b2
          refine ⟨⟨⟨by omega, by omega⟩, by omega, by omega⟩, fun h8 n1 n2 => ?_⟩
          have e := me_nil n2
          subst e
          rw [c71]
          exact ih (zn + 1) (g 125 zp.toNat) _ _ _ h8 (gm_tu s3) (by omega) (by omega) nxt (fun v e => by cases e; exact om) (fun v e => by cases e; exact os) (fun v e => by cases e; exact omd) ⟨y1, (me_f (c := 13571) y2 v1 rfl rfl).trans v4, (me_f (c := 13572) y2 v1 rfl rfl).trans v5, (me_f (c := 13573) y2 v1 rfl rfl).trans v3, (me_f (c := 13579) y2 v1 rfl rfl).trans v5', hR7⟩ F7 (by rw [etu, gm_D_mk, v7, q7, eD]) (pq_A_trans hA hAp) hM3
theorem me_pform {zd : Int} (hTok : pq_tok E p N h0) (hEN : E.1 N = 0) (hN : N ≤ 160) (hV : pq_V E N) (hH : pm_Hs g Y E pf pa) (hWF : pq_F E p N h0 f it g Y kw (d + 12) (zd + 1)) (z0 : 0 ≤ zd) : pq_F E p N h0 f it g Y kw (d + 16) zd := by
  intro h s u F hi hG F0 F1 u0 u1 hz
  obtain ⟨hS, i1, i2, i3, i4, hR⟩ := id hi
  have of := cg_ok hG.1 F0 F1
  have hF := hG.1.2.1 F F0 F1
  obtain ⟨⟨f0, f1⟩, f2, f3, f4, f5⟩ := id hF
  obtain ⟨d1, d2, d3, d4, dB, d5⟩ := hG.1.1.2.2.2 F F0 F1
  have od : mi_in zd := ⟨by omega, by omega⟩
  have b76 := me_fb (c := 13576) hS rfl
  -- from where the parts are gone through
  have go79 : ∀ (zi zw zo : Int) (rest : List wk_E → List wk_E) (h1 : sm_H) (sj : gm_S), mi_in zi → mi_in zo → 0 ≤ zw → zw < g 130 F.toNat → pq_in E p N h1 u sj → ab_Fr pq_W h h1 → pq_b h h1 s sj zo rest → (∀ r, wk_ul r = u → pm_RO g E (pm_fo g E F r s) (wk_it g 61 (g 126 (wk_alt g zw.toNat (g 129 F.toNat)).toNat) ++ rest r, sj)) → me_E (d + 16) 120 79 [some (.inr (.inr 106)), some (.inl (f F)), some (.inl zd), some (.inl zi), some (.inl zw), some (.inl zo), none, none, none, none, none] [] h1 (pq_Q E p N g h u (fun r => pm_fo g E F r s) s) := by
    intro zi zw zo rest h1 sj oi oo w0 w1 hi1 hF1 hre hM
    have hS1 := hi1.1
    have ow : mi_in zw := ⟨by omega, by omega⟩
    have hG1 := pq_H_fr hG hF1 hS rfl
    have hFF := hG1.1.2.1 F F0 F1
    refine mt_kpwE hS1 of od oi ow oo ?_
    intro h2 g1 g2
    have e := me_nil g2
    subst e
    refine ⟨_, me_galt (d := d + 14) hS1 hFF w0 w1, fun w h3 hw hq => ?_⟩
    obtain ⟨rfl, rfl⟩ := hq
    obtain ⟨⟨p1, p2⟩, p3, -, -, -, p6, p7⟩ := hFF.2.2.2.2 zw.toNat (by omega)
    obtain ⟨-, -, p8⟩ := d5 zw.toNat (by omega)
    generalize wk_alt g zw.toNat (g 129 F.toNat) = a at hw p1 p2 p3 p6 p7 p8 hM ⊢
    refine mt_kpwF hS1 of od oi ow oo (hw _ rfl) (by intros; exfalso; omega) (by intros; exfalso; omega) ?_
    intro c1 c2
    refine ⟨⟨by omega, by omega⟩, fun h4 r1 r2 => ?_⟩
    have e := me_nil r2
    subst e
    rw [p3]
    refine pw104 (d := d) (hm := h4) (sb := sj) (M := fun r => pm_fo g E F r s) (rest := rest) hTok hEN hN hV hH hS hWF hG F0 F1 u0 u1 z0 hz oi ow oo hre 60 0 (g 126 a.toNat) none none none h4 sj (by decide) (by decide) ?_ (fun v e => by cases e) (fun v e => by cases e) (fun v e => by cases e) hi1 hF1 rfl pq_A_refl hM
    by_cases c : 0 ≤ g 126 a.toNat
    · have := p8.resolve_left (by omega)
      exact Or.inr ⟨c, this.1, p7 c, this.2⟩
    · exact Or.inl (by omega)
  -- nothing more is done
  have stop : ∀ (zw : Int) (h5 : sm_H), 0 ≤ zw → zw < g 130 F.toNat → ab_Sh sx_sk h5 → ab_Fr pq_W h h5 → pq_bad h5 → mi_f h5 13573 = u → (∀ r, wk_ul r = u → pm_NO g E (pm_fo g E F r s)) → me_E (d + 16) 120 79 [some (.inr (.inr 106)), some (.inl (f F)), some (.inl zd), some (.inl 1), some (.inl zw), some (.inl (-1)), none, none, none, none, none] [] h5 (pq_Q E p N g h u (fun r => pm_fo g E F r s) s) := by
    intro zw h5 w0 w1 t1 F5 hbad e01 hno
    have owz : mi_in zw := ⟨by omega, by omega⟩
    have hz2 : pq_Z E p N g h u (fun r => pm_fo g E F r s) s (-1) h5 := Or.inl ⟨hbad, t1, F5, e01, hno⟩
    refine mt_kpwE t1 of od ⟨by decide, by decide⟩ owz ⟨by decide, by decide⟩ ?_
    intro h7 l3 l4
    have e := me_nil l4
    subst e
    have hFF := (pq_H_fr hG F5 hS rfl).1.2.1 F F0 F1
    refine ⟨_, me_galt (d := d + 14) t1 hFF w0 w1, fun w h8 hw hq => ?_⟩
    obtain ⟨rfl, rfl⟩ := hq
    have on0 : mi_in (0 : Int) := ⟨by decide, by decide⟩
    refine mt_kpwF t1 of od ⟨by decide, by decide⟩ owz ⟨by decide, by decide⟩ (hw _ rfl) ?_ ?_ ?_
    · intro c8 h9 k1 k2
      have e := me_nil k2
      subst e
      exact pw104s of od ⟨by decide, by decide⟩ owz ⟨by decide, by decide⟩ on0 on0 (fun v e => by cases e) (fun v e => by cases e) (fun v e => by cases e) hbad.1 t1 hz2
    · intro c8 c9 h9 k1 k2
      have e := me_nil k2
      subst e
      exact pw104s of od ⟨by decide, by decide⟩ owz ⟨by decide, by decide⟩ on0 on0 (fun v e => by cases e) (fun v e => by cases e) (fun v e => by cases e) hbad.1 t1 hz2
    · intro c8 c9
      refine ⟨⟨by omega, by omega⟩, fun h9 k1 k2 => ?_⟩
      have e := me_nil k2
      subst e
      exact pw104s of od ⟨by decide, by decide⟩ owz ⟨by decide, by decide⟩ (mi_inT _) on0 (fun v e => by cases e) (fun v e => by cases e) (fun v e => by cases e) hbad.1 t1 hz2
  refine mt_kpwA (d := d + 4) hS of od (by intros; exfalso; omega) (by intros; exfalso; omega) (by intros; exfalso; omega) ?_ ?_ (by intros; exfalso; omega)
  · intro b c1 c2 c3 c4 c5
    rw [f3] at c5
    refine ⟨⟨by omega, by omega⟩, fun h1 g1 g2 => ?_⟩
    have e := me_nil g2
    subst e
    refine mt_kpwC hS of od ⟨by decide, by decide⟩ ⟨by decide, by decide⟩ ?_ (by intros; exfalso; omega) (by intros; exfalso; omega)
    intro c6 h2 r1 r2
    have e := me_nil r2
    subst e
    refine go79 0 0 (-1) id h2 s ⟨by decide, by decide⟩ ⟨by decide, by decide⟩ (by decide) (by omega) hi ab_Fr.refl (Or.inl ⟨rfl, fun r => rfl, rfl, rfl⟩) (fun r hr => ?_)
    unfold pm_fo
    rw [if_neg (by omega)]
    exact pRO_refl
  · intro b c1 c2 c3 c4 c5
    rw [f3] at c5
    refine ⟨⟨by omega, by omega⟩, fun h1 g1 g2 => ?_⟩
    have e := me_nil g2
    subst e
    refine ⟨_, me_pchosen (d := d + 13) (s := s) hS hF d3 (hG.2.1.2.1 F F0 F1) hR.2.2.1.2.2.1, fun w h2 hw hq => ?_⟩
    rcases hq with ⟨n, hn, rfl, rfl⟩ | ⟨hn, rfl, q1, q2, q3, q4⟩
    · obtain ⟨j, j1, j2, -⟩ := pm_dr_e _ _ _ _ hn
      have owz : mi_in n := ⟨by omega, by omega⟩
      refine mt_kpwB hS of od ⟨by decide, by decide⟩ owz ?_
      intro h3 r1 r2
      have e := me_nil r2
      subst e
      refine mt_kpwC hS of od ⟨by decide, by decide⟩ owz (by intros; exfalso; omega) (by intros; exfalso; omega) ?_
      intro b2 c6 c7 h4 s1 s2
      have e := me_nil s2
      subst e
      refine ⟨_, me_penter (d := d + 13) hS ⟨by decide, by decide⟩ owz i1 i2 hR, fun w3 h5 hw3 hq3 => ?_⟩
      obtain ⟨t1, t2, t3⟩ := hq3
      have e01 : mi_f h5 13573 = u := (me_f (c := 13573) t2 hS rfl rfl).trans i3
      have F5 : ab_Fr pq_W h4 h5 := t2.wide (fun c hc => ab_swr_ok (by decide) hc)
      rcases t3 with ⟨t3, rfl, t4, t5⟩ | ⟨t, t3, rfl, t4, t5, t6, t7⟩
      · refine mt_kpwD t1 of od ⟨by decide, by decide⟩ owz ⟨by decide, by decide⟩ ?_
        intro h6 l1 l2
        have e := me_nil l2
        subst e
        refine stop n h6 (by omega) (by omega) t1 F5 ⟨t4, Or.inl t5⟩ e01 (fun r _ => pNO_none ?_)
        unfold pm_fo
        rw [if_pos c5, hn, Option.bind_some, t3]
        rfl
      · obtain ⟨-, x2, x3, x4, x5⟩ := gm_c_t t3
        obtain ⟨v1, v2, v3, v4⟩ := gm_d_e (t := t)
        have dT : gm_T (gm_d t) = gm_T t := by unfold gm_d; rw [gm_T_mk]
        have hl := hR.2.1
        have ln : gm_len s = ((gm_T s).length : Int) := rfl
        have oo : mi_in (gm_len s) := ⟨by omega, by omega⟩
        refine mt_kpwD t1 of od ⟨by decide, by decide⟩ owz oo ?_
        intro h6 l1 l2
        have e := me_nil l2
        subst e
        refine go79 1 n (gm_len s) (fun r => (2, 0, 0) :: r) h6 (gm_d t) ⟨by decide, by decide⟩ oo (by omega) (by omega) ⟨t1, t4, t5, e01, (me_f (c := 13579) t2 hS rfl rfl).trans i4, pq_R_D t6 dT v2⟩ F5 (Or.inr ⟨by omega, rfl, fun r => rfl, by rw [v3, x4], by rw [v4, x5], ⟨n, by rw [dT, x3]⟩, fun i hi2 => by rw [t7, if_neg (by omega)]⟩) (fun r hr => ?_)
        unfold pm_fo
        rw [if_pos c5, hn, Option.bind_some, t3]
        exact pRO_refl
    · refine mt_kpwB q1 of od ⟨by decide, by decide⟩ ⟨by decide, by decide⟩ ?_
      intro h3 r1 r2
      have e := me_nil r2
      subst e
      refine mt_kpwC q1 of od ⟨by decide, by decide⟩ ⟨by decide, by decide⟩ (by intros; exfalso; omega) ?_ (by intros; exfalso; omega)
      intro b2 c6 c7 h4 s1 s2
      have e := me_nil s2
      subst e
      refine stop 0 h4 (by decide) (by omega) q1 (q2.wide (fun c hc => ab_swr_ok (by decide) hc)) ⟨q3, Or.inr (by rw [q4]; exact b76.1)⟩ ((me_f (c := 13573) q2 hS rfl rfl).trans i3) (fun r _ => pNO_none ?_)
      unfold pm_fo
      rw [if_pos c5, hn]
      rfl
/-- all depths -/
theorem pq_F_all (hTok : pq_tok E p N h0) (hEN : E.1 N = 0) (hN : N ≤ 160) (hV : pq_V E N) (hH : pm_Hs g Y E pf pa) : ∀ k : Nat, k ≤ 60 → pq_F E p N h0 f it g Y kw (12 + 4 * k) (60 - (k : Int)) := by
  intro k
  induction k with
  | zero =>
    intro _ h s u F hi hG F0 F1 u0 u1 hz
    have := (hG.1.1.2.2.2 F F0 F1).2.1
    exfalso; omega
  | succ k ih =>
    intro hk
    have e : (60 : Int) - ((k + 1 : Nat) : Int) + 1 = 60 - (k : Int) := by omega
    have := me_pform (d := 4 * k) (f := f) (it := it) (g := g) (Y := Y) (kw := kw) (zd := 60 - ((k + 1 : Nat) : Int)) hTok hEN hN hV hH (by
      rw [e, Nat.add_comm]
      exact ih (by omega)) (by omega)
    have e2 : 12 + 4 * (k + 1) = 4 * k + 16 := by omega
    rw [e2]
    exact this
end PW5
/-! the class's parsing walk, from its begin to its end -/
section PW6
variable {E : pm_E} {p : Int → Int} {N : Int} {h0 : sm_H} {f : Int → Int} {it : Int → Prop} {g : wk_g} {Y : wk_Y} {kw : Int → Bool} {pf pa : Int → Int → Bool}
/-- from where it goes -/
def pc_0 (g : wk_g) (X : Int64) : Option gm_C := pm_en 0 g 0 [] (X, 0, [], 0, [])
def pc_End (E : pm_E) (g : wk_g) (X : Int64) (h : sm_H) (w : Option mi_V) (h' : sm_H) : Prop := w = none ∧ ab_Sh sx_sk h' ∧ ab_Fr pq_W h h' ∧ ((pq_bad h' ∧ pm_NO g E (pc_0 g X)) ∨ (mi_f h' 13572 = 0 ∧ mi_f h' 13579 = -1 ∧ ∃ s', pm_RO g E (pc_0 g X) ([], s') ∧ pm_K E s' = 0 ∧ gq_T h' (gm_T s') ∧ gm_len s' ≤ 100 ∧ fo 0 (gm_T s') ∧ gz h' 0 (gm_T s')))
theorem me_pwalk {h : sm_H} {X : Int64} (hTok : pq_tok E p N h0) (hN0 : 0 ≤ N) (hEN : E.1 N = 0) (hN : N ≤ 160) (hp0 : p 0 = 0) (hV : pq_V E N) (hH : pm_Hs g Y E pf pa) (hS : ab_Sh sx_sk h) (hG : pq_H E h0 f it g Y kw h) (r0 : 0 ≤ g 114 0) (r1 : g 114 0 < wk_f Y) (rf : f (g 114 0) = 0) : me_E 254 103 0 [some (.inr (.inr 106))] [] h (pc_End E g X h) := by
  refine mt_kphA (d := 240) hS ?_
  intro h1 g1 g2 g3 g4 g5
  have hG1 := pq_H_fr hG g5 hS rfl
  refine ⟨fun w h2 => w = none ∧ ab_Sh sx_sk h2 ∧ ab_Fr [(13056, 13057), (13571, 13572), (13575, 13580)] h1 h2 ∧ mi_f h2 13056 = 0 ∧ mi_f h2 13577 = E.1 0 ∧ ((E.1 0 = 1 ∨ E.1 0 = 2) → mi_f h2 13578 = E.2.1 0) ∧ mi_f h2 13575 = p 1 ∧ ((E.1 0 = -1 ∧ mi_f h2 13571 = 1 ∧ 0 ≤ mi_f h2 13579) ∨ (E.1 0 ≠ -1 ∧ mi_f h2 13571 = 0 ∧ mi_f h2 13579 = -1)), ?_, fun w h2 hw hq => ?_⟩
  · refine mt_kpbA (d := 240) g1 ?_
    intro h2 k1 k2 k3 k4 k5
    refine ⟨_, hTok 244 h2 0 k1 (pq_H_fr hG1 k5 g1 rfl).2.2 (by decide) hN0 (k3.trans hp0.symm), fun w h3 hw hq => ?_⟩
    obtain ⟨rfl, q1, q2, q3, q4, q5, q6⟩ := hq
    refine mt_kpbB (d := 240) q1 ?_
    intro h4 r1 r2
    have e := me_nil r2
    subst e
    refine ⟨rfl, q1, (k5.wide (fun c hc => ab_swr_ok (by decide) hc)).trans (q2.wide (fun c hc => ab_swr_ok (by decide) hc)), (me_f (c := 13056) q2 k1 rfl rfl).trans k2, q3, q4, q5, ?_⟩
    rcases q6 with q6 | ⟨a, b, c⟩
    · exact Or.inl q6
    · exact Or.inr ⟨a, (b.trans (me_f (c := 13571) k5 g1 rfl rfl)).trans g2, c.trans k4⟩
  · obtain ⟨rfl, q1, q2, q3, q4, q5, q6, q7⟩ := hq
    have F2 : ab_Fr pq_W h h2 := (g5.wide (fun c hc => ab_swr_ok (by decide) hc)).trans (q2.wide (fun c hc => ab_swr_ok (by decide) hc))
    have een : pc_0 g X = some ([(1, g 114 0, 0), (2, 1, 0)], (X, 0, [(1, 0, 0)], 1, [])) := by
      unfold pc_0 pm_en gm_c
      rw [if_neg (show ¬ (12 : Int) ≤ 0 + wk_ul [] by decide), gm_X_mk, gm_F_mk, gm_T_mk, gm_D_mk, gm_P_mk, if_neg (show ¬ 100 ≤ ([] : List (Int × Int × Int)).length by decide)]
      rfl
    refine mt_kphB (d := 240) q1 ?_ ?_
    · intro b c h3 s1 s2
      have e := me_nil s2
      subst e
      rcases q7 with ⟨a1, a2, a3⟩ | ⟨a1, a2, a3⟩
      · refine ⟨rfl, q1, F2, Or.inl ⟨⟨a2, Or.inr a3⟩, ?_⟩⟩
        rw [een]
        exact pNO_bad pRO_refl (by show E.1 0 = -1; exact a1)
      · exact absurd a2 c
    · intro b c h3 s1 s2
      have e := me_nil s2
      subst e
      rcases q7 with ⟨a1, a2, a3⟩ | ⟨a1, a2, a3⟩
      · exfalso; omega
      have hR3 : pq_R E p N h3 (X, 0, [], 0, []) := by
        unfold pq_R gm_len pm_K
        simp only [gm_T_mk, gm_F_mk]
        exact ⟨⟨q3, fun k hk => absurd hk (Nat.not_lt_zero _)⟩, by decide, ⟨by decide, hN0, q4, q5, q6⟩, a1⟩
      have hG3 := pq_H_fr hG1 q2 g1 rfl
      refine ⟨_, me_puse (d := 240) (u := 0) (i := 0) (zd := 0) (s := (X, 0, [], 0, [])) (pq_F_all hTok hEN hN hV hH 60 (by decide)) ⟨q1, c, (me_f (c := 13572) q2 g1 rfl rfl).trans g3, (me_f (c := 13573) q2 g1 rfl rfl).trans g4, a3, hR3⟩ hG3 (by decide) (by decide) r0 r1 rf (by decide) (by decide) (by decide) (by decide), fun w h4 hw hq => ?_⟩
      obtain ⟨rfl, v1, v2, v3, v4⟩ := hq
      have F4 : ab_Fr pq_W h h4 := F2.trans v2
      have b76 := me_fb (c := 13576) v1 rfl
      rcases v4 with ⟨v4, v5⟩ | ⟨v4, v5, v5', s', v6, v7, v8, v9⟩
      · have v41 := v4.1
        refine mt_kphC (d := 240) v1 ?_ (by intros; exfalso; omega) (by intros; exfalso; omega)
        intro b2 c2 h5 x1 x2
        have e := me_nil x2
        subst e
        exact ⟨rfl, v1, F4, Or.inl ⟨v4, v5 [] rfl⟩⟩
      · have ek : mi_f h4 13577 = pm_K E s' := v6.2.2.1.2.2.1
        have hro := v9 [] rfl
        refine mt_kphC (d := 240) v1 (by intros; exfalso; omega) ?_ ?_
        · intro b2 b3 c2 c3 h5 x1 x2
          have e := me_nil x2
          subst e
          obtain ⟨-, A, w2, w3, w4, -⟩ := v8
          have w2 : gm_T s' = A := w2
          have w3 : fo 0 A := w3
          have w4 : gz _ 0 A := w4
          refine ⟨rfl, v1, F4, Or.inr ⟨v5, v5', s', hro, by omega, v6.1, v6.2.1, by rw [w2]; exact w3, by rw [w2]; exact w4⟩⟩
        · intro b2 b3 c2 c3 h5 x1 x2 x3 x4
          refine ⟨rfl, x1, F4.trans (x4.wide (fun c hc => ab_swr_ok (by decide) hc)), Or.inl ⟨⟨x2, Or.inr (by rw [x3]; exact b76.1)⟩, pNO_of hro (fun n s'' hn => ?_)⟩⟩
          obtain ⟨-, e⟩ := pw_end _ hn
          injection e with _ e
          rw [e]
          omega
end PW6
/-! segments of the class: TwoWayGrammar.parse, which may throw -/
set_option maxRecDepth 20000 in
theorem mp_kqpA_0 (h : sm_H) (d : Nat) : mj_path [(102, (1, 1, sb_102))] sx_sk h 5 [1] (d + 1, 102, 0, [some (.inr (.inr 51))], [], [], []) = some ((d + 1, 102, 21, [some (.inr (.inr 51))], [.inr (.inr 106)], [], []), [(mi_f h 6543) ≠ ((0 : Int))]) := rfl
theorem mi_tab_kqpA_0 : ∀ e ∈ ([(102, (1, 1, sb_102))] : mi_T), sc_P e.1 = some e.2 := mi_tb mi_P102 (mi_tb_e)
set_option maxRecDepth 20000 in
theorem ms_kqpA_0 {h : sm_H} {d : Nat} {QT : Nat → sm_H → Prop} {Q : Option mi_V → sm_H → Prop} (hS : ab_Sh sx_sk h)  (ho : ((mi_f h 6543) ≠ ((0 : Int)))) (kon : ∀ h1, me_W [] h h1 → ∃ Q1, me_E (d + 0) 103 0 (mi_entry 1 [.inr (.inr 106)]) [] h1 Q1 ∧ ∀ w h2, (∀ x, w = some x → mi_ok x) → Q1 w h2 → mg_E QT (d + 1) 102 24 [some (.inr (.inr 51))] (mi_back w []) h2 Q) : mg_E QT (d + 1) 102 0 [some (.inr (.inr 51))] [] h Q := mg_seg (mp_kqpA_0 h d ) (mi_tab_kqpA_0) hS (mi_okL_c (trivial) (mi_okL_e)) (mi_okS_e) (mi_al (ho) (mi_al_e)) (fun h1 W _ hst => let ⟨_, k1, k2⟩ := kon h1 W; mg_call (M := (1, 1, sb_102)) (M' := (1, 0, sb_103)) rfl rfl rfl rfl (Nat.le_of_ble_eq_true rfl) (Nat.le_of_ble_eq_true rfl) W.1 k1 k2)
set_option maxRecDepth 20000 in
theorem mp_kqpA_1 (h : sm_H) (d : Nat) : mj_path [(102, (1, 1, sb_102))] sx_sk h 3 [0] (d + 1, 102, 0, [some (.inr (.inr 51))], [], [], []) = some ((d + 1, 102, 7, [some (.inr (.inr 51))], [], [], []), [(mi_f h 6543) = ((0 : Int))]) := rfl
theorem mi_tab_kqpA_1 : ∀ e ∈ ([(102, (1, 1, sb_102))] : mi_T), sc_P e.1 = some e.2 := mi_tb mi_P102 (mi_tb_e)
set_option maxRecDepth 20000 in
theorem ms_kqpA_1 {h : sm_H} {d : Nat} {QT : Nat → sm_H → Prop} {Q : Option mi_V → sm_H → Prop} (hS : ab_Sh sx_sk h)  (ho : ((mi_f h 6543) = ((0 : Int)))) (kon : ∀ h1, me_W [] h h1 → mg_E QT (d + 1) 102 7 [some (.inr (.inr 51))] [] h1 Q) : mg_E QT (d + 1) 102 0 [some (.inr (.inr 51))] [] h Q := mg_seg (mp_kqpA_1 h d ) (mi_tab_kqpA_1) hS (mi_okL_c (trivial) (mi_okL_e)) (mi_okS_e) (mi_al (ho) (mi_al_e)) (fun h1 W _ hst => kon h1 W)
set_option maxRecDepth 20000 in
theorem mt_kqpA {h : sm_H} {d : Nat} {QT : Nat → sm_H → Prop} {Q : Option mi_V → sm_H → Prop} (hS : ab_Sh sx_sk h)  (k0 : (0 ≤ mi_f h 6543 ∧ mi_f h 6543 ≤ 1) → ((mi_f h 6543) ≠ ((0 : Int))) → (∀ h1, ab_Sh sx_sk h1 → ab_Fr [] h h1 → ∃ Q1, me_E (d + 0) 103 0 (mi_entry 1 [.inr (.inr 106)]) [] h1 Q1 ∧ ∀ w h2, (∀ x, w = some x → mi_ok x) → Q1 w h2 → mg_E QT (d + 1) 102 24 [some (.inr (.inr 51))] (mi_back w []) h2 Q)) (k1 : (0 ≤ mi_f h 6543 ∧ mi_f h 6543 ≤ 1) → ((mi_f h 6543) = ((0 : Int))) → (∀ h1, ab_Sh sx_sk h1 → ab_Fr [] h h1 → mg_E QT (d + 1) 102 7 [some (.inr (.inr 51))] [] h1 Q)) : mg_E QT (d + 1) 102 0 [some (.inr (.inr 51))] [] h Q := Or.elim (mi_em .ne ((mi_f h 6543)) (((0 : Int)))) (fun c0 => ms_kqpA_0 hS (c0) (fun h1 W => (k0 (me_fb hS rfl) c0) h1 W.1 (W.2.2.2.2.2 _ rfl))) (fun c0 => ms_kqpA_1 hS (c0) (fun h1 W => (k1 (me_fb hS rfl) c0) h1 W.1 (W.2.2.2.2.2 _ rfl)))
set_option maxRecDepth 20000 in
theorem mp_kqpB_0 (h : sm_H) (d : Nat) : mj_path [(102, (1, 1, sb_102))] sx_sk h 13 [1, 1] (d + 1, 102, 24, [some (.inr (.inr 51))], [], [], []) = some ((d + 1, 102, 73, [some (.inr (.inr 51))], [.inr (.inr 102), .inr (.inr 94)], [], []), [(mi_f h 13572) = ((0 : Int)), (mi_f h 13579) = ((-1 : Int))]) := rfl
theorem mi_tab_kqpB_0 : ∀ e ∈ ([(102, (1, 1, sb_102))] : mi_T), sc_P e.1 = some e.2 := mi_tb mi_P102 (mi_tb_e)
set_option maxRecDepth 20000 in
theorem ms_kqpB_0 {h : sm_H} {d : Nat} {QT : Nat → sm_H → Prop} {Q : Option mi_V → sm_H → Prop} (hS : ab_Sh sx_sk h)  (ho : ((mi_f h 13572) = ((0 : Int))) ∧ ((mi_f h 13579) = ((-1 : Int)))) (kon : ∀ h1, me_W [] h h1 → ∃ Q1, me_E (d + 0) 93 0 (mi_entry 3 [.inr (.inr 94), .inr (.inr 102)]) [] h1 Q1 ∧ ∀ w h2, (∀ x, w = some x → mi_ok x) → Q1 w h2 → mg_E QT (d + 1) 102 76 [some (.inr (.inr 51))] (mi_back w []) h2 Q) : mg_E QT (d + 1) 102 24 [some (.inr (.inr 51))] [] h Q := mg_seg (mp_kqpB_0 h d ) (mi_tab_kqpB_0) hS (mi_okL_c (trivial) (mi_okL_e)) (mi_okS_e) (mi_al (ho.1) (mi_al (ho.2) (mi_al_e))) (fun h1 W _ hst => let ⟨_, k1, k2⟩ := kon h1 W; mg_call (M := (1, 1, sb_102)) (M' := (3, 0, sb_93)) rfl rfl rfl rfl (Nat.le_of_ble_eq_true rfl) (Nat.le_of_ble_eq_true rfl) W.1 k1 k2)
set_option maxRecDepth 20000 in
theorem mp_kqpB_1 (h : sm_H) (d : Nat) : mj_path [(102, (1, 1, sb_102))] sx_sk h 14 [1, 0, 8] (d + 1, 102, 24, [some (.inr (.inr 51))], [], [], []) = some ((d + 1, 102, 64, [some (.inr (.inr 51))], [.inl (((-1 : Int)) - (mi_f h 13579))], [], []), [(mi_f h 13572) = ((0 : Int)), (mi_f h 13579) ≠ ((-1 : Int)), -2147483648 ≤ ((-1 : Int)) - (mi_f h 13579) ∧ ((-1 : Int)) - (mi_f h 13579) ≤ 2147483647]) := rfl
theorem mi_tab_kqpB_1 : ∀ e ∈ ([(102, (1, 1, sb_102))] : mi_T), sc_P e.1 = some e.2 := mi_tb mi_P102 (mi_tb_e)
set_option maxRecDepth 20000 in
theorem ms_kqpB_1 {h : sm_H} {d : Nat} {QT : Nat → sm_H → Prop} {Q : Option mi_V → sm_H → Prop} (hS : ab_Sh sx_sk h)  (ho : ((mi_f h 13572) = ((0 : Int))) ∧ ((mi_f h 13579) ≠ ((-1 : Int))) ∧ (-2147483648 ≤ ((-1 : Int)) - (mi_f h 13579) ∧ ((-1 : Int)) - (mi_f h 13579) ≤ 2147483647)) (kon : ∀ h1, me_W [] h h1 → Q (some (.inl (((-1 : Int)) - (mi_f h 13579)))) h1) : mg_E QT (d + 1) 102 24 [some (.inr (.inr 51))] [] h Q := mg_seg (mp_kqpB_1 h d ) (mi_tab_kqpB_1) hS (mi_okL_c (trivial) (mi_okL_e)) (mi_okS_e) (mi_al (ho.1) (mi_al (ho.2.1) (mi_al (ho.2.2) (mi_al_e)))) (fun h1 W _ hst => mg_ret (M := (1, 1, sb_102)) rfl rfl rfl hst (mi_al_e) (kon h1 W))
set_option maxRecDepth 20000 in
theorem mp_kqpB_2 (h : sm_H) (d : Nat) : mj_path [(102, (1, 1, sb_102))] sx_sk h 4 [0] (d + 1, 102, 24, [some (.inr (.inr 51))], [], [], []) = some ((d + 1, 102, 34, [some (.inr (.inr 51))], [], [], []), [(mi_f h 13572) ≠ ((0 : Int))]) := rfl
theorem mi_tab_kqpB_2 : ∀ e ∈ ([(102, (1, 1, sb_102))] : mi_T), sc_P e.1 = some e.2 := mi_tb mi_P102 (mi_tb_e)
set_option maxRecDepth 20000 in
theorem ms_kqpB_2 {h : sm_H} {d : Nat} {QT : Nat → sm_H → Prop} {Q : Option mi_V → sm_H → Prop} (hS : ab_Sh sx_sk h)  (ho : ((mi_f h 13572) ≠ ((0 : Int)))) (kon : ∀ h1, me_W [] h h1 → mg_E QT (d + 1) 102 34 [some (.inr (.inr 51))] [] h1 Q) : mg_E QT (d + 1) 102 24 [some (.inr (.inr 51))] [] h Q := mg_seg (mp_kqpB_2 h d ) (mi_tab_kqpB_2) hS (mi_okL_c (trivial) (mi_okL_e)) (mi_okS_e) (mi_al (ho) (mi_al_e)) (fun h1 W _ hst => kon h1 W)
set_option maxRecDepth 20000 in
theorem mt_kqpB {h : sm_H} {d : Nat} {QT : Nat → sm_H → Prop} {Q : Option mi_V → sm_H → Prop} (hS : ab_Sh sx_sk h)  (k0 : (0 ≤ mi_f h 13572 ∧ mi_f h 13572 ≤ 1) → ((-2147483648) ≤ mi_f h 13579 ∧ mi_f h 13579 ≤ 2147483647) → ((mi_f h 13572) = ((0 : Int))) → ((mi_f h 13579) = ((-1 : Int))) → (∀ h1, ab_Sh sx_sk h1 → ab_Fr [] h h1 → ∃ Q1, me_E (d + 0) 93 0 (mi_entry 3 [.inr (.inr 94), .inr (.inr 102)]) [] h1 Q1 ∧ ∀ w h2, (∀ x, w = some x → mi_ok x) → Q1 w h2 → mg_E QT (d + 1) 102 76 [some (.inr (.inr 51))] (mi_back w []) h2 Q)) (k1 : (0 ≤ mi_f h 13572 ∧ mi_f h 13572 ≤ 1) → ((-2147483648) ≤ mi_f h 13579 ∧ mi_f h 13579 ≤ 2147483647) → ((mi_f h 13572) = ((0 : Int))) → ((mi_f h 13579) ≠ ((-1 : Int))) → ((-2147483648 ≤ ((-1 : Int)) - (mi_f h 13579) ∧ ((-1 : Int)) - (mi_f h 13579) ≤ 2147483647)) ∧ (∀ h1, ab_Sh sx_sk h1 → ab_Fr [] h h1 → Q (some (.inl (((-1 : Int)) - (mi_f h 13579)))) h1)) (k2 : (0 ≤ mi_f h 13572 ∧ mi_f h 13572 ≤ 1) → ((mi_f h 13572) ≠ ((0 : Int))) → (∀ h1, ab_Sh sx_sk h1 → ab_Fr [] h h1 → mg_E QT (d + 1) 102 34 [some (.inr (.inr 51))] [] h1 Q)) : mg_E QT (d + 1) 102 24 [some (.inr (.inr 51))] [] h Q := Or.elim (mi_em .eq ((mi_f h 13572)) (((0 : Int)))) (fun c0 => Or.elim (mi_em .eq ((mi_f h 13579)) (((-1 : Int)))) (fun c1 => ms_kqpB_0 hS ⟨c0, c1⟩ (fun h1 W => (k0 (me_fb hS rfl) (me_fb hS rfl) c0 c1) h1 W.1 (W.2.2.2.2.2 _ rfl))) (fun c1 => ms_kqpB_1 hS ⟨c0, c1, (k1 (me_fb hS rfl) (me_fb hS rfl) c0 c1).1⟩ (fun h1 W => (k1 (me_fb hS rfl) (me_fb hS rfl) c0 c1).2 h1 W.1 (W.2.2.2.2.2 _ rfl)))) (fun c0 => ms_kqpB_2 hS (c0) (fun h1 W => (k2 (me_fb hS rfl) c0) h1 W.1 (W.2.2.2.2.2 _ rfl)))
set_option maxRecDepth 20000 in
theorem mp_kqpC_0 (h : sm_H) (d : Nat) : mj_path [(102, (1, 1, sb_102))] sx_sk h 3 [] (d + 1, 102, 76, [some (.inr (.inr 51))], [], [], []) = some ((d + 1, 102, 83, [some (.inr (.inr 51))], [.inl (mi_f h 12032)], [], []), []) := rfl
theorem mi_tab_kqpC_0 : ∀ e ∈ ([(102, (1, 1, sb_102))] : mi_T), sc_P e.1 = some e.2 := mi_tb mi_P102 (mi_tb_e)
set_option maxRecDepth 20000 in
theorem ms_kqpC_0 {h : sm_H} {d : Nat} {QT : Nat → sm_H → Prop} {Q : Option mi_V → sm_H → Prop} (hS : ab_Sh sx_sk h)  (kon : ∀ h1, me_W [] h h1 → Q (some (.inl (mi_f h 12032))) h1) : mg_E QT (d + 1) 102 76 [some (.inr (.inr 51))] [] h Q := mg_seg (mp_kqpC_0 h d ) (mi_tab_kqpC_0) hS (mi_okL_c (trivial) (mi_okL_e)) (mi_okS_e) (mi_al_e) (fun h1 W _ hst => mg_ret (M := (1, 1, sb_102)) rfl rfl rfl hst (mi_al_e) (kon h1 W))
set_option maxRecDepth 20000 in
theorem mt_kqpC {h : sm_H} {d : Nat} {QT : Nat → sm_H → Prop} {Q : Option mi_V → sm_H → Prop} (hS : ab_Sh sx_sk h)  (k0 : (∀ h1, ab_Sh sx_sk h1 → ab_Fr [] h h1 → Q (some (.inl (mi_f h 12032))) h1)) : mg_E QT (d + 1) 102 76 [some (.inr (.inr 51))] [] h Q := ms_kqpC_0 hS (fun h1 W => (k0) h1 W.1 (W.2.2.2.2.2 _ rfl))
/-! parse of the class, exactly -/
section PCX
variable {h : sm_H}
def pcr_W : List (Nat × Nat) := [(12032, 12033), (12160, 12161), (12288, 12289), (12416, 12417), (13056, 13057), (13184, 13185), (13312, 13313), (13440, 13441), (13571, 13574), (13575, 13580)]
/-- what is asked of the rows, the sets, the tokens -/
def pc_H (h : sm_H) (g : wk_g) (E : pm_E) : Prop := ∃ (p : Int → Int) (N : Int) (f : Int → Int) (it : Int → Prop) (Y : wk_Y) (kw : Int → Bool) (pf pa : Int → Int → Bool), pq_tok E p N h ∧ (0 ≤ N ∧ N ≤ 160 ∧ E.1 N = 0) ∧ p 0 = 0 ∧ pq_V E N ∧ pm_Hs g Y E pf pa ∧ pq_H E h f it g Y kw h ∧ wk_Lrule Y (g 114 0) ∧ f (g 114 0) = 0
def pc_T (h : sm_H) (g : wk_g) (E : pm_E) (x : Nat) (h' : sm_H) : Prop := ∃ h1, h' = h1 ++ [sm_exc x] ∧ ab_Sh sx_sk h1 ∧ ab_Fr pq_W h h1 ∧ ((x = 14 ∧ mi_f h 6543 = 0) ∨ (x = 15 ∧ mi_f h 6543 ≠ 0 ∧ pm_NO g E (pc_0 g 0)))
def pc_Q (h : sm_H) (g : wk_g) (E : pm_E) (w : Option mi_V) (h' : sm_H) : Prop := ab_Sh sx_sk h' ∧ mi_f h 6543 ≠ 0 ∧ (∃ z, w = some (.inl z)) ∧ ((pm_NO g E (pc_0 g 0) ∧ ab_Fr pq_W h h') ∨ (ab_Fr pcr_W h h' ∧ ∃ s', pm_RO g E (pc_0 g 0) ([], s') ∧ pm_K E s' = 0 ∧ w = some (.inl ((gm_T s').length : Int)) ∧ (gm_T s').length ≤ 100 ∧ gc_S h' (gm_T s')))
theorem me_parsec {g : wk_g} {E : pm_E} (hS : ab_Sh sx_sk h) (hG : mi_f h 6543 ≠ 0 → pc_H h g E) : mg_E (pc_T h g E) 255 102 0 [some (.inr (.inr 51))] [] h (pc_Q h g E) := by
  refine mt_kqpA (d := 254) hS ?_ ?_
  · intro b c h1 g1 g2
    have e := me_nil g2
    subst e
    obtain ⟨p, N, f, it, Y, kw, pf, pa, k1, ⟨k2, k3, k4⟩, k5, k6, k7, k8, k9, k10⟩ := hG c
    refine ⟨_, me_pwalk (X := 0) k1 k2 k4 k3 k5 k6 k7 hS k8 k9.1 k9.2.1 k10, fun w h2 hw hq => ?_⟩
    obtain ⟨rfl, q1, q2, q3⟩ := hq
    refine mt_kqpB (d := 254) q1 ?_ ?_ ?_
    · intro b1 b2 c1 c2 h3 r1 r2
      have e := me_nil r2
      subst e
      rcases q3 with ⟨q3, -⟩ | ⟨-, -, s', q4, q5, q6, q7, q8, q9⟩
      · have := q3.2
        exfalso; omega
      obtain ⟨t1, t2⟩ := q6
      have q7 : ((gm_T s').length : Int) ≤ 100 := q7
      refine ⟨_, me_gtake (d := 252) q1 (by omega) (by omega), fun w h4 hw hq => ?_⟩
      obtain ⟨rfl, u1, u2, u3, u4⟩ := hq
      refine mt_kqpC (d := 254) u1 ?_
      intro h5 v1 v2
      have e := me_nil v2
      subst e
      refine ⟨u1, c, ⟨_, rfl⟩, Or.inr ⟨(q2.wide (fun c hc => ab_swr_ok (by decide) hc)).trans (u2.wide (fun c hc => ab_swr_ok (by decide) hc)), s', q4, q5, by rw [u3, t1], by omega, ⟨u3.trans t1, fun k hk => ?_⟩, q8, fun k hk => ?_⟩⟩
      · obtain ⟨l, q, hl⟩ := t2 k hk
        obtain ⟨x1, x2, -⟩ := u4 k (by omega)
        exact ⟨l, q, by rw [x1, x2]; exact hl⟩
      · have := q9 k hk
        rw [Nat.zero_add] at this
        rw [this, (u4 k (by omega)).2.2]
    · intro b1 b2 c1 c2
      refine ⟨by have := me_fb (c := 13579) q1 rfl; omega, fun h3 r1 r2 => ?_⟩
      have e := me_nil r2
      subst e
      rcases q3 with ⟨q3, q4⟩ | ⟨-, q4, -⟩
      · exact ⟨q1, c, ⟨_, rfl⟩, Or.inl ⟨q4, q2⟩⟩
      · exact absurd q4 c2
    · intro b1 c1 h3 r1 r2
      have e := me_nil r2
      subst e
      rcases q3 with ⟨q3, q4⟩ | ⟨q4, -⟩
      · exact mg_thr (M := (1, 1, sb_102)) (x := 15) rfl rfl rfl ⟨h3, rfl, q1, q2, Or.inr ⟨rfl, c, q4⟩⟩
      · exact absurd q4 c1
  · intro b c h1 g1 g2
    have e := me_nil g2
    subst e
    exact mg_thr (M := (1, 1, sb_102)) (x := 14) rfl rfl rfl ⟨h1, rfl, g1, ab_Fr.refl, Or.inl ⟨rfl, c⟩⟩
end PCX
/-! TOKENS of an input, purely: n characters c, m literals L -/
def tx_dec (c : Nat → Int) (k : Int) : Nat → Int
  | 0 => 0
  | m + 1 => 10 * tx_dec c k m + (c (k + m).toNat - 48)
theorem tx_dec_b {c : Nat → Int} {k : Int} : ∀ m : Nat, (∀ j, k ≤ j → j < k + m → tx_dig (c j.toNat)) → 0 ≤ tx_dec c k m ∧ tx_dec c k m < 10 ^ m := by
  intro m
  induction m with
  | zero => intro _; exact ⟨Int.le_refl _, show (0 : Int) < 10 ^ 0 by decide⟩
  | succ m ih =>
    intro h
    obtain ⟨i1, i2⟩ := ih (fun j j0 j1 => h j j0 (by omega))
    obtain ⟨x1, x2⟩ := h (k + m) (by omega) (by omega)
    have e : (10 : Int) ^ (m + 1) = 10 * 10 ^ m := by rw [Int.pow_succ, Int.mul_comm]
    show 0 ≤ 10 * tx_dec c k m + (c (k + m).toNat - 48) ∧ 10 * tx_dec c k m + (c (k + m).toNat - 48) < 10 ^ (m + 1)
    omega
/-- the first place of c, or -1 -/
def fx (m : Int) (L : Nat → Int) (c z : Int) : Prop := (0 ≤ z ∧ z < m ∧ L z.toNat = c ∧ ∀ j : Nat, (j : Int) < z → L j ≠ c) ∨ (z = -1 ∧ ∀ j : Nat, (j : Int) < m → L j ≠ c)
theorem fx_u {m : Int} {L : Nat → Int} {c z z' : Int} (h : fx m L c z) (h' : fx m L c z') : z = z' := by
  rcases h with ⟨a1, a2, a3, a4⟩ | ⟨a1, a2⟩
  · rcases h' with ⟨b1, b2, b3, b4⟩ | ⟨b1, b2⟩
    · rcases Int.lt_trichotomy z z' with x | x | x
      · exact absurd a3 (b4 z.toNat (by omega))
      · exact x
      · exact absurd b3 (a4 z'.toNat (by omega))
    · exact absurd a3 (b2 z.toNat (by omega))
  · rcases h' with ⟨b1, b2, b3, b4⟩ | ⟨b1, b2⟩
    · exact absurd b3 (a2 z'.toNat (by omega))
    · omega
theorem fx_c {m : Int} {L L' : Nat → Int} {c z : Int} (hL : ∀ l : Nat, (l : Int) < m → L' l = L l) (h : fx m L c z) : fx m L' c z := by
  rcases h with ⟨a1, a2, a3, a4⟩ | ⟨a1, a2⟩
  · exact Or.inl ⟨a1, a2, by rw [hL _ (by omega)]; exact a3, fun j hj => by rw [hL j (by omega)]; exact a4 j hj⟩
  · exact Or.inr ⟨a1, fun j hj => by rw [hL j hj]; exact a2 j hj⟩
/-- the token from a on: its kind k, its worth v, its place s, where it ends e -/
def tq_T (n : Int) (c : Nat → Int) (m : Int) (L : Nat → Int) (a k v s e : Int) : Prop :=
  tx_end tx_blk n c a s ∧ ((¬ s < n ∧ k = 0 ∧ e = s) ∨ (s < n ∧ (
    (tx_dig (c s.toNat) ∧ tx_end tx_dig n c s e ∧ ((e - s ≤ 4 ∧ k = 1 ∧ v = tx_dec c s (e - s).toNat) ∨ (4 < e - s ∧ k = -1))) ∨
    (tx_low (c s.toNat) ∧ tx_end tx_low n c s e ∧ ((e - s ≤ 6 ∧ v = tx_code c s (e - s).toNat ∧ ∃ z, fx m L v z ∧ k = if z = -1 then 2 else 3 + z) ∨ (6 < e - s ∧ k = -1))) ∨
    (¬ tx_dig (c s.toNat) ∧ ¬ tx_low (c s.toNat) ∧ e = s + 1 ∧ ∃ z, fx m L (-(c s.toNat)) z ∧ k = if z = -1 then -1 else 3 + z))))
theorem tq_u {n : Int} {c : Nat → Int} {m : Int} {L : Nat → Int} {a k v s e k' v' s' e' : Int} (h : tq_T n c m L a k v s e) (h' : tq_T n c m L a k' v' s' e') : k = k' ∧ s = s' ∧ e = e' ∧ ((k = 1 ∨ k = 2) → v = v') := by
  obtain ⟨h1, h2⟩ := h
  obtain ⟨g1, g2⟩ := h'
  have es := tx_end_u h1 g1
  subst es
  have kz : ∀ z z' : Int, z = z' → (if z = -1 then (2 : Int) else 3 + z) = if z' = -1 then 2 else 3 + z' := fun z z' e => by rw [e]
  have kz2 : ∀ z z' : Int, z = z' → (if z = -1 then (-1 : Int) else 3 + z) = if z' = -1 then -1 else 3 + z' := fun z z' e => by rw [e]
  rcases h2 with ⟨x1, x2, x3⟩ | ⟨x1, x2⟩
  · rcases g2 with ⟨y1, y2, y3⟩ | ⟨y1, y2⟩
    · exact ⟨by omega, rfl, by omega, fun q => by omega⟩
    · omega
  rcases g2 with ⟨y1, y2, y3⟩ | ⟨y1, y2⟩
  · omega
  unfold tx_dig tx_low at x2 y2
  rcases x2 with ⟨x3, x4, x5⟩ | ⟨x3, x4, x5⟩ | ⟨x3, x4, x5, z, x6, x7⟩
  · rcases y2 with ⟨y3, y4, y5⟩ | ⟨y3, -⟩ | ⟨y3, -⟩
    · have ee := tx_end_u x4 y4
      subst ee
      rcases x5 with ⟨u1, u2, u3⟩ | ⟨u1, u2⟩ <;> rcases y5 with ⟨w1, w2, w3⟩ | ⟨w1, w2⟩
      · exact ⟨by omega, rfl, rfl, fun _ => by omega⟩
      · omega
      · omega
      · exact ⟨by omega, rfl, rfl, fun q => by omega⟩
    · exfalso; omega
    · exact absurd x3 y3
  · rcases y2 with ⟨y3, -⟩ | ⟨y3, y4, y5⟩ | ⟨-, y3, -⟩
    · exfalso; omega
    · have ee := tx_end_u x4 y4
      subst ee
      rcases x5 with ⟨u1, u2, z, u3, u4⟩ | ⟨u1, u2⟩ <;> rcases y5 with ⟨w1, w2, z', w3, w4⟩ | ⟨w1, w2⟩
      · have ev : v = v' := by omega
        subst ev
        exact ⟨by rw [u4, w4]; exact kz _ _ (fx_u u3 w3), rfl, rfl, fun _ => rfl⟩
      · omega
      · omega
      · exact ⟨by omega, rfl, rfl, fun q => by omega⟩
    · exact absurd x3 y3
  · rcases y2 with ⟨y3, -⟩ | ⟨y3, -⟩ | ⟨y3, y4, y5, z', y6, y7⟩
    · exact absurd y3 x3
    · exact absurd y3 x4
    · have ez := fx_u x6 y6
      refine ⟨by rw [x7, y7]; exact kz2 _ _ ez, rfl, by omega, fun q => ?_⟩
      exfalso
      have zb : z = -1 ∨ 0 ≤ z := by
        rcases x6 with ⟨b1, -⟩ | ⟨b1, -⟩
        · exact Or.inr b1
        · exact Or.inl b1
      by_cases c1 : z = -1
      · rw [if_pos c1] at x7
        omega
      · rw [if_neg c1] at x7
        omega
theorem tx_end_c {p : Int → Prop} {n : Int} {c c' : Nat → Int} {k e : Int} (k0 : 0 ≤ k) (hc : ∀ i : Nat, (i : Int) < n → c' i = c i) (h : tx_end p n c k e) : tx_end p n c' k e := by
  obtain ⟨h1, h2, h3⟩ := h
  refine ⟨h1, fun j j0 j1 => ?_, fun q => ?_⟩
  · obtain ⟨a, b⟩ := h2 j j0 j1
    exact ⟨a, by rw [hc _ (by omega)]; exact b⟩
  · rw [hc _ (by omega)] at q
    exact h3 q
theorem tx_code_c {n : Int} {c c' : Nat → Int} (hc : ∀ i : Nat, (i : Int) < n → c' i = c i) : ∀ (m : Nat) (k : Int), 0 ≤ k → k + m ≤ n → tx_code c' k m = tx_code c k m := by
  intro m
  induction m with
  | zero => intro k _ _; rfl
  | succ m ih =>
    intro k k0 k1
    show (c' k.toNat - 96) + 32 * tx_code c' (k + 1) m = (c k.toNat - 96) + 32 * tx_code c (k + 1) m
    rw [ih (k + 1) (by omega) (by omega), hc _ (by omega)]
theorem tx_dec_c {n : Int} {c c' : Nat → Int} (hc : ∀ i : Nat, (i : Int) < n → c' i = c i) {k : Int} (k0 : 0 ≤ k) : ∀ m : Nat, k + m ≤ n → tx_dec c' k m = tx_dec c k m := by
  intro m
  induction m with
  | zero => intro _; rfl
  | succ m ih =>
    intro k1
    show 10 * tx_dec c' k m + (c' (k + m).toNat - 48) = 10 * tx_dec c k m + (c (k + m).toNat - 48)
    rw [ih (by omega), hc _ (by omega)]
theorem tq_T_c {n : Int} {c c' : Nat → Int} {m : Int} {L L' : Nat → Int} {a k v s e : Int} (a0 : 0 ≤ a) (hc : ∀ i : Nat, (i : Int) < n → c' i = c i) (hL : ∀ l : Nat, (l : Int) < m → L' l = L l) (h : tq_T n c m L a k v s e) : tq_T n c' m L' a k v s e := by
  obtain ⟨h1, h2⟩ := h
  have as := h1.1
  refine ⟨tx_end_c a0 hc h1, ?_⟩
  rcases h2 with x | ⟨x1, x2⟩
  · exact Or.inl x
  refine Or.inr ⟨x1, ?_⟩
  have cs : c' s.toNat = c s.toNat := hc _ (by omega)
  rw [cs]
  rcases x2 with ⟨x3, x4, x5⟩ | ⟨x3, x4, x5⟩ | ⟨x3, x4, x5, z, x6, x7⟩
  · have en := tx_end_n x4 (by omega)
    refine Or.inl ⟨x3, tx_end_c (by omega) hc x4, ?_⟩
    rcases x5 with ⟨u1, u2, u3⟩ | u
    · have := x4.1
      exact Or.inl ⟨u1, u2, by rw [u3, tx_dec_c hc (by omega) _ (by omega)]⟩
    · exact Or.inr u
  · have en := tx_end_n x4 (by omega)
    refine Or.inr (Or.inl ⟨x3, tx_end_c (by omega) hc x4, ?_⟩)
    rcases x5 with ⟨u1, u2, z, u3, u4⟩ | u
    · have := x4.1
      exact Or.inl ⟨u1, by rw [u2, tx_code_c hc _ _ (by omega) (by omega)], z, fx_c hL u3, u4⟩
    · exact Or.inr u
  · exact Or.inr (Or.inr ⟨x3, x4, x5, z, fx_c hL x6, x7⟩)
/-- what is known of a token's worth -/
theorem tq_v {n : Int} {c : Nat → Int} {m : Int} {L : Nat → Int} {a k v s e : Int} (h : tq_T n c m L a k v s e) (hk : k = 1 ∨ k = 2) : 0 ≤ v ∧ v < 1073741824 := by
  obtain ⟨h1, h2⟩ := h
  rcases h2 with ⟨x1, x2, x3⟩ | ⟨x1, x2⟩
  · omega
  rcases x2 with ⟨x3, x4, x5⟩ | ⟨x3, x4, x5⟩ | ⟨x3, x4, x5, z, x6, x7⟩
  · rcases x5 with ⟨u1, u2, u3⟩ | ⟨u1, u2⟩
    · have := x4.1
      have b := tx_dec_b (c := c) (k := s) (e - s).toNat (fun j j0 j1 => (x4.2.1 j j0 (by omega)).2)
      have p4 : (10 : Int) ^ (e - s).toNat ≤ 10 ^ 4 := by
        have : (10 : Nat) ^ (e - s).toNat ≤ 10 ^ 4 := Nat.pow_le_pow_right (by decide) (by omega)
        exact_mod_cast this
      have e4 : (10 : Int) ^ 4 = 10000 := by decide
      omega
    · omega
  · rcases x5 with ⟨u1, u2, z, u3, u4⟩ | ⟨u1, u2⟩
    · have := x4.1
      have b := tx_code_b (c := c) (e - s).toNat s (fun j j0 j1 => (x4.2.1 j j0 (by omega)).2)
      have p4 : (32 : Int) ^ (e - s).toNat ≤ 32 ^ 6 := by
        have : (32 : Nat) ^ (e - s).toNat ≤ 32 ^ 6 := Nat.pow_le_pow_right (by decide) (by omega)
        exact_mod_cast this
      have e4 : (32 : Int) ^ 6 = 1073741824 := by decide
      omega
    · omega
  · exfalso
    have zb : z = -1 ∨ 0 ≤ z := by
      rcases x6 with ⟨b1, -⟩ | ⟨b1, -⟩
      · exact Or.inr b1
      · exact Or.inl b1
    by_cases c1 : z = -1
    · rw [if_pos c1] at x7
      omega
    · rw [if_neg c1] at x7
      omega
/-- all the tokens of a text: the j-th one begins to be looked for at p j; N is the end -/
def tq_S (n : Int) (c : Nat → Int) (m : Int) (L : Nat → Int) (K V : Int → Int) (p : Int → Int) (N : Int) : Prop := p 0 = 0 ∧ (∀ j, 0 ≤ j → j ≤ N → 0 ≤ p j ∧ p j ≤ n ∧ ∃ s, tq_T n c m L (p j) (K j) (V j) s (p (j + 1))) ∧ K N = 0 ∧ 0 ≤ N
/-! the class's Text, exactly: the input -/
def jx_at (h : sm_H) (k : Int) : Int := if 0 ≤ k ∧ k < mi_f h 6913 then mi_a h 55 k.toNat else 32
section JTX
variable {d : Nat} {h : sm_H} {zf zt zk : Int}
theorem jx_in (hS : ab_Sh sx_sk h) (k : Int) : 0 ≤ jx_at h k ∧ jx_at h k ≤ 65535 := by
  have bn := me_fb (c := 6913) hS rfl
  unfold jx_at
  by_cases c : 0 ≤ k ∧ k < mi_f h 6913
  · rw [if_pos c]
    exact me_ab (k := 55) (i := k.toNat) hS rfl (by decide) (by omega)
  · rw [if_neg c]
    omega
theorem me_jat (hS : ab_Sh sx_sk h) (ok : mi_in zk) : me_E d 20 0 [some (.inr (.inr 54)), some (.inl zk)] [] h (fun w h' => h' = h ∧ w = some (.inl (jx_at h zk))) := by
  have fin : ∀ {z : Int}, z = jx_at h zk → ∀ h1, ab_Sh sx_sk h1 → ab_Fr [] h h1 → (h1 = h ∧ (some (.inl z) : Option mi_V) = some (.inl (jx_at h zk))) := fun {z} e h1 g1 g2 => ⟨me_nil g2, by rw [e]⟩
  refine mt_jtA hS ok ?_ ?_ ?_ ?_
  · intro c
    exact fin (by unfold jx_at; rw [if_neg (by omega)])
  · intro b c c2
    exact fin (by unfold jx_at; rw [if_neg (by omega)])
  · intro b c c2 c3
    exfalso; omega
  · intro b c c2 c3
    refine ⟨⟨⟨by omega, by omega⟩, me_ab (k := 55) (i := zk.toNat) hS rfl (by decide) (by omega)⟩, fin ?_⟩
    unfold jx_at
    rw [if_pos ⟨c, c2⟩]
theorem jb2 (hS : ab_Sh sx_sk h) (of : mi_in zf) (f0 : 0 ≤ zf) : ∀ (N : Nat) (zk : Int), 1000 - zk < N → zf ≤ zk → zk ≤ 1000 → (∀ j, zf ≤ j → j < zk → j < mi_f h 6913 ∧ tx_blk (mi_a h 55 j.toNat)) → me_E (d + 1) 19 2 [some (.inr (.inr 54)), some (.inl zf), some (.inl zk)] [] h (fun w h' => h' = h ∧ ∃ e, w = some (.inl e) ∧ tx_end tx_blk (mi_f h 6913) (mi_a h 55) zf e) := by
  have bn := me_fb (c := 6913) hS rfl
  intro N
  induction N with
  | zero => intro zk hN k0 k1; exfalso; omega
  | succ N ih =>
    intro zk hN k0 k1 hl
    have ok : mi_in zk := ⟨by omega, by omega⟩
    refine mt_jbB hS of ok ?_ ?_
    · intro b c h1 g1 g2
      exact ⟨me_nil g2, zk, rfl, k0, hl, fun x => by omega⟩
    · intro b c h1 g1 g2
      have e := me_nil g2
      subst e
      refine ⟨_, me_jat (d := d) hS ok, fun w h2 ow hq => ?_⟩
      obtain ⟨rfl, rfl⟩ := hq
      have ea : jx_at h2 zk = mi_a h2 55 zk.toNat := by unfold jx_at; rw [if_pos ⟨by omega, c⟩]
      have ob := jx_in hS zk
      have on : tx_blk (mi_a h2 55 zk.toNat) → me_E (d + 1) 19 2 [some (.inr (.inr 54)), some (.inl zf), some (.inl (zk + 1))] [] h2 (fun w h' => h' = h2 ∧ ∃ e, w = some (.inl e) ∧ tx_end tx_blk (mi_f h2 6913) (mi_a h2 55) zf e) := fun hb => by
        refine ih (zk + 1) (by omega) (by omega) (by omega) (fun j a1 a2 => ?_)
        by_cases ej : j = zk
        · subst ej
          exact ⟨c, hb⟩
        · exact hl j a1 (by omega)
      refine mt_jbC (zz := jx_at h2 zk) hS of ok ⟨by omega, by omega⟩ ?_ ?_ ?_
      · intro c2
        rw [ea] at c2
        refine ⟨⟨by omega, by omega⟩, fun h3 g1 g2 => ?_⟩
        have e := me_nil g2
        subst e
        exact on (Or.inl c2)
      · intro c2 c3 h3 g1 g2
        rw [ea] at c2 c3
        exact ⟨me_nil g2, zk, rfl, k0, hl, fun x => x.2.elim c2 c3⟩
      · intro c2 c3
        rw [ea] at c3
        refine ⟨⟨by omega, by omega⟩, fun h3 g1 g2 => ?_⟩
        have e := me_nil g2
        subst e
        exact on (Or.inr c3)
theorem me_jblanks (hS : ab_Sh sx_sk h) (f0 : 0 ≤ zf) (f1 : zf ≤ 300) : me_E (d + 1) 19 0 [some (.inr (.inr 54)), some (.inl zf), none] [] h (fun w h' => h' = h ∧ ∃ e, w = some (.inl e) ∧ tx_end tx_blk (mi_f h 6913) (mi_a h 55) zf e) := by
  have of : mi_in zf := ⟨by omega, by omega⟩
  refine mt_jbA hS of (fun h1 g1 g2 => ?_)
  have e := me_nil g2
  subst e
  exact jb2 hS of f0 1002 zf (by omega) (by omega) (by omega) (fun j a1 a2 => by omega)
theorem jl2 (hS : ab_Sh sx_sk h) (of : mi_in zf) (f0 : 0 ≤ zf) : ∀ (N : Nat) (zk : Int), 1000 - zk < N → zf ≤ zk → zk ≤ 1000 → (∀ j, zf ≤ j → j < zk → j < mi_f h 6913 ∧ tx_low (mi_a h 55 j.toNat)) → me_E (d + 1) 25 2 [some (.inr (.inr 54)), some (.inl zf), some (.inl zk)] [] h (fun w h' => h' = h ∧ ∃ e, w = some (.inl e) ∧ tx_end tx_low (mi_f h 6913) (mi_a h 55) zf e) := by
  have bn := me_fb (c := 6913) hS rfl
  intro N
  induction N with
  | zero => intro zk hN k0 k1; exfalso; omega
  | succ N ih =>
    intro zk hN k0 k1 hl
    have ok : mi_in zk := ⟨by omega, by omega⟩
    refine mt_jlB hS of ok ?_ ?_
    · intro b c h1 g1 g2
      exact ⟨me_nil g2, zk, rfl, k0, hl, fun x => by omega⟩
    · intro b c h1 g1 g2
      have e := me_nil g2
      subst e
      refine ⟨_, me_jat (d := d) hS ok, fun w h2 ow hq => ?_⟩
      obtain ⟨rfl, rfl⟩ := hq
      have ea : jx_at h2 zk = mi_a h2 55 zk.toNat := by unfold jx_at; rw [if_pos ⟨by omega, c⟩]
      have ob := jx_in hS zk
      refine mt_jlC (zz := jx_at h2 zk) hS of ok ⟨by omega, by omega⟩ ?_ ?_ ?_
      · intro c2 h3 g1 g2
        rw [ea] at c2
        exact ⟨me_nil g2, zk, rfl, k0, hl, fun x => by have := x.2.1; omega⟩
      · intro c2 c3 h3 g1 g2
        rw [ea] at c3
        exact ⟨me_nil g2, zk, rfl, k0, hl, fun x => by have := x.2.2; omega⟩
      · intro c2 c3
        rw [ea] at c2 c3
        refine ⟨⟨by omega, by omega⟩, fun h3 g1 g2 => ?_⟩
        have e := me_nil g2
        subst e
        refine ih (zk + 1) (by omega) (by omega) (by omega) (fun j a1 a2 => ?_)
        by_cases ej : j = zk
        · subst ej
          exact ⟨c, c2, c3⟩
        · exact hl j a1 (by omega)
theorem me_jletters (hS : ab_Sh sx_sk h) (f0 : 0 ≤ zf) (f1 : zf ≤ 300) : me_E (d + 1) 25 0 [some (.inr (.inr 54)), some (.inl zf), none] [] h (fun w h' => h' = h ∧ ∃ e, w = some (.inl e) ∧ tx_end tx_low (mi_f h 6913) (mi_a h 55) zf e) := by
  have of : mi_in zf := ⟨by omega, by omega⟩
  refine mt_jlA hS of (fun h1 g1 g2 => ?_)
  have e := me_nil g2
  subst e
  exact jl2 hS of f0 1002 zf (by omega) (by omega) (by omega) (fun j a1 a2 => by omega)
theorem jd2 (hS : ab_Sh sx_sk h) (of : mi_in zf) (f0 : 0 ≤ zf) : ∀ (N : Nat) (zk : Int), 1000 - zk < N → zf ≤ zk → zk ≤ 1000 → (∀ j, zf ≤ j → j < zk → j < mi_f h 6913 ∧ tx_dig (mi_a h 55 j.toNat)) → me_E (d + 1) 108 2 [some (.inr (.inr 54)), some (.inl zf), some (.inl zk)] [] h (fun w h' => h' = h ∧ ∃ e, w = some (.inl e) ∧ tx_end tx_dig (mi_f h 6913) (mi_a h 55) zf e) := by
  have bn := me_fb (c := 6913) hS rfl
  intro N
  induction N with
  | zero => intro zk hN k0 k1; exfalso; omega
  | succ N ih =>
    intro zk hN k0 k1 hl
    have ok : mi_in zk := ⟨by omega, by omega⟩
    refine mt_jdB hS of ok ?_ ?_
    · intro b c h1 g1 g2
      exact ⟨me_nil g2, zk, rfl, k0, hl, fun x => by omega⟩
    · intro b c h1 g1 g2
      have e := me_nil g2
      subst e
      refine ⟨_, me_jat (d := d) hS ok, fun w h2 ow hq => ?_⟩
      obtain ⟨rfl, rfl⟩ := hq
      have ea : jx_at h2 zk = mi_a h2 55 zk.toNat := by unfold jx_at; rw [if_pos ⟨by omega, c⟩]
      have ob := jx_in hS zk
      refine mt_jdC (zz := jx_at h2 zk) hS of ok ⟨by omega, by omega⟩ ?_ ?_ ?_
      · intro c2 h3 g1 g2
        rw [ea] at c2
        exact ⟨me_nil g2, zk, rfl, k0, hl, fun x => by have := x.2.1; omega⟩
      · intro c2 c3 h3 g1 g2
        rw [ea] at c3
        exact ⟨me_nil g2, zk, rfl, k0, hl, fun x => by have := x.2.2; omega⟩
      · intro c2 c3
        rw [ea] at c2 c3
        refine ⟨⟨by omega, by omega⟩, fun h3 g1 g2 => ?_⟩
        have e := me_nil g2
        subst e
        refine ih (zk + 1) (by omega) (by omega) (by omega) (fun j a1 a2 => ?_)
        by_cases ej : j = zk
        · subst ej
          exact ⟨c, c2, c3⟩
        · exact hl j a1 (by omega)
theorem me_jdigits (hS : ab_Sh sx_sk h) (f0 : 0 ≤ zf) (f1 : zf ≤ 300) : me_E (d + 1) 108 0 [some (.inr (.inr 54)), some (.inl zf), none] [] h (fun w h' => h' = h ∧ ∃ e, w = some (.inl e) ∧ tx_end tx_dig (mi_f h 6913) (mi_a h 55) zf e) := by
  have of : mi_in zf := ⟨by omega, by omega⟩
  refine mt_jdA hS of (fun h1 g1 g2 => ?_)
  have e := me_nil g2
  subst e
  exact jd2 hS of f0 1002 zf (by omega) (by omega) (by omega) (fun j a1 a2 => by omega)
/-- one letter more in front, in an int -/
theorem tx_pack33 {V X : Int} (v0 : 0 ≤ V) (v1 : V < 33554432) (x0 : 0 ≤ X) (x1 : X < 32) : (Int32.ofInt ((Int32.ofInt V <<< (Int32.ofInt ((5 : Int)) &&& 31)).toInt) ||| Int32.ofInt X).toInt = X + 32 * V := by
  rw [Int32.ofInt_toInt]
  have toN : ∀ {z : Int}, 0 ≤ z → z < 1073741824 → ((Int32.ofInt z).toBitVec.toNat : Int) = z := fun {z} h0 h1 => by
    have e2 : (Int32.ofInt z).toBitVec.toInt = z := mi_ti (z := z) ⟨by omega, by omega⟩
    have e3 := BitVec.toInt_eq_toNat_cond (Int32.ofInt z).toBitVec
    have e4 := (Int32.ofInt z).toBitVec.isLt
    split at e3 <;> omega
  have nX := toN x0 (by omega)
  have nV := toN v0 (by omega)
  generalize hA : Int32.ofInt X = A at nX
  generalize hB : Int32.ofInt V = B at nV
  have e5 : (Int32.ofInt ((5 : Int)) &&& 31).toBitVec.smod 32 = BitVec.ofNat 32 5 := by decide
  have main : ((B <<< (Int32.ofInt ((5 : Int)) &&& 31)) ||| A).toBitVec.toNat = B.toBitVec.toNat * 32 + A.toBitVec.toNat := by
    rw [Int32.toBitVec_or, BitVec.toNat_or, Int32.toBitVec_shiftLeft, e5]
    have e : (B.toBitVec <<< BitVec.ofNat 32 5) = B.toBitVec <<< 5 := by
      rw [BitVec.shiftLeft_eq', BitVec.toNat_ofNat]
    rw [e, BitVec.toNat_shiftLeft, Nat.mod_eq_of_lt (by rw [Nat.shiftLeft_eq]; omega), ← Nat.shiftLeft_add_eq_or_of_lt (by omega), Nat.shiftLeft_eq]
  show ((B <<< (Int32.ofInt ((5 : Int)) &&& 31)) ||| A).toBitVec.toInt = _
  rw [BitVec.toInt_eq_toNat_of_lt (by rw [main]; omega), main]
  omega
theorem jc7 (hS : ab_Sh sx_sk h) (f0 : 0 ≤ zf) (ft : zf ≤ zt) (t1 : zt ≤ mi_f h 6913) (t5 : zt - zf ≤ 6) (hl : ∀ j, zf ≤ j → j < zt → tx_low (mi_a h 55 j.toNat)) : ∀ (N : Nat) (zk : Int), zk - zf + 1 < N → zf - 1 ≤ zk → zk < zt → me_E (d + 1) 34 7 [some (.inr (.inr 54)), some (.inl zf), some (.inl zt), some (.inl (tx_code (mi_a h 55) (zk + 1) (zt - 1 - zk).toNat)), some (.inl zk)] [] h (fun w h' => h' = h ∧ w = some (.inl (tx_code (mi_a h 55) zf (zt - zf).toNat))) := by
  have bn := me_fb (c := 6913) hS rfl
  intro N
  induction N with
  | zero => intro zk hN k0; exfalso; omega
  | succ N ih =>
    intro zk hN k0 k1
    have of : mi_in zf := ⟨by omega, by omega⟩
    have ot : mi_in zt := ⟨by omega, by omega⟩
    have ok : mi_in zk := ⟨by omega, by omega⟩
    have cb := tx_code_b (c := mi_a h 55) (zt - 1 - zk).toNat (zk + 1) (fun j a1 a2 => hl j (by omega) (by omega))
    have p5 : (32 : Int) ^ (zt - 1 - zk).toNat ≤ 32 ^ 6 := by
      have : (32 : Nat) ^ (zt - 1 - zk).toNat ≤ 32 ^ 6 := Nat.pow_le_pow_right (by decide) (by omega)
      exact_mod_cast this
    have e32 : (32 : Int) ^ 6 = 1073741824 := by decide
    have ov : mi_in (tx_code (mi_a h 55) (zk + 1) (zt - 1 - zk).toNat) := ⟨by omega, by omega⟩
    refine mt_jcB hS of ot ov ok ?_ ?_
    · intro c h1 g1 g2
      have ek : zk = zf - 1 := by omega
      subst ek
      refine ⟨me_nil g2, ?_⟩
      rw [show zf - 1 + 1 = zf by omega, show zt - 1 - (zf - 1) = zt - zf by omega]
    · intro c h1 g1 g2
      have e := me_nil g2
      subst e
      refine ⟨_, me_jat (d := d) hS ok, fun w h2 ow hq => ?_⟩
      obtain ⟨rfl, rfl⟩ := hq
      have ea : jx_at h2 zk = mi_a h2 55 zk.toNat := by unfold jx_at; rw [if_pos ⟨by omega, by omega⟩]
      obtain ⟨x0, x1⟩ := hl zk c k1
      have p4 : (32 : Int) ^ (zt - 1 - zk).toNat ≤ 32 ^ 5 := by
        have : (32 : Nat) ^ (zt - 1 - zk).toNat ≤ 32 ^ 5 := Nat.pow_le_pow_right (by decide) (by omega)
        exact_mod_cast this
      have e4 : (32 : Int) ^ 5 = 33554432 := by decide
      have pk := tx_pack33 (V := tx_code (mi_a h2 55) (zk + 1) (zt - 1 - zk).toNat) (X := mi_a h2 55 zk.toNat - 97 + 1) cb.1 (by omega) (by omega) (by omega)
      refine mt_jcC (zz := jx_at h2 zk) (zy := (Int32.ofInt (tx_code (mi_a h2 55) (zk + 1) (zt - 1 - zk).toNat) <<< (Int32.ofInt ((5 : Int)) &&& 31)).toInt) hS of ot ov ok (by rw [ea]; exact ⟨by omega, by omega⟩) (mi_inT _) ?_
      rw [ea, pk]
      refine ⟨⟨⟨by omega, by omega⟩, ⟨by omega, by omega⟩, ⟨by omega, by omega⟩⟩, fun h3 g1 g2 => ?_⟩
      have e := me_nil g2
      subst e
      have em : (zt - 1 - zk).toNat + 1 = (zt - 1 - (zk + -1)).toNat := by omega
      have ec : mi_a h3 55 zk.toNat - 97 + 1 + 32 * tx_code (mi_a h3 55) (zk + 1) (zt - 1 - zk).toNat = tx_code (mi_a h3 55) (zk + -1 + 1) (zt - 1 - (zk + -1)).toNat := by
        rw [← em, show zk + -1 + 1 = zk by omega]
        show _ = (mi_a h3 55 zk.toNat - 96) + 32 * tx_code (mi_a h3 55) (zk + 1) (zt - 1 - zk).toNat
        omega
      rw [ec]
      exact ih (zk + -1) (by omega) (by omega) (by omega)
theorem me_jcode (hS : ab_Sh sx_sk h) (f0 : 0 ≤ zf) (ft : zf ≤ zt) (t1 : zt ≤ mi_f h 6913) (t5 : zt - zf ≤ 6) (hl : ∀ j, zf ≤ j → j < zt → tx_low (mi_a h 55 j.toNat)) : me_E (d + 1) 34 0 [some (.inr (.inr 54)), some (.inl zf), some (.inl zt), none, none] [] h (fun w h' => h' = h ∧ w = some (.inl (tx_code (mi_a h 55) zf (zt - zf).toNat))) := by
  have bn := me_fb (c := 6913) hS rfl
  refine mt_jcA hS ⟨by omega, by omega⟩ ⟨by omega, by omega⟩ ⟨⟨by omega, by omega⟩, fun h1 g1 g2 => ?_⟩
  have e := me_nil g2
  subst e
  have := jc7 (d := d) hS f0 ft t1 t5 hl 8 (zt - 1) (by omega) (by omega) (by omega)
  rw [show zt - 1 - (zt - 1) = 0 by omega] at this
  exact this
end JTX
/-! the class's takeToken, exactly -/
section PTK
variable {d : Nat} {h : sm_H}
theorem me_pliteral {zo zc : Int} (hS : ab_Sh sx_sk h) (oo : mi_in zo) (oc : mi_in zc) (hm : mi_f h 7698 ≤ 20) : me_E (d + 4) 110 0 [some (.inr (.inr 106)), some (.inl zo), some (.inl zc), none] [] h (fun w h' => h' = h ∧ ∃ z, fx (mi_f h 7698) (mi_a h 75) zc z ∧ w = some (.inl (if z = -1 then zo else 3 + z))) := by
  refine mt_kplA hS oo oc ?_
  intro h1 g1 g2
  have e := me_nil g2
  subst e
  refine ⟨_, me_gliteral (d := d + 2) hS oc hm, fun w h2 hw hq => ?_⟩
  obtain ⟨rfl, z, rfl, hz⟩ := hq
  have zb : -1 ≤ z ∧ z < 20 := by
    rcases hz with ⟨a, b, -⟩ | ⟨a, -⟩
    · omega
    · omega
  refine mt_kplB hS oo oc ⟨by omega, by omega⟩ ?_ ?_
  · intro c
    refine ⟨⟨by omega, by omega⟩, fun h3 r1 r2 => ⟨me_nil r2, z, hz, by rw [if_neg c]⟩⟩
  · intro c h3 r1 r2
    exact ⟨me_nil r2, z, hz, by rw [if_pos c]⟩
/-- a number: its worth, digit by digit -/
theorem pm47 (hS0 : ab_Sh sx_sk h) {s e : Int} (s0 : 0 ≤ s) (he : e ≤ mi_f h 6913) (e4 : e - s ≤ 4) (hd : ∀ j, s ≤ j → j < e → tx_dig (mi_a h 55 j.toNat)) : ∀ (K : Nat) (zk : Int) (h1 : sm_H), e - zk = K → s ≤ zk → zk ≤ e → ab_Sh sx_sk h1 → ab_Fr [(13575, 13576), (13577, 13579)] h h1 → mi_f h1 13577 = 1 → mi_f h1 13575 = e → mi_f h1 13578 = tx_dec (mi_a h 55) s (zk - s).toNat → me_E (d + 6) 107 47 [some (.inr (.inr 106)), some (.inl zk)] [] h1 (fun w h' => w = none ∧ ab_Sh sx_sk h' ∧ ab_Fr [(13575, 13576), (13577, 13579)] h h' ∧ mi_f h' 13577 = 1 ∧ mi_f h' 13575 = e ∧ mi_f h' 13578 = tx_dec (mi_a h 55) s (e - s).toNat) := by
  intro K
  induction K with
  | zero =>
    intro zk h1 hK k0 k1 hS hF h7 h5 h8
    have ek : zk = e := by omega
    subst ek
    have bn := me_fb (c := 6913) hS0 rfl
    refine mt_kpmC hS ⟨by omega, by omega⟩ (by intros; exfalso; omega) ?_ (by intros; exfalso; omega) (by intros; exfalso; omega) (by intros; exfalso; omega) (by intros; exfalso; omega)
    intro b b2 c1 c2 h2 g1 g2
    have e := me_nil g2
    subst e
    exact ⟨rfl, hS, hF, h7, h5, h8⟩
  | succ K ih =>
    intro zk h1 hK k0 k1 hS hF h7 h5 h8
    have f13 : mi_f h1 6913 = mi_f h 6913 := me_f (c := 6913) hF hS0 rfl rfl
    have f55 : ∀ i, mi_a h1 55 i = mi_a h 55 i := fun i => me_a (k := 55) hF hS0 rfl rfl
    have bn := me_fb (c := 6913) hS0 rfl
    obtain ⟨d1, d2⟩ := hd zk k0 (by omega)
    have db := tx_dec_b (c := mi_a h 55) (k := s) (zk - s).toNat (fun j j0 j1 => hd j j0 (by omega))
    have p4 : (10 : Int) ^ (zk - s).toNat ≤ 10 ^ 4 := by
      have : (10 : Nat) ^ (zk - s).toNat ≤ 10 ^ 4 := Nat.pow_le_pow_right (by decide) (by omega)
      exact_mod_cast this
    have e44 : (10 : Int) ^ 4 = 10000 := by decide
    rw [← h8] at db
    refine mt_kpmC hS ⟨by omega, by omega⟩ (by intros; exfalso; omega) (by intros; exfalso; omega) (by intros; exfalso; omega) (by intros; exfalso; omega) (by intros; exfalso; omega) ?_
    intro b b2 b3 b4 c1 c2 c3 c4 c5
    have ea := f55 zk.toNat
    refine ⟨⟨⟨by omega, by omega⟩, ⟨by omega, by omega⟩, ⟨by omega, by omega⟩, ⟨by omega, by omega⟩, ⟨by omega, by omega⟩, by omega, by omega⟩, fun h2 g1 g2 g3 => ?_⟩
    refine ih (zk + 1) h2 (by omega) (by omega) (by omega) g1 (hF.trans (g3.wide (fun c hc => ab_swr_ok (by decide) hc))) ((me_f (c := 13577) g3 hS rfl rfl).trans h7) ((me_f (c := 13575) g3 hS rfl rfl).trans h5) ?_
    have en : (zk + 1 - s).toNat = (zk - s).toNat + 1 := by omega
    have ez : (s + ((zk - s).toNat : Int)).toNat = zk.toNat := by omega
    rw [g2, en, h8, ea]
    show _ = 10 * tx_dec (mi_a h 55) s (zk - s).toNat + (mi_a h 55 (s + ((zk - s).toNat : Int)).toNat - 48)
    rw [ez]
    omega
theorem me_pnumber (hS : ab_Sh sx_sk h) {s : Int} (hs : mi_f h 13576 = s) (s1 : s < mi_f h 6913) (hd : tx_dig (mi_a h 55 s.toNat)) : me_E (d + 6) 107 0 [some (.inr (.inr 106)), none] [] h (fun w h' => w = none ∧ ab_Sh sx_sk h' ∧ ab_Fr [(13575, 13576), (13577, 13579)] h h' ∧ ∃ e, tx_end tx_dig (mi_f h 6913) (mi_a h 55) s e ∧ mi_f h' 13575 = e ∧ ((e - s ≤ 4 ∧ mi_f h' 13577 = 1 ∧ mi_f h' 13578 = tx_dec (mi_a h 55) s (e - s).toNat) ∨ (4 < e - s ∧ mi_f h' 13577 = -1))) := by
  have b76 := me_fb (c := 13576) hS rfl
  have bn := me_fb (c := 6913) hS rfl
  refine mt_kpmA hS ?_
  intro h1 g1 g2
  have e := me_nil g2
  subst e
  refine ⟨_, me_jdigits (d := d + 4) hS (by omega) (by omega), fun w h2 hw hq => ?_⟩
  obtain ⟨rfl, e, rfl, he⟩ := hq
  rw [hs] at he
  have en := tx_end_n he (by omega)
  have e0 := he.1
  refine mt_kpmB hS ⟨by omega, by omega⟩ ?_ ?_
  · intro b c
    refine ⟨⟨⟨by omega, by omega⟩, by omega, by omega⟩, fun h3 r1 r2 r3 r4 r5 => ?_⟩
    refine mt_kpmC r1 (by rw [hs]; exact ⟨by omega, by omega⟩) ?_ (by intros; exfalso; omega) (by intros; exfalso; omega) (by intros; exfalso; omega) (by intros; exfalso; omega) (by intros; exfalso; omega)
    intro b2 c2 h4 u1 u2
    have e' := me_nil u2
    subst e'
    exact ⟨rfl, r1, r5, e, he, r2, Or.inr ⟨by omega, r3⟩⟩
  · intro b c
    refine ⟨⟨⟨by omega, by omega⟩, by omega, by omega⟩, fun h3 r1 r2 r3 r4 r5 => ?_⟩
    rw [hs] at c ⊢
    refine (pm47 hS (s := s) (e := e) (by omega) en (by omega) (fun j j0 j1 => (he.2.1 j j0 j1).2) (e - s).toNat s h3 (by omega) (by omega) e0 r1 r5 r3 r2 (by rw [r4, Int.sub_self]; rfl)).imp (fun w h' hq => ?_)
    obtain ⟨q1, q2, q3, q4, q5, q6⟩ := hq
    exact ⟨q1, q2, q3, e, he, q5, Or.inl ⟨by omega, q4, q6⟩⟩
theorem me_pword (hS : ab_Sh sx_sk h) (hm : mi_f h 7698 ≤ 20) {s : Int} (hs : mi_f h 13576 = s) (s1 : s < mi_f h 6913) : me_E (d + 6) 109 0 [some (.inr (.inr 106))] [] h (fun w h' => w = none ∧ ab_Sh sx_sk h' ∧ ab_Fr [(13575, 13576), (13577, 13579)] h h' ∧ ∃ e, tx_end tx_low (mi_f h 6913) (mi_a h 55) s e ∧ mi_f h' 13575 = e ∧ ((e - s ≤ 6 ∧ mi_f h' 13578 = tx_code (mi_a h 55) s (e - s).toNat ∧ ∃ z, fx (mi_f h 7698) (mi_a h 75) (tx_code (mi_a h 55) s (e - s).toNat) z ∧ mi_f h' 13577 = if z = -1 then 2 else 3 + z) ∨ (6 < e - s ∧ mi_f h' 13577 = -1))) := by
  have b76 := me_fb (c := 13576) hS rfl
  have bn := me_fb (c := 6913) hS rfl
  refine mt_kpoA hS ?_
  intro h1 g1 g2
  have e := me_nil g2
  subst e
  refine ⟨_, me_jletters (d := d + 4) hS (by omega) (by omega), fun w h2 hw hq => ?_⟩
  obtain ⟨rfl, e, rfl, he⟩ := hq
  rw [hs] at he
  have en := tx_end_n he (by omega)
  have e0 := he.1
  refine mt_kpoB hS ⟨by omega, by omega⟩ ?_ ?_
  · intro b c
    refine ⟨⟨⟨by omega, by omega⟩, by omega, by omega⟩, fun h3 r1 r2 r3 r5 => ?_⟩
    exact ⟨rfl, r1, r5.wide (fun c hc => ab_swr_ok (by decide) hc), e, he, r2, Or.inr ⟨by omega, r3⟩⟩
  · intro b c
    refine ⟨⟨⟨by omega, by omega⟩, by omega, by omega⟩, fun h3 r1 r2 r3 r5 => ?_⟩
    have f13 : mi_f h3 6913 = mi_f h2 6913 := me_f (c := 6913) r5 hS rfl rfl
    have f55 : mi_a h3 55 = mi_a h2 55 := funext fun i => me_a (k := 55) r5 hS rfl rfl
    rw [hs]
    refine ⟨_, me_jcode (d := d + 4) r1 (zf := s) (zt := e) (by omega) e0 (by omega) (by omega) (fun j j0 j1 => by rw [f55]; exact (he.2.1 j j0 j1).2), fun w h4 hw hq => ?_⟩
    obtain ⟨rfl, rfl⟩ := hq
    rw [f55] at hw ⊢
    refine mt_kpoC r1 (hw _ rfl) ?_
    intro h5 u1 u2 u3
    have F5 : ab_Fr [(13575, 13576), (13577, 13579)] h2 h5 := (r5.wide (fun c hc => ab_swr_ok (by decide) hc)).trans (u3.wide (fun c hc => ab_swr_ok (by decide) hc))
    have f98 : mi_f h5 7698 = mi_f h2 7698 := me_f (c := 7698) F5 hS rfl rfl
    have f75 : mi_a h5 75 = mi_a h2 75 := funext fun i => me_a (k := 75) F5 hS rfl rfl
    refine ⟨_, me_pliteral (d := d + 1) u1 ⟨by decide, by decide⟩ (hw _ rfl) (by omega), fun w h6 hw6 hq => ?_⟩
    obtain ⟨rfl, z, hz, rfl⟩ := hq
    rw [f98, f75] at hz
    refine mt_kpoD u1 (hw6 _ rfl) ?_
    intro h7 v1 v2 v3
    exact ⟨rfl, v1, F5.trans (v3.wide (fun c hc => ab_swr_ok (by decide) hc)), e, he, by rw [me_f (c := 13575) v3 u1 rfl rfl, me_f (c := 13575) u3 r1 rfl rfl]; exact r2, Or.inl ⟨by omega, by rw [me_f (c := 13578) v3 u1 rfl rfl]; exact u2, z, hz, v2⟩⟩
def ptk_Q (h : sm_H) (a : Int) (w : Option mi_V) (h' : sm_H) : Prop := w = none ∧ ab_Sh sx_sk h' ∧ ab_Fr [(13571, 13572), (13575, 13580)] h h' ∧ ∃ k v s e, tq_T (mi_f h 6913) (mi_a h 55) (mi_f h 7698) (mi_a h 75) a k v s e ∧ mi_f h' 13577 = k ∧ ((k = 1 ∨ k = 2) → mi_f h' 13578 = v) ∧ mi_f h' 13575 = e ∧ ((k = -1 ∧ mi_f h' 13571 = 1 ∧ 0 ≤ mi_f h' 13579) ∨ (k ≠ -1 ∧ mi_f h' 13571 = mi_f h 13571 ∧ mi_f h' 13579 = mi_f h 13579))
theorem me_ptake {a : Int} (hS : ab_Sh sx_sk h) (hm : mi_f h 7698 ≤ 20) (ha : mi_f h 13575 = a) (a1 : a ≤ mi_f h 6913) : me_E (d + 8) 106 0 [some (.inr (.inr 106)), none] [] h (ptk_Q h a) := by
  have b75 := me_fb (c := 13575) hS rfl
  have bn := me_fb (c := 6913) hS rfl
  refine mt_kptA hS ?_
  intro h1 g1 g2
  have e := me_nil g2
  subst e
  refine ⟨_, me_jblanks (d := d + 6) hS (by omega) (by omega), fun w h2 hw hq => ?_⟩
  obtain ⟨rfl, s, rfl, hs⟩ := hq
  rw [ha] at hs
  have sn := tx_end_n hs a1
  have s0 := hs.1
  -- from 108 on
  have go108 : ∀ (zc : Int) (h5 : sm_H) (k v e : Int), mi_in zc → ab_Sh sx_sk h5 → ab_Fr [(13575, 13579)] h2 h5 → mi_f h5 13576 = s → tq_T (mi_f h2 6913) (mi_a h2 55) (mi_f h2 7698) (mi_a h2 75) a k v s e → mi_f h5 13577 = k → ((k = 1 ∨ k = 2) → mi_f h5 13578 = v) → mi_f h5 13575 = e → me_E (d + 8) 106 108 [some (.inr (.inr 106)), some (.inl zc)] [] h5 (ptk_Q h2 a) := by
    intro zc h5 k v e oc t1 t2 t3 t4 t5 t6 t7
    refine mt_kptG t1 oc ?_ ?_
    · intro b c h6 u1 u2
      have e' := me_nil u2
      subst e'
      exact ⟨rfl, t1, t2.wide (fun c hc => ab_swr_ok (by decide) hc), k, v, s, e, t4, t5, t6, t7, Or.inr ⟨by omega, me_f (c := 13571) t2 hS rfl rfl, me_f (c := 13579) t2 hS rfl rfl⟩⟩
    · intro b c h6 u1 u2 u3 u4
      refine ⟨rfl, u1, (t2.wide (fun c hc => ab_swr_ok (by decide) hc)).trans (u4.wide (fun c hc => ab_swr_ok (by decide) hc)), k, v, s, e, t4, (me_f (c := 13577) u4 t1 rfl rfl).trans t5, fun q => by omega, (me_f (c := 13575) u4 t1 rfl rfl).trans t7, Or.inl ⟨by omega, u2, by omega⟩⟩
  -- from 27 on
  have go27 : ∀ (zc : Int) (h3 : sm_H), mi_in zc → (s < mi_f h2 6913 → zc = mi_a h2 55 s.toNat) → ab_Sh sx_sk h3 → mi_f h3 13576 = s → ab_Fr [(13576, 13577)] h2 h3 → me_E (d + 8) 106 27 [some (.inr (.inr 106)), some (.inl zc)] [] h3 (ptk_Q h2 a) := by
    intro zc h3 oc hzc r1 r2 r3
    have f13 : mi_f h3 6913 = mi_f h2 6913 := me_f (c := 6913) r3 hS rfl rfl
    have f55 : mi_a h3 55 = mi_a h2 55 := funext fun i => me_a (k := 55) r3 hS rfl rfl
    have f98 : mi_f h3 7698 = mi_f h2 7698 := me_f (c := 7698) r3 hS rfl rfl
    have f75 : mi_a h3 75 = mi_a h2 75 := funext fun i => me_a (k := 75) r3 hS rfl rfl
    have F3 : ab_Fr [(13575, 13579)] h2 h3 := r3.wide (fun c hc => ab_swr_ok (by decide) hc)
    -- a sign
    have sgn : s < mi_f h2 6913 → ¬ tx_dig zc → ¬ tx_low zc → ∀ h4, ab_Sh sx_sk h4 → mi_f h4 13575 = mi_f h3 13576 + 1 → ab_Fr [(13575, 13576)] h3 h4 → ∃ Q1, me_E (d + 7) 110 0 (mi_entry 4 [.inr (.inr 106), .inl (-1 : Int), .inl (-zc)]) [] h4 Q1 ∧ ∀ w h5, (∀ x, w = some x → mi_ok x) → Q1 w h5 → me_E (d + 8) 106 105 [some (.inr (.inr 106)), some (.inl zc)] (mi_back w [.inr (.inr 106)]) h5 (ptk_Q h2 a) := by
      intro hlt nd nl h4 t1 t2 t3
      have ez := hzc hlt
      have bz := me_ab (k := 55) (i := s.toNat) hS rfl (by decide) (by omega)
      have g98 : mi_f h4 7698 = mi_f h2 7698 := (me_f (c := 7698) t3 r1 rfl rfl).trans f98
      have g75 : mi_a h4 75 = mi_a h2 75 := (funext fun i => me_a (k := 75) t3 r1 rfl rfl : mi_a h4 75 = mi_a h3 75).trans f75
      refine ⟨_, me_pliteral (d := d + 3) t1 ⟨by decide, by decide⟩ ⟨by omega, by omega⟩ (by omega), fun w h5 hw hq => ?_⟩
      obtain ⟨rfl, z, hz, rfl⟩ := hq
      rw [g98, g75, ez] at hz
      refine mt_kptF t1 oc (hw _ rfl) ?_
      intro h6 u1 u2 u3
      refine go108 zc h6 _ 0 (s + 1) oc u1 ((F3.trans (t3.wide (fun c hc => ab_swr_ok (by decide) hc))).trans (u3.wide (fun c hc => ab_swr_ok (by decide) hc))) (by rw [me_f (c := 13576) u3 t1 rfl rfl, me_f (c := 13576) t3 r1 rfl rfl]; exact r2) ⟨hs, Or.inr ⟨hlt, Or.inr (Or.inr ⟨by rw [← ez]; exact nd, by rw [← ez]; exact nl, rfl, z, hz, rfl⟩)⟩⟩ u2 (fun q => ?_) (by rw [me_f (c := 13575) u3 t1 rfl rfl, t2, r2])
      exfalso
      have zb : z = -1 ∨ 0 ≤ z := by
        rcases hz with ⟨b1, -⟩ | ⟨b1, -⟩
        · exact Or.inr b1
        · exact Or.inl b1
      by_cases c1 : z = -1
      · rw [if_pos c1] at q
        omega
      · rw [if_neg c1] at q
        omega
    -- a word
    have wrd : s < mi_f h2 6913 → tx_low zc → ∃ Q1, me_E (d + 7) 109 0 (mi_entry 1 [.inr (.inr 106)]) [] h3 Q1 ∧ ∀ w h5, (∀ x, w = some x → mi_ok x) → Q1 w h5 → me_E (d + 8) 106 82 [some (.inr (.inr 106)), some (.inl zc)] (mi_back w []) h5 (ptk_Q h2 a) := by
      intro hlt nl
      have ez := hzc hlt
      refine ⟨_, me_pword (d := d + 1) r1 (by omega) r2 (by omega), fun w h5 hw hq => ?_⟩
      obtain ⟨rfl, q1, q2, e, q3, q4, q5⟩ := hq
      rw [f13, f55] at q3
      rw [f55, f98, f75] at q5
      refine mt_kptE q1 oc ?_
      intro h6 u1 u2
      have e' := me_nil u2
      subst e'
      have F6 := F3.trans (q2.wide (fun c hc => ab_swr_ok (wr' := [(13575, 13579)]) (by decide) hc))
      have e76 : mi_f h6 13576 = s := (me_f (c := 13576) q2 r1 rfl rfl).trans r2
      rcases q5 with ⟨x1, x2, z, x3, x4⟩ | ⟨x1, x2⟩
      · exact go108 zc h6 _ (tx_code (mi_a h2 55) s (e - s).toNat) e oc q1 F6 e76 ⟨hs, Or.inr ⟨hlt, Or.inr (Or.inl ⟨by rw [← ez]; exact nl, q3, Or.inl ⟨x1, rfl, z, x3, rfl⟩⟩)⟩⟩ x4 (fun _ => x2) q4
      · exact go108 zc h6 (-1) 0 e oc q1 F6 e76 ⟨hs, Or.inr ⟨hlt, Or.inr (Or.inl ⟨by rw [← ez]; exact nl, q3, Or.inr ⟨x1, rfl⟩⟩)⟩⟩ x2 (fun q => by omega) q4
    refine mt_kptC r1 oc ?_ ?_ ?_ ?_ ?_ ?_ ?_ ?_
    · intro b b2 c1 c2 c3
      have bz := me_ab (k := 55) (i := s.toNat) hS rfl (by decide) (by omega)
      have ez := hzc (by omega)
      refine ⟨by omega, fun h4 t1 t2 t3 => sgn (by omega) (fun q => by have := q.1; omega) (fun q => by have := q.1; omega) h4 t1 t2 t3⟩
    · intro b b2 c1 c2 c3 c4
      exfalso; omega
    · intro b b2 c1 c2 c3 c4
      exfalso; omega
    · intro b b2 c1 c2 c3 c4
      have bz := me_ab (k := 55) (i := s.toNat) hS rfl (by decide) (by omega)
      have ez := hzc (by omega)
      refine ⟨by omega, fun h4 t1 t2 t3 => sgn (by omega) (fun q => by have := q.2; omega) (fun q => by have := q.1; omega) h4 t1 t2 t3⟩
    · intro b b2 c1 c2 c3 c4 c5
      have bz := me_ab (k := 55) (i := s.toNat) hS rfl (by decide) (by omega)
      have ez := hzc (by omega)
      refine ⟨by omega, fun h4 t1 t2 t3 => sgn (by omega) (fun q => by have := q.2; omega) (fun q => by have := q.2; omega) h4 t1 t2 t3⟩
    · intro b b2 c1 c2 c3 c4 c5 h4 t1 t2
      have e' := me_nil t2
      subst e'
      exact wrd (by omega) ⟨c4, c5⟩
    · intro b b2 c1 c2 c3 h4 t1 t2
      have e' := me_nil t2
      subst e'
      have ez := hzc (by omega)
      refine ⟨_, me_pnumber (d := d + 1) t1 r2 (by omega) (by rw [f55, ← ez]; exact ⟨c2, c3⟩), fun w h5 hw hq => ?_⟩
      obtain ⟨rfl, q1, q2, e, q3, q4, q5⟩ := hq
      rw [f13, f55] at q3
      rw [f55] at q5
      refine mt_kptD q1 oc ?_
      intro h6 u1 u2
      have e' := me_nil u2
      subst e'
      have F6 := F3.trans (q2.wide (fun c hc => ab_swr_ok (wr' := [(13575, 13579)]) (by decide) hc))
      have e76 : mi_f h6 13576 = s := (me_f (c := 13576) q2 r1 rfl rfl).trans r2
      rcases q5 with ⟨x1, x2, x3⟩ | ⟨x1, x2⟩
      · exact go108 zc h6 1 (tx_dec (mi_a h2 55) s (e - s).toNat) e oc q1 F6 e76 ⟨hs, Or.inr ⟨by omega, Or.inl ⟨by rw [← ez]; exact ⟨c2, c3⟩, q3, Or.inl ⟨x1, rfl, rfl⟩⟩⟩⟩ x2 (fun _ => x3) q4
      · exact go108 zc h6 (-1) 0 e oc q1 F6 e76 ⟨hs, Or.inr ⟨by omega, Or.inl ⟨by rw [← ez]; exact ⟨c2, c3⟩, q3, Or.inr ⟨x1, rfl⟩⟩⟩⟩ x2 (fun q => by omega) q4
    · intro b b2 c1
      refine ⟨by omega, fun h4 t1 t2 t3 t4 => ?_⟩
      exact go108 zc h4 0 0 s oc t1 (F3.trans (t4.wide (fun c hc => ab_swr_ok (by decide) hc))) (by rw [me_f (c := 13576) t4 r1 rfl rfl]; exact r2) ⟨hs, Or.inl ⟨by omega, rfl, rfl⟩⟩ t3 (fun q => by omega) (t2.trans r2)
  refine mt_kptB hS ⟨by omega, by omega⟩ (by intros; exfalso; omega) ?_ (by intros; exfalso; omega) ?_
  · intro b c1 c2
    refine ⟨⟨by omega, by omega⟩, fun h3 r1 r2 r3 => go27 32 h3 ⟨by decide, by decide⟩ (fun q => by omega) r1 r2 r3⟩
  · intro b c1 c2 c3
    have bz := me_ab (k := 55) (i := s.toNat) hS rfl (by decide) (by omega)
    refine ⟨⟨⟨by omega, by omega⟩, ⟨by omega, by omega⟩, bz.1, bz.2⟩, fun h3 r1 r2 r3 => go27 _ h3 ⟨by omega, by omega⟩ (fun _ => rfl) r1 r2 r3⟩
/-- so takeToken takes the tokens one by one -/
theorem pq_tok_of {E : pm_E} {p : Int → Int} {N : Int} {h0 : sm_H} (hm : mi_f h0 7698 ≤ 20) (hq : tq_S (mi_f h0 6913) (mi_a h0 55) (mi_f h0 7698) (mi_a h0 75) E.1 E.2.1 p N) : pq_tok E p N h0 := by
  intro d h j hS hx j0 j1 hp
  obtain ⟨x1, x2, x3, x4⟩ := hx
  obtain ⟨-, q2, -, -⟩ := hq
  obtain ⟨b1, b2, s', hs'⟩ := q2 j j0 j1
  refine (me_ptake (d := d) (a := p j) hS (by omega) hp (by omega)).imp (fun w h' hq => ?_)
  obtain ⟨q1, q2, q3, k, v, s, e, q4, q5, q6, q7, q8⟩ := hq
  have e55 : mi_a h 55 = mi_a h0 55 := funext x2
  have e75 : mi_a h 75 = mi_a h0 75 := funext x4
  rw [x1, e55, x3, e75] at q4
  obtain ⟨u1, u2, u3, u4⟩ := tq_u q4 hs'
  refine ⟨q1, q2, q3, by omega, fun q => ?_, by omega, ?_⟩
  · rw [q6 (by omega)]
    exact u4 (by omega)
  · rw [← u1]
    exact q8
end PTK
/-! segments: isBlank, isLow, isDigit, signOf -/
set_option maxRecDepth 20000 in
theorem mp_vbl_0 (h : sm_H) (d : Nat) (zc : Int) : mi_path [(178, (1, 4, sb_178))] sx_sk h 5 [1] (d, 178, 0, [some (.inl (zc))], [], [], []) = some ((d, 178, 17, [some (.inl (zc))], [.inl ((1 : Int))], [], []), [zc = ((32 : Int))]) := rfl
theorem mi_tab_vbl_0 : ∀ e ∈ ([(178, (1, 4, sb_178))] : mi_T), sc_P e.1 = some e.2 := mi_tb mi_P178 (mi_tb_e)
set_option maxRecDepth 20000 in
theorem ms_vbl_0 {h : sm_H} {d : Nat} {Q : Option mi_V → sm_H → Prop} {zc : Int} (hS : ab_Sh sx_sk h) (ok_zc : mi_in zc) (ho : (zc = ((32 : Int))) ∧ (((1 : Int)) = 0 ∨ ((1 : Int)) = 1)) (kon : ∀ h1, me_W [] h h1 → Q (some (.inl ((1 : Int)))) h1) : me_E (d) 178 0 [some (.inl (zc))] [] h Q := me_seg (mp_vbl_0 h d zc) (mi_tab_vbl_0) hS (mi_okL_c (ok_zc) (mi_okL_e)) (mi_okS_e) (mi_al (ho.1) (mi_al_e)) (fun h1 W _ hst => me_ret (M := (1, 4, sb_178)) rfl rfl rfl hst (mi_al (ho.2) mi_al_e) (kon h1 W))
set_option maxRecDepth 20000 in
theorem mp_vbl_1 (h : sm_H) (d : Nat) (zc : Int) : mi_path [(178, (1, 4, sb_178))] sx_sk h 7 [0, 1] (d, 178, 0, [some (.inl (zc))], [], [], []) = some ((d, 178, 17, [some (.inl (zc))], [.inl ((0 : Int))], [], []), [zc ≠ ((32 : Int)), zc ≠ ((10 : Int))]) := rfl
theorem mi_tab_vbl_1 : ∀ e ∈ ([(178, (1, 4, sb_178))] : mi_T), sc_P e.1 = some e.2 := mi_tb mi_P178 (mi_tb_e)
set_option maxRecDepth 20000 in
theorem ms_vbl_1 {h : sm_H} {d : Nat} {Q : Option mi_V → sm_H → Prop} {zc : Int} (hS : ab_Sh sx_sk h) (ok_zc : mi_in zc) (ho : (zc ≠ ((32 : Int))) ∧ (zc ≠ ((10 : Int))) ∧ (((0 : Int)) = 0 ∨ ((0 : Int)) = 1)) (kon : ∀ h1, me_W [] h h1 → Q (some (.inl ((0 : Int)))) h1) : me_E (d) 178 0 [some (.inl (zc))] [] h Q := me_seg (mp_vbl_1 h d zc) (mi_tab_vbl_1) hS (mi_okL_c (ok_zc) (mi_okL_e)) (mi_okS_e) (mi_al (ho.1) (mi_al (ho.2.1) (mi_al_e))) (fun h1 W _ hst => me_ret (M := (1, 4, sb_178)) rfl rfl rfl hst (mi_al (ho.2.2) mi_al_e) (kon h1 W))
set_option maxRecDepth 20000 in
theorem mp_vbl_2 (h : sm_H) (d : Nat) (zc : Int) : mi_path [(178, (1, 4, sb_178))] sx_sk h 8 [0, 0] (d, 178, 0, [some (.inl (zc))], [], [], []) = some ((d, 178, 17, [some (.inl (zc))], [.inl ((1 : Int))], [], []), [zc ≠ ((32 : Int)), zc = ((10 : Int))]) := rfl
theorem mi_tab_vbl_2 : ∀ e ∈ ([(178, (1, 4, sb_178))] : mi_T), sc_P e.1 = some e.2 := mi_tb mi_P178 (mi_tb_e)
set_option maxRecDepth 20000 in
theorem ms_vbl_2 {h : sm_H} {d : Nat} {Q : Option mi_V → sm_H → Prop} {zc : Int} (hS : ab_Sh sx_sk h) (ok_zc : mi_in zc) (ho : (zc ≠ ((32 : Int))) ∧ (zc = ((10 : Int))) ∧ (((1 : Int)) = 0 ∨ ((1 : Int)) = 1)) (kon : ∀ h1, me_W [] h h1 → Q (some (.inl ((1 : Int)))) h1) : me_E (d) 178 0 [some (.inl (zc))] [] h Q := me_seg (mp_vbl_2 h d zc) (mi_tab_vbl_2) hS (mi_okL_c (ok_zc) (mi_okL_e)) (mi_okS_e) (mi_al (ho.1) (mi_al (ho.2.1) (mi_al_e))) (fun h1 W _ hst => me_ret (M := (1, 4, sb_178)) rfl rfl rfl hst (mi_al (ho.2.2) mi_al_e) (kon h1 W))
set_option maxRecDepth 20000 in
theorem mt_vbl {h : sm_H} {d : Nat} {Q : Option mi_V → sm_H → Prop} {zc : Int} (hS : ab_Sh sx_sk h) (ok_zc : mi_in zc) (k0 : (zc = ((32 : Int))) → (∀ h1, ab_Sh sx_sk h1 → ab_Fr [] h h1 → Q (some (.inl ((1 : Int)))) h1)) (k1 : (zc ≠ ((32 : Int))) → (zc ≠ ((10 : Int))) → (∀ h1, ab_Sh sx_sk h1 → ab_Fr [] h h1 → Q (some (.inl ((0 : Int)))) h1)) (k2 : (zc ≠ ((32 : Int))) → (zc = ((10 : Int))) → (∀ h1, ab_Sh sx_sk h1 → ab_Fr [] h h1 → Q (some (.inl ((1 : Int)))) h1)) : me_E (d) 178 0 [some (.inl (zc))] [] h Q := Or.elim (mi_em .eq (zc) (((32 : Int)))) (fun c0 => ms_vbl_0 hS ok_zc ⟨c0, (by decide)⟩ (fun h1 W => (k0 c0) h1 W.1 (W.2.2.2.2.2 _ rfl))) (fun c0 => Or.elim (mi_em .ne (zc) (((10 : Int)))) (fun c1 => ms_vbl_1 hS ok_zc ⟨c0, c1, (by decide)⟩ (fun h1 W => (k1 c0 c1) h1 W.1 (W.2.2.2.2.2 _ rfl))) (fun c1 => ms_vbl_2 hS ok_zc ⟨c0, c1, (by decide)⟩ (fun h1 W => (k2 c0 c1) h1 W.1 (W.2.2.2.2.2 _ rfl))))
set_option maxRecDepth 20000 in
theorem mp_vlo_0 (h : sm_H) (d : Nat) (zc : Int) : mi_path [(180, (1, 4, sb_180))] sx_sk h 4 [1] (d, 180, 0, [some (.inl (zc))], [], [], []) = some ((d, 180, 17, [some (.inl (zc))], [.inl ((0 : Int))], [], []), [zc < ((97 : Int))]) := rfl
theorem mi_tab_vlo_0 : ∀ e ∈ ([(180, (1, 4, sb_180))] : mi_T), sc_P e.1 = some e.2 := mi_tb mi_P180 (mi_tb_e)
set_option maxRecDepth 20000 in
theorem ms_vlo_0 {h : sm_H} {d : Nat} {Q : Option mi_V → sm_H → Prop} {zc : Int} (hS : ab_Sh sx_sk h) (ok_zc : mi_in zc) (ho : (zc < ((97 : Int))) ∧ (((0 : Int)) = 0 ∨ ((0 : Int)) = 1)) (kon : ∀ h1, me_W [] h h1 → Q (some (.inl ((0 : Int)))) h1) : me_E (d) 180 0 [some (.inl (zc))] [] h Q := me_seg (mp_vlo_0 h d zc) (mi_tab_vlo_0) hS (mi_okL_c (ok_zc) (mi_okL_e)) (mi_okS_e) (mi_al (ho.1) (mi_al_e)) (fun h1 W _ hst => me_ret (M := (1, 4, sb_180)) rfl rfl rfl hst (mi_al (ho.2) mi_al_e) (kon h1 W))
set_option maxRecDepth 20000 in
theorem mp_vlo_1 (h : sm_H) (d : Nat) (zc : Int) : mi_path [(180, (1, 4, sb_180))] sx_sk h 7 [0, 1] (d, 180, 0, [some (.inl (zc))], [], [], []) = some ((d, 180, 17, [some (.inl (zc))], [.inl ((0 : Int))], [], []), [((97 : Int)) ≤ zc, ((122 : Int)) < zc]) := rfl
theorem mi_tab_vlo_1 : ∀ e ∈ ([(180, (1, 4, sb_180))] : mi_T), sc_P e.1 = some e.2 := mi_tb mi_P180 (mi_tb_e)
set_option maxRecDepth 20000 in
theorem ms_vlo_1 {h : sm_H} {d : Nat} {Q : Option mi_V → sm_H → Prop} {zc : Int} (hS : ab_Sh sx_sk h) (ok_zc : mi_in zc) (ho : (((97 : Int)) ≤ zc) ∧ (((122 : Int)) < zc) ∧ (((0 : Int)) = 0 ∨ ((0 : Int)) = 1)) (kon : ∀ h1, me_W [] h h1 → Q (some (.inl ((0 : Int)))) h1) : me_E (d) 180 0 [some (.inl (zc))] [] h Q := me_seg (mp_vlo_1 h d zc) (mi_tab_vlo_1) hS (mi_okL_c (ok_zc) (mi_okL_e)) (mi_okS_e) (mi_al (ho.1) (mi_al (ho.2.1) (mi_al_e))) (fun h1 W _ hst => me_ret (M := (1, 4, sb_180)) rfl rfl rfl hst (mi_al (ho.2.2) mi_al_e) (kon h1 W))
set_option maxRecDepth 20000 in
theorem mp_vlo_2 (h : sm_H) (d : Nat) (zc : Int) : mi_path [(180, (1, 4, sb_180))] sx_sk h 8 [0, 0] (d, 180, 0, [some (.inl (zc))], [], [], []) = some ((d, 180, 17, [some (.inl (zc))], [.inl ((1 : Int))], [], []), [((97 : Int)) ≤ zc, zc ≤ ((122 : Int))]) := rfl
theorem mi_tab_vlo_2 : ∀ e ∈ ([(180, (1, 4, sb_180))] : mi_T), sc_P e.1 = some e.2 := mi_tb mi_P180 (mi_tb_e)
set_option maxRecDepth 20000 in
theorem ms_vlo_2 {h : sm_H} {d : Nat} {Q : Option mi_V → sm_H → Prop} {zc : Int} (hS : ab_Sh sx_sk h) (ok_zc : mi_in zc) (ho : (((97 : Int)) ≤ zc) ∧ (zc ≤ ((122 : Int))) ∧ (((1 : Int)) = 0 ∨ ((1 : Int)) = 1)) (kon : ∀ h1, me_W [] h h1 → Q (some (.inl ((1 : Int)))) h1) : me_E (d) 180 0 [some (.inl (zc))] [] h Q := me_seg (mp_vlo_2 h d zc) (mi_tab_vlo_2) hS (mi_okL_c (ok_zc) (mi_okL_e)) (mi_okS_e) (mi_al (ho.1) (mi_al (ho.2.1) (mi_al_e))) (fun h1 W _ hst => me_ret (M := (1, 4, sb_180)) rfl rfl rfl hst (mi_al (ho.2.2) mi_al_e) (kon h1 W))
set_option maxRecDepth 20000 in
theorem mt_vlo {h : sm_H} {d : Nat} {Q : Option mi_V → sm_H → Prop} {zc : Int} (hS : ab_Sh sx_sk h) (ok_zc : mi_in zc) (k0 : (zc < ((97 : Int))) → (∀ h1, ab_Sh sx_sk h1 → ab_Fr [] h h1 → Q (some (.inl ((0 : Int)))) h1)) (k1 : (((97 : Int)) ≤ zc) → (((122 : Int)) < zc) → (∀ h1, ab_Sh sx_sk h1 → ab_Fr [] h h1 → Q (some (.inl ((0 : Int)))) h1)) (k2 : (((97 : Int)) ≤ zc) → (zc ≤ ((122 : Int))) → (∀ h1, ab_Sh sx_sk h1 → ab_Fr [] h h1 → Q (some (.inl ((1 : Int)))) h1)) : me_E (d) 180 0 [some (.inl (zc))] [] h Q := Or.elim (mi_em .lt (zc) (((97 : Int)))) (fun c0 => ms_vlo_0 hS ok_zc ⟨c0, (by decide)⟩ (fun h1 W => (k0 c0) h1 W.1 (W.2.2.2.2.2 _ rfl))) (fun c0 => Or.elim (mi_em .gt (zc) (((122 : Int)))) (fun c1 => ms_vlo_1 hS ok_zc ⟨c0, c1, (by decide)⟩ (fun h1 W => (k1 c0 c1) h1 W.1 (W.2.2.2.2.2 _ rfl))) (fun c1 => ms_vlo_2 hS ok_zc ⟨c0, c1, (by decide)⟩ (fun h1 W => (k2 c0 c1) h1 W.1 (W.2.2.2.2.2 _ rfl))))
set_option maxRecDepth 20000 in
theorem mp_vdi_0 (h : sm_H) (d : Nat) (zc : Int) : mi_path [(182, (1, 4, sb_182))] sx_sk h 4 [1] (d, 182, 0, [some (.inl (zc))], [], [], []) = some ((d, 182, 17, [some (.inl (zc))], [.inl ((0 : Int))], [], []), [zc < ((48 : Int))]) := rfl
theorem mi_tab_vdi_0 : ∀ e ∈ ([(182, (1, 4, sb_182))] : mi_T), sc_P e.1 = some e.2 := mi_tb mi_P182 (mi_tb_e)
set_option maxRecDepth 20000 in
theorem ms_vdi_0 {h : sm_H} {d : Nat} {Q : Option mi_V → sm_H → Prop} {zc : Int} (hS : ab_Sh sx_sk h) (ok_zc : mi_in zc) (ho : (zc < ((48 : Int))) ∧ (((0 : Int)) = 0 ∨ ((0 : Int)) = 1)) (kon : ∀ h1, me_W [] h h1 → Q (some (.inl ((0 : Int)))) h1) : me_E (d) 182 0 [some (.inl (zc))] [] h Q := me_seg (mp_vdi_0 h d zc) (mi_tab_vdi_0) hS (mi_okL_c (ok_zc) (mi_okL_e)) (mi_okS_e) (mi_al (ho.1) (mi_al_e)) (fun h1 W _ hst => me_ret (M := (1, 4, sb_182)) rfl rfl rfl hst (mi_al (ho.2) mi_al_e) (kon h1 W))
set_option maxRecDepth 20000 in
theorem mp_vdi_1 (h : sm_H) (d : Nat) (zc : Int) : mi_path [(182, (1, 4, sb_182))] sx_sk h 7 [0, 1] (d, 182, 0, [some (.inl (zc))], [], [], []) = some ((d, 182, 17, [some (.inl (zc))], [.inl ((0 : Int))], [], []), [((48 : Int)) ≤ zc, ((57 : Int)) < zc]) := rfl
theorem mi_tab_vdi_1 : ∀ e ∈ ([(182, (1, 4, sb_182))] : mi_T), sc_P e.1 = some e.2 := mi_tb mi_P182 (mi_tb_e)
set_option maxRecDepth 20000 in
theorem ms_vdi_1 {h : sm_H} {d : Nat} {Q : Option mi_V → sm_H → Prop} {zc : Int} (hS : ab_Sh sx_sk h) (ok_zc : mi_in zc) (ho : (((48 : Int)) ≤ zc) ∧ (((57 : Int)) < zc) ∧ (((0 : Int)) = 0 ∨ ((0 : Int)) = 1)) (kon : ∀ h1, me_W [] h h1 → Q (some (.inl ((0 : Int)))) h1) : me_E (d) 182 0 [some (.inl (zc))] [] h Q := me_seg (mp_vdi_1 h d zc) (mi_tab_vdi_1) hS (mi_okL_c (ok_zc) (mi_okL_e)) (mi_okS_e) (mi_al (ho.1) (mi_al (ho.2.1) (mi_al_e))) (fun h1 W _ hst => me_ret (M := (1, 4, sb_182)) rfl rfl rfl hst (mi_al (ho.2.2) mi_al_e) (kon h1 W))
set_option maxRecDepth 20000 in
theorem mp_vdi_2 (h : sm_H) (d : Nat) (zc : Int) : mi_path [(182, (1, 4, sb_182))] sx_sk h 8 [0, 0] (d, 182, 0, [some (.inl (zc))], [], [], []) = some ((d, 182, 17, [some (.inl (zc))], [.inl ((1 : Int))], [], []), [((48 : Int)) ≤ zc, zc ≤ ((57 : Int))]) := rfl
theorem mi_tab_vdi_2 : ∀ e ∈ ([(182, (1, 4, sb_182))] : mi_T), sc_P e.1 = some e.2 := mi_tb mi_P182 (mi_tb_e)
set_option maxRecDepth 20000 in
theorem ms_vdi_2 {h : sm_H} {d : Nat} {Q : Option mi_V → sm_H → Prop} {zc : Int} (hS : ab_Sh sx_sk h) (ok_zc : mi_in zc) (ho : (((48 : Int)) ≤ zc) ∧ (zc ≤ ((57 : Int))) ∧ (((1 : Int)) = 0 ∨ ((1 : Int)) = 1)) (kon : ∀ h1, me_W [] h h1 → Q (some (.inl ((1 : Int)))) h1) : me_E (d) 182 0 [some (.inl (zc))] [] h Q := me_seg (mp_vdi_2 h d zc) (mi_tab_vdi_2) hS (mi_okL_c (ok_zc) (mi_okL_e)) (mi_okS_e) (mi_al (ho.1) (mi_al (ho.2.1) (mi_al_e))) (fun h1 W _ hst => me_ret (M := (1, 4, sb_182)) rfl rfl rfl hst (mi_al (ho.2.2) mi_al_e) (kon h1 W))
set_option maxRecDepth 20000 in
theorem mt_vdi {h : sm_H} {d : Nat} {Q : Option mi_V → sm_H → Prop} {zc : Int} (hS : ab_Sh sx_sk h) (ok_zc : mi_in zc) (k0 : (zc < ((48 : Int))) → (∀ h1, ab_Sh sx_sk h1 → ab_Fr [] h h1 → Q (some (.inl ((0 : Int)))) h1)) (k1 : (((48 : Int)) ≤ zc) → (((57 : Int)) < zc) → (∀ h1, ab_Sh sx_sk h1 → ab_Fr [] h h1 → Q (some (.inl ((0 : Int)))) h1)) (k2 : (((48 : Int)) ≤ zc) → (zc ≤ ((57 : Int))) → (∀ h1, ab_Sh sx_sk h1 → ab_Fr [] h h1 → Q (some (.inl ((1 : Int)))) h1)) : me_E (d) 182 0 [some (.inl (zc))] [] h Q := Or.elim (mi_em .lt (zc) (((48 : Int)))) (fun c0 => ms_vdi_0 hS ok_zc ⟨c0, (by decide)⟩ (fun h1 W => (k0 c0) h1 W.1 (W.2.2.2.2.2 _ rfl))) (fun c0 => Or.elim (mi_em .gt (zc) (((57 : Int)))) (fun c1 => ms_vdi_1 hS ok_zc ⟨c0, c1, (by decide)⟩ (fun h1 W => (k1 c0 c1) h1 W.1 (W.2.2.2.2.2 _ rfl))) (fun c1 => ms_vdi_2 hS ok_zc ⟨c0, c1, (by decide)⟩ (fun h1 W => (k2 c0 c1) h1 W.1 (W.2.2.2.2.2 _ rfl))))
set_option maxRecDepth 20000 in
theorem mp_vsA_0 (h : sm_H) (d : Nat) (zc : Int) : mi_path [(230, (3, 1, sb_230))] sx_sk h 2 [] (d, 230, 0, [some (.inr (.inr 109)), some (.inl (zc)), none], [], [], []) = some ((d, 230, 2, [some (.inr (.inr 109)), some (.inl (zc)), some (.inl ((0 : Int)))], [], [], []), []) := rfl
theorem mi_tab_vsA_0 : ∀ e ∈ ([(230, (3, 1, sb_230))] : mi_T), sc_P e.1 = some e.2 := mi_tb mi_P230 (mi_tb_e)
set_option maxRecDepth 20000 in
theorem ms_vsA_0 {h : sm_H} {d : Nat} {Q : Option mi_V → sm_H → Prop} {zc : Int} (hS : ab_Sh sx_sk h) (ok_zc : mi_in zc) (kon : ∀ h1, me_W [] h h1 → me_E (d) 230 2 [some (.inr (.inr 109)), some (.inl (zc)), some (.inl ((0 : Int)))] [] h1 Q) : me_E (d) 230 0 [some (.inr (.inr 109)), some (.inl (zc)), none] [] h Q := me_seg (mp_vsA_0 h d zc) (mi_tab_vsA_0) hS (mi_okL_c (trivial) (mi_okL_c (ok_zc) (mi_okL_n (mi_okL_e)))) (mi_okS_e) (mi_al_e) (fun h1 W _ hst => kon h1 W)
set_option maxRecDepth 20000 in
theorem mt_vsA {h : sm_H} {d : Nat} {Q : Option mi_V → sm_H → Prop} {zc : Int} (hS : ab_Sh sx_sk h) (ok_zc : mi_in zc) (k0 : (∀ h1, ab_Sh sx_sk h1 → ab_Fr [] h h1 → me_E (d) 230 2 [some (.inr (.inr 109)), some (.inl (zc)), some (.inl ((0 : Int)))] [] h1 Q)) : me_E (d) 230 0 [some (.inr (.inr 109)), some (.inl (zc)), none] [] h Q := ms_vsA_0 hS ok_zc (fun h1 W => (k0) h1 W.1 (W.2.2.2.2.2 _ rfl))
set_option maxRecDepth 20000 in
theorem mp_vsB_0 (h : sm_H) (d : Nat) (zc zl : Int) : mi_path [(230, (3, 1, sb_230))] sx_sk h 5 [1] (d, 230, 2, [some (.inr (.inr 109)), some (.inl (zc)), some (.inl (zl))], [], [], []) = some ((d, 230, 42, [some (.inr (.inr 109)), some (.inl (zc)), some (.inl (zl))], [.inl ((-1 : Int))], [], []), [(mi_f h 13962) ≤ zl]) := rfl
theorem mi_tab_vsB_0 : ∀ e ∈ ([(230, (3, 1, sb_230))] : mi_T), sc_P e.1 = some e.2 := mi_tb mi_P230 (mi_tb_e)
set_option maxRecDepth 20000 in
theorem ms_vsB_0 {h : sm_H} {d : Nat} {Q : Option mi_V → sm_H → Prop} {zc zl : Int} (hS : ab_Sh sx_sk h) (ok_zc : mi_in zc) (ok_zl : mi_in zl) (ho : ((mi_f h 13962) ≤ zl)) (kon : ∀ h1, me_W [] h h1 → Q (some (.inl ((-1 : Int)))) h1) : me_E (d) 230 2 [some (.inr (.inr 109)), some (.inl (zc)), some (.inl (zl))] [] h Q := me_seg (mp_vsB_0 h d zc zl) (mi_tab_vsB_0) hS (mi_okL_c (trivial) (mi_okL_c (ok_zc) (mi_okL_c (ok_zl) (mi_okL_e)))) (mi_okS_e) (mi_al (ho) (mi_al_e)) (fun h1 W _ hst => me_ret (M := (3, 1, sb_230)) rfl rfl rfl hst (mi_al_e) (kon h1 W))
set_option maxRecDepth 20000 in
theorem mp_vsB_1 (h : sm_H) (d : Nat) (zc zl : Int) : mi_path [(230, (3, 1, sb_230))] sx_sk h 13 [0, 1] (d, 230, 2, [some (.inr (.inr 109)), some (.inl (zc)), some (.inl (zl))], [], [], []) = some ((d, 230, 2, [some (.inr (.inr 109)), some (.inl (zc)), some (.inl (zl + 1))], [], [], []), [zl < (mi_f h 13962), 0 ≤ zl ∧ zl < 20, ((lg_cmp (mx_b h 118 (Int.toNat zl)) (Int64.ofNat 0)).toInt) ≠ ((0 : Int)), -2147483648 ≤ zl + 1 ∧ zl + 1 ≤ 2147483647]) := rfl
theorem mi_tab_vsB_1 : ∀ e ∈ ([(230, (3, 1, sb_230))] : mi_T), sc_P e.1 = some e.2 := mi_tb mi_P230 (mi_tb_e)
set_option maxRecDepth 20000 in
theorem ms_vsB_1 {h : sm_H} {d : Nat} {Q : Option mi_V → sm_H → Prop} {zc zl : Int} (hS : ab_Sh sx_sk h) (ok_zc : mi_in zc) (ok_zl : mi_in zl) (ho : (zl < (mi_f h 13962)) ∧ (0 ≤ zl ∧ zl < 20) ∧ (((lg_cmp (mx_b h 118 (Int.toNat zl)) (Int64.ofNat 0)).toInt) ≠ ((0 : Int))) ∧ (-2147483648 ≤ zl + 1 ∧ zl + 1 ≤ 2147483647)) (kon : ∀ h1, me_W [] h h1 → me_E (d) 230 2 [some (.inr (.inr 109)), some (.inl (zc)), some (.inl (zl + 1))] [] h1 Q) : me_E (d) 230 2 [some (.inr (.inr 109)), some (.inl (zc)), some (.inl (zl))] [] h Q := me_seg (mp_vsB_1 h d zc zl) (mi_tab_vsB_1) hS (mi_okL_c (trivial) (mi_okL_c (ok_zc) (mi_okL_c (ok_zl) (mi_okL_e)))) (mi_okS_e) (mi_al (ho.1) (mi_al (ho.2.1) (mi_al (ho.2.2.1) (mi_al (ho.2.2.2) (mi_al_e))))) (fun h1 W _ hst => kon h1 W)
set_option maxRecDepth 20000 in
theorem mp_vsB_2 (h : sm_H) (d : Nat) (zc zl : Int) : mi_path [(230, (3, 1, sb_230))] sx_sk h 19 [0, 0, 1] (d, 230, 2, [some (.inr (.inr 109)), some (.inl (zc)), some (.inl (zl))], [], [], []) = some ((d, 230, 2, [some (.inr (.inr 109)), some (.inl (zc)), some (.inl (zl + 1))], [], [], []), [zl < (mi_f h 13962), 0 ≤ zl ∧ zl < 20, ((lg_cmp (mx_b h 118 (Int.toNat zl)) (Int64.ofNat 0)).toInt) = ((0 : Int)), 0 ≤ zl ∧ zl < 20, (mi_a h 117 (Int.toNat zl)) ≠ zc, -2147483648 ≤ zl + 1 ∧ zl + 1 ≤ 2147483647]) := rfl
theorem mi_tab_vsB_2 : ∀ e ∈ ([(230, (3, 1, sb_230))] : mi_T), sc_P e.1 = some e.2 := mi_tb mi_P230 (mi_tb_e)
set_option maxRecDepth 20000 in
theorem ms_vsB_2 {h : sm_H} {d : Nat} {Q : Option mi_V → sm_H → Prop} {zc zl : Int} (hS : ab_Sh sx_sk h) (ok_zc : mi_in zc) (ok_zl : mi_in zl) (ho : (zl < (mi_f h 13962)) ∧ (0 ≤ zl ∧ zl < 20) ∧ (((lg_cmp (mx_b h 118 (Int.toNat zl)) (Int64.ofNat 0)).toInt) = ((0 : Int))) ∧ (0 ≤ zl ∧ zl < 20) ∧ ((mi_a h 117 (Int.toNat zl)) ≠ zc) ∧ (-2147483648 ≤ zl + 1 ∧ zl + 1 ≤ 2147483647)) (kon : ∀ h1, me_W [] h h1 → me_E (d) 230 2 [some (.inr (.inr 109)), some (.inl (zc)), some (.inl (zl + 1))] [] h1 Q) : me_E (d) 230 2 [some (.inr (.inr 109)), some (.inl (zc)), some (.inl (zl))] [] h Q := me_seg (mp_vsB_2 h d zc zl) (mi_tab_vsB_2) hS (mi_okL_c (trivial) (mi_okL_c (ok_zc) (mi_okL_c (ok_zl) (mi_okL_e)))) (mi_okS_e) (mi_al (ho.1) (mi_al (ho.2.1) (mi_al (ho.2.2.1) (mi_al (ho.2.2.2.1) (mi_al (ho.2.2.2.2.1) (mi_al (ho.2.2.2.2.2) (mi_al_e))))))) (fun h1 W _ hst => kon h1 W)
set_option maxRecDepth 20000 in
theorem mp_vsB_3 (h : sm_H) (d : Nat) (zc zl : Int) : mi_path [(230, (3, 1, sb_230))] sx_sk h 20 [0, 0, 0, 8] (d, 230, 2, [some (.inr (.inr 109)), some (.inl (zc)), some (.inl (zl))], [], [], []) = some ((d, 230, 34, [some (.inr (.inr 109)), some (.inl (zc)), some (.inl (zl))], [.inl (((3 : Int)) + zl)], [], []), [zl < (mi_f h 13962), 0 ≤ zl ∧ zl < 20, ((lg_cmp (mx_b h 118 (Int.toNat zl)) (Int64.ofNat 0)).toInt) = ((0 : Int)), 0 ≤ zl ∧ zl < 20, (mi_a h 117 (Int.toNat zl)) = zc, -2147483648 ≤ ((3 : Int)) + zl ∧ ((3 : Int)) + zl ≤ 2147483647]) := rfl
theorem mi_tab_vsB_3 : ∀ e ∈ ([(230, (3, 1, sb_230))] : mi_T), sc_P e.1 = some e.2 := mi_tb mi_P230 (mi_tb_e)
set_option maxRecDepth 20000 in
theorem ms_vsB_3 {h : sm_H} {d : Nat} {Q : Option mi_V → sm_H → Prop} {zc zl : Int} (hS : ab_Sh sx_sk h) (ok_zc : mi_in zc) (ok_zl : mi_in zl) (ho : (zl < (mi_f h 13962)) ∧ (0 ≤ zl ∧ zl < 20) ∧ (((lg_cmp (mx_b h 118 (Int.toNat zl)) (Int64.ofNat 0)).toInt) = ((0 : Int))) ∧ (0 ≤ zl ∧ zl < 20) ∧ ((mi_a h 117 (Int.toNat zl)) = zc) ∧ (-2147483648 ≤ ((3 : Int)) + zl ∧ ((3 : Int)) + zl ≤ 2147483647)) (kon : ∀ h1, me_W [] h h1 → Q (some (.inl (((3 : Int)) + zl))) h1) : me_E (d) 230 2 [some (.inr (.inr 109)), some (.inl (zc)), some (.inl (zl))] [] h Q := me_seg (mp_vsB_3 h d zc zl) (mi_tab_vsB_3) hS (mi_okL_c (trivial) (mi_okL_c (ok_zc) (mi_okL_c (ok_zl) (mi_okL_e)))) (mi_okS_e) (mi_al (ho.1) (mi_al (ho.2.1) (mi_al (ho.2.2.1) (mi_al (ho.2.2.2.1) (mi_al (ho.2.2.2.2.1) (mi_al (ho.2.2.2.2.2) (mi_al_e))))))) (fun h1 W _ hst => me_ret (M := (3, 1, sb_230)) rfl rfl rfl hst (mi_al_e) (kon h1 W))
set_option maxRecDepth 20000 in
theorem mt_vsB {h : sm_H} {d : Nat} {Q : Option mi_V → sm_H → Prop} {zc zl : Int} (hS : ab_Sh sx_sk h) (ok_zc : mi_in zc) (ok_zl : mi_in zl) (k0 : (0 ≤ mi_f h 13962 ∧ mi_f h 13962 ≤ 20) → ((mi_f h 13962) ≤ zl) → (∀ h1, ab_Sh sx_sk h1 → ab_Fr [] h h1 → Q (some (.inl ((-1 : Int)))) h1)) (k1 : (0 ≤ mi_f h 13962 ∧ mi_f h 13962 ≤ 20) → (zl < (mi_f h 13962)) → (((lg_cmp (mx_b h 118 (Int.toNat zl)) (Int64.ofNat 0)).toInt) ≠ ((0 : Int))) → ((0 ≤ zl ∧ zl < 20) ∧ (-2147483648 ≤ zl + 1 ∧ zl + 1 ≤ 2147483647)) ∧ (∀ h1, ab_Sh sx_sk h1 → ab_Fr [] h h1 → me_E (d) 230 2 [some (.inr (.inr 109)), some (.inl (zc)), some (.inl (zl + 1))] [] h1 Q)) (k2 : (0 ≤ mi_f h 13962 ∧ mi_f h 13962 ≤ 20) → (zl < (mi_f h 13962)) → (((lg_cmp (mx_b h 118 (Int.toNat zl)) (Int64.ofNat 0)).toInt) = ((0 : Int))) → ((mi_a h 117 (Int.toNat zl)) ≠ zc) → ((0 ≤ zl ∧ zl < 20) ∧ (-2147483648 ≤ zl + 1 ∧ zl + 1 ≤ 2147483647)) ∧ (∀ h1, ab_Sh sx_sk h1 → ab_Fr [] h h1 → me_E (d) 230 2 [some (.inr (.inr 109)), some (.inl (zc)), some (.inl (zl + 1))] [] h1 Q)) (k3 : (0 ≤ mi_f h 13962 ∧ mi_f h 13962 ≤ 20) → (zl < (mi_f h 13962)) → (((lg_cmp (mx_b h 118 (Int.toNat zl)) (Int64.ofNat 0)).toInt) = ((0 : Int))) → ((mi_a h 117 (Int.toNat zl)) = zc) → ((0 ≤ zl ∧ zl < 20) ∧ (-2147483648 ≤ ((3 : Int)) + zl ∧ ((3 : Int)) + zl ≤ 2147483647)) ∧ (∀ h1, ab_Sh sx_sk h1 → ab_Fr [] h h1 → Q (some (.inl (((3 : Int)) + zl))) h1)) : me_E (d) 230 2 [some (.inr (.inr 109)), some (.inl (zc)), some (.inl (zl))] [] h Q := Or.elim (mi_em .ge (zl) ((mi_f h 13962))) (fun c0 => ms_vsB_0 hS ok_zc ok_zl (c0) (fun h1 W => (k0 (me_fb hS rfl) c0) h1 W.1 (W.2.2.2.2.2 _ rfl))) (fun c0 => Or.elim (mi_em .ne (((lg_cmp (mx_b h 118 (Int.toNat zl)) (Int64.ofNat 0)).toInt)) (((0 : Int)))) (fun c1 => ms_vsB_1 hS ok_zc ok_zl ⟨c0, (k1 (me_fb hS rfl) c0 c1).1.1, c1, (k1 (me_fb hS rfl) c0 c1).1.2⟩ (fun h1 W => (k1 (me_fb hS rfl) c0 c1).2 h1 W.1 (W.2.2.2.2.2 _ rfl))) (fun c1 => Or.elim (mi_em .ne ((mi_a h 117 (Int.toNat zl))) (zc)) (fun c2 => ms_vsB_2 hS ok_zc ok_zl ⟨c0, (k2 (me_fb hS rfl) c0 c1 c2).1.1, c1, (k2 (me_fb hS rfl) c0 c1 c2).1.1, c2, (k2 (me_fb hS rfl) c0 c1 c2).1.2⟩ (fun h1 W => (k2 (me_fb hS rfl) c0 c1 c2).2 h1 W.1 (W.2.2.2.2.2 _ rfl))) (fun c2 => ms_vsB_3 hS ok_zc ok_zl ⟨c0, (k3 (me_fb hS rfl) c0 c1 c2).1.1, c1, (k3 (me_fb hS rfl) c0 c1 c2).1.1, c2, (k3 (me_fb hS rfl) c0 c1 c2).1.2⟩ (fun h1 W => (k3 (me_fb hS rfl) c0 c1 c2).2 h1 W.1 (W.2.2.2.2.2 _ rfl)))))
