/-! segments of the class: walkUnit, walkPart, walk -/
set_option maxRecDepth 20000 in
theorem mp_kgyA_0 (h : sm_H) (d : Nat) (zp zd : Int) : mj_path [(131, (7, 0, sb_131)), (16, (3, 0, sb_16)), (49, (2, 1, sb_49))] sx_sk h 18 [1, 1, 0] (d + 5, 131, 0, [some (.inr (.inr 107)), some (.inl (zp)), some (.inl (zd)), none, none, none, none], [], [], []) = some ((d + 5, 131, 27, [some (.inr (.inr 107)), some (.inl (zp)), some (.inl (zd)), some (.inl ((0 : Int))), none, none, none], [.inl (zd), .inl (zp), .inr (.inr 107)], [], []), [zp < ((0 : Int)), (mi_f h 13699) = ((0 : Int)), ((0 : Int)) = ((0 : Int))]) := rfl
theorem mi_tab_kgyA_0 : ∀ e ∈ ([(131, (7, 0, sb_131)), (16, (3, 0, sb_16)), (49, (2, 1, sb_49))] : mi_T), sc_P e.1 = some e.2 := mi_tb mi_P131 (mi_tb mi_P16 (mi_tb mi_P49 (mi_tb_e)))
set_option maxRecDepth 20000 in
theorem ms_kgyA_0 {h : sm_H} {d : Nat} {Q : Option mi_V → sm_H → Prop} {zp zd : Int} (hS : ab_Sh sx_sk h) (ok_zp : mi_in zp) (ok_zd : mi_in zd) (ho : (zp < ((0 : Int))) ∧ ((mi_f h 13699) = ((0 : Int))) ∧ (((0 : Int)) = ((0 : Int)))) (kon : ∀ h1, me_W [] h h1 → ∃ Q1, me_E (d + 4) 132 0 (mi_entry 4 [.inr (.inr 107), .inl (zp), .inl (zd)]) [] h1 Q1 ∧ ∀ w h2, (∀ x, w = some x → mi_ok x) → Q1 w h2 → me_E (d + 5) 131 30 [some (.inr (.inr 107)), some (.inl (zp)), some (.inl (zd)), some (.inl ((0 : Int))), none, none, none] (mi_back w []) h2 Q) : me_E (d + 5) 131 0 [some (.inr (.inr 107)), some (.inl (zp)), some (.inl (zd)), none, none, none, none] [] h Q := mf_seg (mp_kgyA_0 h d zp zd) (mi_tab_kgyA_0) hS (mi_okL_c (trivial) (mi_okL_c (ok_zp) (mi_okL_c (ok_zd) (mi_okL_n (mi_okL_n (mi_okL_n (mi_okL_n (mi_okL_e)))))))) (mi_okS_e) (mi_al (ho.1) (mi_al (ho.2.1) (mi_al (ho.2.2) (mi_al_e)))) (fun h1 W _ hst => let ⟨_, k1, k2⟩ := kon h1 W; mf_call (M := (7, 0, sb_131)) (M' := (4, 0, sb_132)) rfl rfl rfl rfl (Nat.le_of_ble_eq_true rfl) (Nat.le_of_ble_eq_true rfl) W.1 k1 k2)
set_option maxRecDepth 20000 in
theorem mp_kgyA_1 (h : sm_H) (d : Nat) (zp zd : Int) : mj_path [(131, (7, 0, sb_131)), (16, (3, 0, sb_16)), (49, (2, 1, sb_49))] sx_sk h 13 [1, 0] (d + 5, 131, 0, [some (.inr (.inr 107)), some (.inl (zp)), some (.inl (zd)), none, none, none, none], [], [], []) = some ((d + 5, 131, 19, [some (.inr (.inr 107)), some (.inl (zp)), some (.inl (zd)), some (.inl ((0 : Int))), none, none, none], [], [], []), [zp < ((0 : Int)), (mi_f h 13699) ≠ ((0 : Int))]) := rfl
theorem mi_tab_kgyA_1 : ∀ e ∈ ([(131, (7, 0, sb_131)), (16, (3, 0, sb_16)), (49, (2, 1, sb_49))] : mi_T), sc_P e.1 = some e.2 := mi_tb mi_P131 (mi_tb mi_P16 (mi_tb mi_P49 (mi_tb_e)))
set_option maxRecDepth 20000 in
theorem ms_kgyA_1 {h : sm_H} {d : Nat} {Q : Option mi_V → sm_H → Prop} {zp zd : Int} (hS : ab_Sh sx_sk h) (ok_zp : mi_in zp) (ok_zd : mi_in zd) (ho : (zp < ((0 : Int))) ∧ ((mi_f h 13699) ≠ ((0 : Int)))) (kon : ∀ h1, me_W [] h h1 → Q none h1) : me_E (d + 5) 131 0 [some (.inr (.inr 107)), some (.inl (zp)), some (.inl (zd)), none, none, none, none] [] h Q := mf_seg (mp_kgyA_1 h d zp zd) (mi_tab_kgyA_1) hS (mi_okL_c (trivial) (mi_okL_c (ok_zp) (mi_okL_c (ok_zd) (mi_okL_n (mi_okL_n (mi_okL_n (mi_okL_n (mi_okL_e)))))))) (mi_okS_e) (mi_al (ho.1) (mi_al (ho.2) (mi_al_e))) (fun h1 W _ hst => mf_ret (M := (7, 0, sb_131)) rfl rfl rfl hst (mi_al_e) (kon h1 W))
set_option maxRecDepth 20000 in
theorem mp_kgyA_2 (h : sm_H) (d : Nat) (zp zd : Int) : mj_path [(131, (7, 0, sb_131)), (16, (3, 0, sb_16)), (49, (2, 1, sb_49))] sx_sk h 22 [0, 1, 1, 0] (d + 5, 131, 0, [some (.inr (.inr 107)), some (.inl (zp)), some (.inl (zd)), none, none, none, none], [], [], []) = some ((d + 5, 131, 27, [some (.inr (.inr 107)), some (.inl (zp)), some (.inl (zd)), some (.inl ((0 : Int))), none, none, none], [.inl (zd), .inl (zp), .inr (.inr 107)], [], []), [((0 : Int)) ≤ zp, ((60 : Int)) ≤ zp, (mi_f h 13699) = ((0 : Int)), ((0 : Int)) = ((0 : Int))]) := rfl
theorem mi_tab_kgyA_2 : ∀ e ∈ ([(131, (7, 0, sb_131)), (16, (3, 0, sb_16)), (49, (2, 1, sb_49))] : mi_T), sc_P e.1 = some e.2 := mi_tb mi_P131 (mi_tb mi_P16 (mi_tb mi_P49 (mi_tb_e)))
set_option maxRecDepth 20000 in
theorem ms_kgyA_2 {h : sm_H} {d : Nat} {Q : Option mi_V → sm_H → Prop} {zp zd : Int} (hS : ab_Sh sx_sk h) (ok_zp : mi_in zp) (ok_zd : mi_in zd) (ho : (((0 : Int)) ≤ zp) ∧ (((60 : Int)) ≤ zp) ∧ ((mi_f h 13699) = ((0 : Int))) ∧ (((0 : Int)) = ((0 : Int)))) (kon : ∀ h1, me_W [] h h1 → ∃ Q1, me_E (d + 4) 132 0 (mi_entry 4 [.inr (.inr 107), .inl (zp), .inl (zd)]) [] h1 Q1 ∧ ∀ w h2, (∀ x, w = some x → mi_ok x) → Q1 w h2 → me_E (d + 5) 131 30 [some (.inr (.inr 107)), some (.inl (zp)), some (.inl (zd)), some (.inl ((0 : Int))), none, none, none] (mi_back w []) h2 Q) : me_E (d + 5) 131 0 [some (.inr (.inr 107)), some (.inl (zp)), some (.inl (zd)), none, none, none, none] [] h Q := mf_seg (mp_kgyA_2 h d zp zd) (mi_tab_kgyA_2) hS (mi_okL_c (trivial) (mi_okL_c (ok_zp) (mi_okL_c (ok_zd) (mi_okL_n (mi_okL_n (mi_okL_n (mi_okL_n (mi_okL_e)))))))) (mi_okS_e) (mi_al (ho.1) (mi_al (ho.2.1) (mi_al (ho.2.2.1) (mi_al (ho.2.2.2) (mi_al_e))))) (fun h1 W _ hst => let ⟨_, k1, k2⟩ := kon h1 W; mf_call (M := (7, 0, sb_131)) (M' := (4, 0, sb_132)) rfl rfl rfl rfl (Nat.le_of_ble_eq_true rfl) (Nat.le_of_ble_eq_true rfl) W.1 k1 k2)
set_option maxRecDepth 20000 in
theorem mp_kgyA_3 (h : sm_H) (d : Nat) (zp zd : Int) : mj_path [(131, (7, 0, sb_131)), (16, (3, 0, sb_16)), (49, (2, 1, sb_49))] sx_sk h 17 [0, 1, 0] (d + 5, 131, 0, [some (.inr (.inr 107)), some (.inl (zp)), some (.inl (zd)), none, none, none, none], [], [], []) = some ((d + 5, 131, 19, [some (.inr (.inr 107)), some (.inl (zp)), some (.inl (zd)), some (.inl ((0 : Int))), none, none, none], [], [], []), [((0 : Int)) ≤ zp, ((60 : Int)) ≤ zp, (mi_f h 13699) ≠ ((0 : Int))]) := rfl
theorem mi_tab_kgyA_3 : ∀ e ∈ ([(131, (7, 0, sb_131)), (16, (3, 0, sb_16)), (49, (2, 1, sb_49))] : mi_T), sc_P e.1 = some e.2 := mi_tb mi_P131 (mi_tb mi_P16 (mi_tb mi_P49 (mi_tb_e)))
set_option maxRecDepth 20000 in
theorem ms_kgyA_3 {h : sm_H} {d : Nat} {Q : Option mi_V → sm_H → Prop} {zp zd : Int} (hS : ab_Sh sx_sk h) (ok_zp : mi_in zp) (ok_zd : mi_in zd) (ho : (((0 : Int)) ≤ zp) ∧ (((60 : Int)) ≤ zp) ∧ ((mi_f h 13699) ≠ ((0 : Int)))) (kon : ∀ h1, me_W [] h h1 → Q none h1) : me_E (d + 5) 131 0 [some (.inr (.inr 107)), some (.inl (zp)), some (.inl (zd)), none, none, none, none] [] h Q := mf_seg (mp_kgyA_3 h d zp zd) (mi_tab_kgyA_3) hS (mi_okL_c (trivial) (mi_okL_c (ok_zp) (mi_okL_c (ok_zd) (mi_okL_n (mi_okL_n (mi_okL_n (mi_okL_n (mi_okL_e)))))))) (mi_okS_e) (mi_al (ho.1) (mi_al (ho.2.1) (mi_al (ho.2.2) (mi_al_e)))) (fun h1 W _ hst => mf_ret (M := (7, 0, sb_131)) rfl rfl rfl hst (mi_al_e) (kon h1 W))
set_option maxRecDepth 20000 in
theorem mp_kgyA_4 (h : sm_H) (d : Nat) (zp zd : Int) : mj_path [(131, (7, 0, sb_131)), (16, (3, 0, sb_16)), (49, (2, 1, sb_49))] sx_sk h 26 [0, 0, 1, 1] (d + 5, 131, 0, [some (.inr (.inr 107)), some (.inl (zp)), some (.inl (zd)), none, none, none, none], [], [], []) = some ((d + 5, 131, 35, [some (.inr (.inr 107)), some (.inl (zp)), some (.inl (zd)), some (.inl (mi_a h 72 (Int.toNat zp))), none, none, none], [.inl (mi_a h 72 (Int.toNat zp)), .inr (.inr 107), .inl (mi_a h 72 (Int.toNat zp)), .inr (.inr 107)], [], []), [((0 : Int)) ≤ zp, zp < ((60 : Int)), 0 ≤ zp ∧ zp < 60, (mi_f h 13699) = ((0 : Int)), (mi_a h 72 (Int.toNat zp)) ≠ ((0 : Int))]) := rfl
theorem mi_tab_kgyA_4 : ∀ e ∈ ([(131, (7, 0, sb_131)), (16, (3, 0, sb_16)), (49, (2, 1, sb_49))] : mi_T), sc_P e.1 = some e.2 := mi_tb mi_P131 (mi_tb mi_P16 (mi_tb mi_P49 (mi_tb_e)))
set_option maxRecDepth 20000 in
theorem ms_kgyA_4 {h : sm_H} {d : Nat} {Q : Option mi_V → sm_H → Prop} {zp zd : Int} (hS : ab_Sh sx_sk h) (ok_zp : mi_in zp) (ok_zd : mi_in zd) (ho : (((0 : Int)) ≤ zp) ∧ (zp < ((60 : Int))) ∧ (0 ≤ zp ∧ zp < 60) ∧ ((mi_f h 13699) = ((0 : Int))) ∧ ((mi_a h 72 (Int.toNat zp)) ≠ ((0 : Int)))) (kon : ∀ h1, me_W [] h h1 → ∃ Q1, me_E (d + 4) 142 0 (mi_entry 2 [.inr (.inr 107), .inl (mi_a h 72 (Int.toNat zp))]) [] h1 Q1 ∧ ∀ w h2, (∀ x, w = some x → mi_ok x) → Q1 w h2 → me_E (d + 5) 131 38 [some (.inr (.inr 107)), some (.inl (zp)), some (.inl (zd)), some (.inl (mi_a h 72 (Int.toNat zp))), none, none, none] (mi_back w [.inl (mi_a h 72 (Int.toNat zp)), .inr (.inr 107)]) h2 Q) : me_E (d + 5) 131 0 [some (.inr (.inr 107)), some (.inl (zp)), some (.inl (zd)), none, none, none, none] [] h Q := mf_seg (mp_kgyA_4 h d zp zd) (mi_tab_kgyA_4) hS (mi_okL_c (trivial) (mi_okL_c (ok_zp) (mi_okL_c (ok_zd) (mi_okL_n (mi_okL_n (mi_okL_n (mi_okL_n (mi_okL_e)))))))) (mi_okS_e) (mi_al (ho.1) (mi_al (ho.2.1) (mi_al (ho.2.2.1) (mi_al (ho.2.2.2.1) (mi_al (ho.2.2.2.2) (mi_al_e)))))) (fun h1 W _ hst => let ⟨_, k1, k2⟩ := kon h1 W; mf_call (M := (7, 0, sb_131)) (M' := (2, 1, sb_142)) rfl rfl rfl rfl (Nat.le_of_ble_eq_true rfl) (Nat.le_of_ble_eq_true rfl) W.1 k1 k2)
set_option maxRecDepth 20000 in
theorem mp_kgyA_5 (h : sm_H) (d : Nat) (zp zd : Int) : mj_path [(131, (7, 0, sb_131)), (16, (3, 0, sb_16)), (49, (2, 1, sb_49))] sx_sk h 25 [0, 0, 1, 0] (d + 5, 131, 0, [some (.inr (.inr 107)), some (.inl (zp)), some (.inl (zd)), none, none, none, none], [], [], []) = some ((d + 5, 131, 27, [some (.inr (.inr 107)), some (.inl (zp)), some (.inl (zd)), some (.inl (mi_a h 72 (Int.toNat zp))), none, none, none], [.inl (zd), .inl (zp), .inr (.inr 107)], [], []), [((0 : Int)) ≤ zp, zp < ((60 : Int)), 0 ≤ zp ∧ zp < 60, (mi_f h 13699) = ((0 : Int)), (mi_a h 72 (Int.toNat zp)) = ((0 : Int))]) := rfl
theorem mi_tab_kgyA_5 : ∀ e ∈ ([(131, (7, 0, sb_131)), (16, (3, 0, sb_16)), (49, (2, 1, sb_49))] : mi_T), sc_P e.1 = some e.2 := mi_tb mi_P131 (mi_tb mi_P16 (mi_tb mi_P49 (mi_tb_e)))
set_option maxRecDepth 20000 in
theorem ms_kgyA_5 {h : sm_H} {d : Nat} {Q : Option mi_V → sm_H → Prop} {zp zd : Int} (hS : ab_Sh sx_sk h) (ok_zp : mi_in zp) (ok_zd : mi_in zd) (ho : (((0 : Int)) ≤ zp) ∧ (zp < ((60 : Int))) ∧ (0 ≤ zp ∧ zp < 60) ∧ ((mi_f h 13699) = ((0 : Int))) ∧ ((mi_a h 72 (Int.toNat zp)) = ((0 : Int)))) (kon : ∀ h1, me_W [] h h1 → ∃ Q1, me_E (d + 4) 132 0 (mi_entry 4 [.inr (.inr 107), .inl (zp), .inl (zd)]) [] h1 Q1 ∧ ∀ w h2, (∀ x, w = some x → mi_ok x) → Q1 w h2 → me_E (d + 5) 131 30 [some (.inr (.inr 107)), some (.inl (zp)), some (.inl (zd)), some (.inl (mi_a h 72 (Int.toNat zp))), none, none, none] (mi_back w []) h2 Q) : me_E (d + 5) 131 0 [some (.inr (.inr 107)), some (.inl (zp)), some (.inl (zd)), none, none, none, none] [] h Q := mf_seg (mp_kgyA_5 h d zp zd) (mi_tab_kgyA_5) hS (mi_okL_c (trivial) (mi_okL_c (ok_zp) (mi_okL_c (ok_zd) (mi_okL_n (mi_okL_n (mi_okL_n (mi_okL_n (mi_okL_e)))))))) (mi_okS_e) (mi_al (ho.1) (mi_al (ho.2.1) (mi_al (ho.2.2.1) (mi_al (ho.2.2.2.1) (mi_al (ho.2.2.2.2) (mi_al_e)))))) (fun h1 W _ hst => let ⟨_, k1, k2⟩ := kon h1 W; mf_call (M := (7, 0, sb_131)) (M' := (4, 0, sb_132)) rfl rfl rfl rfl (Nat.le_of_ble_eq_true rfl) (Nat.le_of_ble_eq_true rfl) W.1 k1 k2)
set_option maxRecDepth 20000 in
theorem mp_kgyA_6 (h : sm_H) (d : Nat) (zp zd : Int) : mj_path [(131, (7, 0, sb_131)), (16, (3, 0, sb_16)), (49, (2, 1, sb_49))] sx_sk h 20 [0, 0, 0] (d + 5, 131, 0, [some (.inr (.inr 107)), some (.inl (zp)), some (.inl (zd)), none, none, none, none], [], [], []) = some ((d + 5, 131, 19, [some (.inr (.inr 107)), some (.inl (zp)), some (.inl (zd)), some (.inl (mi_a h 72 (Int.toNat zp))), none, none, none], [], [], []), [((0 : Int)) ≤ zp, zp < ((60 : Int)), 0 ≤ zp ∧ zp < 60, (mi_f h 13699) ≠ ((0 : Int))]) := rfl
theorem mi_tab_kgyA_6 : ∀ e ∈ ([(131, (7, 0, sb_131)), (16, (3, 0, sb_16)), (49, (2, 1, sb_49))] : mi_T), sc_P e.1 = some e.2 := mi_tb mi_P131 (mi_tb mi_P16 (mi_tb mi_P49 (mi_tb_e)))
set_option maxRecDepth 20000 in
theorem ms_kgyA_6 {h : sm_H} {d : Nat} {Q : Option mi_V → sm_H → Prop} {zp zd : Int} (hS : ab_Sh sx_sk h) (ok_zp : mi_in zp) (ok_zd : mi_in zd) (ho : (((0 : Int)) ≤ zp) ∧ (zp < ((60 : Int))) ∧ (0 ≤ zp ∧ zp < 60) ∧ ((mi_f h 13699) ≠ ((0 : Int)))) (kon : ∀ h1, me_W [] h h1 → Q none h1) : me_E (d + 5) 131 0 [some (.inr (.inr 107)), some (.inl (zp)), some (.inl (zd)), none, none, none, none] [] h Q := mf_seg (mp_kgyA_6 h d zp zd) (mi_tab_kgyA_6) hS (mi_okL_c (trivial) (mi_okL_c (ok_zp) (mi_okL_c (ok_zd) (mi_okL_n (mi_okL_n (mi_okL_n (mi_okL_n (mi_okL_e)))))))) (mi_okS_e) (mi_al (ho.1) (mi_al (ho.2.1) (mi_al (ho.2.2.1) (mi_al (ho.2.2.2) (mi_al_e))))) (fun h1 W _ hst => mf_ret (M := (7, 0, sb_131)) rfl rfl rfl hst (mi_al_e) (kon h1 W))
set_option maxRecDepth 20000 in
theorem mt_kgyA {h : sm_H} {d : Nat} {Q : Option mi_V → sm_H → Prop} {zp zd : Int} (hS : ab_Sh sx_sk h) (ok_zp : mi_in zp) (ok_zd : mi_in zd) (k0 : (0 ≤ mi_f h 13699 ∧ mi_f h 13699 ≤ 1) → (zp < ((0 : Int))) → ((mi_f h 13699) = ((0 : Int))) → (∀ h1, ab_Sh sx_sk h1 → ab_Fr [] h h1 → ∃ Q1, me_E (d + 4) 132 0 (mi_entry 4 [.inr (.inr 107), .inl (zp), .inl (zd)]) [] h1 Q1 ∧ ∀ w h2, (∀ x, w = some x → mi_ok x) → Q1 w h2 → me_E (d + 5) 131 30 [some (.inr (.inr 107)), some (.inl (zp)), some (.inl (zd)), some (.inl ((0 : Int))), none, none, none] (mi_back w []) h2 Q)) (k1 : (0 ≤ mi_f h 13699 ∧ mi_f h 13699 ≤ 1) → (zp < ((0 : Int))) → ((mi_f h 13699) ≠ ((0 : Int))) → (∀ h1, ab_Sh sx_sk h1 → ab_Fr [] h h1 → Q none h1)) (k2 : (0 ≤ mi_f h 13699 ∧ mi_f h 13699 ≤ 1) → (((0 : Int)) ≤ zp) → (((60 : Int)) ≤ zp) → ((mi_f h 13699) = ((0 : Int))) → (∀ h1, ab_Sh sx_sk h1 → ab_Fr [] h h1 → ∃ Q1, me_E (d + 4) 132 0 (mi_entry 4 [.inr (.inr 107), .inl (zp), .inl (zd)]) [] h1 Q1 ∧ ∀ w h2, (∀ x, w = some x → mi_ok x) → Q1 w h2 → me_E (d + 5) 131 30 [some (.inr (.inr 107)), some (.inl (zp)), some (.inl (zd)), some (.inl ((0 : Int))), none, none, none] (mi_back w []) h2 Q)) (k3 : (0 ≤ mi_f h 13699 ∧ mi_f h 13699 ≤ 1) → (((0 : Int)) ≤ zp) → (((60 : Int)) ≤ zp) → ((mi_f h 13699) ≠ ((0 : Int))) → (∀ h1, ab_Sh sx_sk h1 → ab_Fr [] h h1 → Q none h1)) (k4 : (0 ≤ mi_f h 13699 ∧ mi_f h 13699 ≤ 1) → (((0 : Int)) ≤ zp) → (zp < ((60 : Int))) → ((mi_f h 13699) = ((0 : Int))) → ((mi_a h 72 (Int.toNat zp)) ≠ ((0 : Int))) → ((0 ≤ zp ∧ zp < 60)) ∧ (∀ h1, ab_Sh sx_sk h1 → ab_Fr [] h h1 → ∃ Q1, me_E (d + 4) 142 0 (mi_entry 2 [.inr (.inr 107), .inl (mi_a h 72 (Int.toNat zp))]) [] h1 Q1 ∧ ∀ w h2, (∀ x, w = some x → mi_ok x) → Q1 w h2 → me_E (d + 5) 131 38 [some (.inr (.inr 107)), some (.inl (zp)), some (.inl (zd)), some (.inl (mi_a h 72 (Int.toNat zp))), none, none, none] (mi_back w [.inl (mi_a h 72 (Int.toNat zp)), .inr (.inr 107)]) h2 Q)) (k5 : (0 ≤ mi_f h 13699 ∧ mi_f h 13699 ≤ 1) → (((0 : Int)) ≤ zp) → (zp < ((60 : Int))) → ((mi_f h 13699) = ((0 : Int))) → ((mi_a h 72 (Int.toNat zp)) = ((0 : Int))) → ((0 ≤ zp ∧ zp < 60)) ∧ (∀ h1, ab_Sh sx_sk h1 → ab_Fr [] h h1 → ∃ Q1, me_E (d + 4) 132 0 (mi_entry 4 [.inr (.inr 107), .inl (zp), .inl (zd)]) [] h1 Q1 ∧ ∀ w h2, (∀ x, w = some x → mi_ok x) → Q1 w h2 → me_E (d + 5) 131 30 [some (.inr (.inr 107)), some (.inl (zp)), some (.inl (zd)), some (.inl (mi_a h 72 (Int.toNat zp))), none, none, none] (mi_back w []) h2 Q)) (k6 : (0 ≤ mi_f h 13699 ∧ mi_f h 13699 ≤ 1) → (((0 : Int)) ≤ zp) → (zp < ((60 : Int))) → ((mi_f h 13699) ≠ ((0 : Int))) → ((0 ≤ zp ∧ zp < 60)) ∧ (∀ h1, ab_Sh sx_sk h1 → ab_Fr [] h h1 → Q none h1)) : me_E (d + 5) 131 0 [some (.inr (.inr 107)), some (.inl (zp)), some (.inl (zd)), none, none, none, none] [] h Q := Or.elim (mi_em .lt (zp) (((0 : Int)))) (fun c0 => Or.elim (mi_em .eq ((mi_f h 13699)) (((0 : Int)))) (fun c1 => ms_kgyA_0 hS ok_zp ok_zd ⟨c0, c1, (by decide)⟩ (fun h1 W => (k0 (me_fb hS rfl) c0 c1) h1 W.1 (W.2.2.2.2.2 _ rfl))) (fun c1 => ms_kgyA_1 hS ok_zp ok_zd ⟨c0, c1⟩ (fun h1 W => (k1 (me_fb hS rfl) c0 c1) h1 W.1 (W.2.2.2.2.2 _ rfl)))) (fun c0 => Or.elim (mi_em .ge (zp) (((60 : Int)))) (fun c1 => Or.elim (mi_em .eq ((mi_f h 13699)) (((0 : Int)))) (fun c2 => ms_kgyA_2 hS ok_zp ok_zd ⟨c0, c1, c2, (by decide)⟩ (fun h1 W => (k2 (me_fb hS rfl) c0 c1 c2) h1 W.1 (W.2.2.2.2.2 _ rfl))) (fun c2 => ms_kgyA_3 hS ok_zp ok_zd ⟨c0, c1, c2⟩ (fun h1 W => (k3 (me_fb hS rfl) c0 c1 c2) h1 W.1 (W.2.2.2.2.2 _ rfl)))) (fun c1 => Or.elim (mi_em .eq ((mi_f h 13699)) (((0 : Int)))) (fun c2 => Or.elim (mi_em .ne ((mi_a h 72 (Int.toNat zp))) (((0 : Int)))) (fun c3 => ms_kgyA_4 hS ok_zp ok_zd ⟨c0, c1, (k4 (me_fb hS rfl) c0 c1 c2 c3).1, c2, c3⟩ (fun h1 W => (k4 (me_fb hS rfl) c0 c1 c2 c3).2 h1 W.1 (W.2.2.2.2.2 _ rfl))) (fun c3 => ms_kgyA_5 hS ok_zp ok_zd ⟨c0, c1, (k5 (me_fb hS rfl) c0 c1 c2 c3).1, c2, c3⟩ (fun h1 W => (k5 (me_fb hS rfl) c0 c1 c2 c3).2 h1 W.1 (W.2.2.2.2.2 _ rfl)))) (fun c2 => ms_kgyA_6 hS ok_zp ok_zd ⟨c0, c1, (k6 (me_fb hS rfl) c0 c1 c2).1, c2⟩ (fun h1 W => (k6 (me_fb hS rfl) c0 c1 c2).2 h1 W.1 (W.2.2.2.2.2 _ rfl)))))
set_option maxRecDepth 20000 in
theorem mp_kgyB_0 (h : sm_H) (d : Nat) (zp zd zr : Int) : mj_path [(131, (7, 0, sb_131))] sx_sk h 0 [] (d + 5, 131, 30, [some (.inr (.inr 107)), some (.inl (zp)), some (.inl (zd)), some (.inl (zr)), none, none, none], [], [], []) = some ((d + 5, 131, 30, [some (.inr (.inr 107)), some (.inl (zp)), some (.inl (zd)), some (.inl (zr)), none, none, none], [], [], []), []) := rfl
theorem mi_tab_kgyB_0 : ∀ e ∈ ([(131, (7, 0, sb_131))] : mi_T), sc_P e.1 = some e.2 := mi_tb mi_P131 (mi_tb_e)
set_option maxRecDepth 20000 in
theorem ms_kgyB_0 {h : sm_H} {d : Nat} {Q : Option mi_V → sm_H → Prop} {zp zd zr : Int} (hS : ab_Sh sx_sk h) (ok_zp : mi_in zp) (ok_zd : mi_in zd) (ok_zr : mi_in zr) (kon : ∀ h1, me_W [] h h1 → Q none h1) : me_E (d + 5) 131 30 [some (.inr (.inr 107)), some (.inl (zp)), some (.inl (zd)), some (.inl (zr)), none, none, none] [] h Q := mf_seg (mp_kgyB_0 h d zp zd zr) (mi_tab_kgyB_0) hS (mi_okL_c (trivial) (mi_okL_c (ok_zp) (mi_okL_c (ok_zd) (mi_okL_c (ok_zr) (mi_okL_n (mi_okL_n (mi_okL_n (mi_okL_e)))))))) (mi_okS_e) (mi_al_e) (fun h1 W _ hst => mf_ret (M := (7, 0, sb_131)) rfl rfl rfl hst (mi_al_e) (kon h1 W))
set_option maxRecDepth 20000 in
theorem mt_kgyB {h : sm_H} {d : Nat} {Q : Option mi_V → sm_H → Prop} {zp zd zr : Int} (hS : ab_Sh sx_sk h) (ok_zp : mi_in zp) (ok_zd : mi_in zd) (ok_zr : mi_in zr) (k0 : (∀ h1, ab_Sh sx_sk h1 → ab_Fr [] h h1 → Q none h1)) : me_E (d + 5) 131 30 [some (.inr (.inr 107)), some (.inl (zp)), some (.inl (zd)), some (.inl (zr)), none, none, none] [] h Q := ms_kgyB_0 hS ok_zp ok_zd ok_zr (fun h1 W => (k0) h1 W.1 (W.2.2.2.2.2 _ rfl))
set_option maxRecDepth 20000 in
theorem mp_kgyC_0 (h : sm_H) (d : Nat) (zp zd zr zz zk : Int) : mj_path [(131, (7, 0, sb_131))] sx_sk h 0 [] (d + 5, 131, 38, [some (.inr (.inr 107)), some (.inl (zp)), some (.inl (zd)), some (.inl (zr)), none, none, none], [.inl (zz), .inl (zk), .inr (.inr 107)], [], []) = some ((d + 5, 131, 38, [some (.inr (.inr 107)), some (.inl (zp)), some (.inl (zd)), some (.inl (zr)), none, none, none], [.inl (zz), .inl (zk), .inr (.inr 107)], [], []), []) := rfl
theorem mi_tab_kgyC_0 : ∀ e ∈ ([(131, (7, 0, sb_131))] : mi_T), sc_P e.1 = some e.2 := mi_tb mi_P131 (mi_tb_e)
set_option maxRecDepth 20000 in
theorem ms_kgyC_0 {h : sm_H} {d : Nat} {Q : Option mi_V → sm_H → Prop} {zp zd zr zz zk : Int} (hS : ab_Sh sx_sk h) (ok_zp : mi_in zp) (ok_zd : mi_in zd) (ok_zr : mi_in zr) (ok_zz : mi_in zz) (ok_zk : mi_in zk) (kon : ∀ h1, me_W [] h h1 → ∃ Q1, me_E (d + 4) 116 0 (mi_entry 4 [.inr (.inr 107), .inl (zk), .inl (zz)]) [] h1 Q1 ∧ ∀ w h2, (∀ x, w = some x → mi_ok x) → Q1 w h2 → me_E (d + 5) 131 41 [some (.inr (.inr 107)), some (.inl (zp)), some (.inl (zd)), some (.inl (zr)), none, none, none] (mi_back w []) h2 Q) : me_E (d + 5) 131 38 [some (.inr (.inr 107)), some (.inl (zp)), some (.inl (zd)), some (.inl (zr)), none, none, none] [.inl (zz), .inl (zk), .inr (.inr 107)] h Q := mf_seg (mp_kgyC_0 h d zp zd zr zz zk) (mi_tab_kgyC_0) hS (mi_okL_c (trivial) (mi_okL_c (ok_zp) (mi_okL_c (ok_zd) (mi_okL_c (ok_zr) (mi_okL_n (mi_okL_n (mi_okL_n (mi_okL_e)))))))) (mi_okS_cons (ok_zz) (mi_okS_cons (ok_zk) (mi_okS_cons (trivial) (mi_okS_e)))) (mi_al_e) (fun h1 W _ hst => let ⟨_, k1, k2⟩ := kon h1 W; mf_call (M := (7, 0, sb_131)) (M' := (4, 1, sb_116)) rfl rfl rfl rfl (Nat.le_of_ble_eq_true rfl) (Nat.le_of_ble_eq_true rfl) W.1 k1 k2)
set_option maxRecDepth 20000 in
theorem mt_kgyC {h : sm_H} {d : Nat} {Q : Option mi_V → sm_H → Prop} {zp zd zr zz zk : Int} (hS : ab_Sh sx_sk h) (ok_zp : mi_in zp) (ok_zd : mi_in zd) (ok_zr : mi_in zr) (ok_zz : mi_in zz) (ok_zk : mi_in zk) (k0 : (∀ h1, ab_Sh sx_sk h1 → ab_Fr [] h h1 → ∃ Q1, me_E (d + 4) 116 0 (mi_entry 4 [.inr (.inr 107), .inl (zk), .inl (zz)]) [] h1 Q1 ∧ ∀ w h2, (∀ x, w = some x → mi_ok x) → Q1 w h2 → me_E (d + 5) 131 41 [some (.inr (.inr 107)), some (.inl (zp)), some (.inl (zd)), some (.inl (zr)), none, none, none] (mi_back w []) h2 Q)) : me_E (d + 5) 131 38 [some (.inr (.inr 107)), some (.inl (zp)), some (.inl (zd)), some (.inl (zr)), none, none, none] [.inl (zz), .inl (zk), .inr (.inr 107)] h Q := ms_kgyC_0 hS ok_zp ok_zd ok_zr ok_zz ok_zk (fun h1 W => (k0) h1 W.1 (W.2.2.2.2.2 _ rfl))
set_option maxRecDepth 20000 in
theorem mp_kgyD_0 (h : sm_H) (d : Nat) (zp zd zr zz : Int) : mj_path [(131, (7, 0, sb_131))] sx_sk h 8 [1] (d + 5, 131, 41, [some (.inr (.inr 107)), some (.inl (zp)), some (.inl (zd)), some (.inl (zr)), none, none, none], [.inl (zz)], [], []) = some ((d + 5, 131, 60, [some (.inr (.inr 107)), some (.inl (zp)), some (.inl (zd)), some (.inl (zr)), some (.inl (zz)), some (.inl ((1 : Int))), some (.inl ((0 : Int)))], [], [], []), [zr ≠ ((5 : Int))]) := rfl
theorem mi_tab_kgyD_0 : ∀ e ∈ ([(131, (7, 0, sb_131))] : mi_T), sc_P e.1 = some e.2 := mi_tb mi_P131 (mi_tb_e)
set_option maxRecDepth 20000 in
theorem ms_kgyD_0 {h : sm_H} {d : Nat} {Q : Option mi_V → sm_H → Prop} {zp zd zr zz : Int} (hS : ab_Sh sx_sk h) (ok_zp : mi_in zp) (ok_zd : mi_in zd) (ok_zr : mi_in zr) (ok_zz : mi_in zz) (ho : (zr ≠ ((5 : Int)))) (kon : ∀ h1, me_W [] h h1 → me_E (d + 5) 131 60 [some (.inr (.inr 107)), some (.inl (zp)), some (.inl (zd)), some (.inl (zr)), some (.inl (zz)), some (.inl ((1 : Int))), some (.inl ((0 : Int)))] [] h1 Q) : me_E (d + 5) 131 41 [some (.inr (.inr 107)), some (.inl (zp)), some (.inl (zd)), some (.inl (zr)), none, none, none] [.inl (zz)] h Q := mf_seg (mp_kgyD_0 h d zp zd zr zz) (mi_tab_kgyD_0) hS (mi_okL_c (trivial) (mi_okL_c (ok_zp) (mi_okL_c (ok_zd) (mi_okL_c (ok_zr) (mi_okL_n (mi_okL_n (mi_okL_n (mi_okL_e)))))))) (mi_okS_cons (ok_zz) (mi_okS_e)) (mi_al (ho) (mi_al_e)) (fun h1 W _ hst => kon h1 W)
set_option maxRecDepth 20000 in
theorem mp_kgyD_1 (h : sm_H) (d : Nat) (zp zd zr zz : Int) : mj_path [(131, (7, 0, sb_131))] sx_sk h 9 [0] (d + 5, 131, 41, [some (.inr (.inr 107)), some (.inl (zp)), some (.inl (zd)), some (.inl (zr)), none, none, none], [.inl (zz)], [], []) = some ((d + 5, 131, 60, [some (.inr (.inr 107)), some (.inl (zp)), some (.inl (zd)), some (.inl (zr)), some (.inl (zz)), some (.inl ((161 : Int))), some (.inl ((0 : Int)))], [], [], []), [zr = ((5 : Int))]) := rfl
theorem mi_tab_kgyD_1 : ∀ e ∈ ([(131, (7, 0, sb_131))] : mi_T), sc_P e.1 = some e.2 := mi_tb mi_P131 (mi_tb_e)
set_option maxRecDepth 20000 in
theorem ms_kgyD_1 {h : sm_H} {d : Nat} {Q : Option mi_V → sm_H → Prop} {zp zd zr zz : Int} (hS : ab_Sh sx_sk h) (ok_zp : mi_in zp) (ok_zd : mi_in zd) (ok_zr : mi_in zr) (ok_zz : mi_in zz) (ho : (zr = ((5 : Int)))) (kon : ∀ h1, me_W [] h h1 → me_E (d + 5) 131 60 [some (.inr (.inr 107)), some (.inl (zp)), some (.inl (zd)), some (.inl (zr)), some (.inl (zz)), some (.inl ((161 : Int))), some (.inl ((0 : Int)))] [] h1 Q) : me_E (d + 5) 131 41 [some (.inr (.inr 107)), some (.inl (zp)), some (.inl (zd)), some (.inl (zr)), none, none, none] [.inl (zz)] h Q := mf_seg (mp_kgyD_1 h d zp zd zr zz) (mi_tab_kgyD_1) hS (mi_okL_c (trivial) (mi_okL_c (ok_zp) (mi_okL_c (ok_zd) (mi_okL_c (ok_zr) (mi_okL_n (mi_okL_n (mi_okL_n (mi_okL_e)))))))) (mi_okS_cons (ok_zz) (mi_okS_e)) (mi_al (ho) (mi_al_e)) (fun h1 W _ hst => kon h1 W)
set_option maxRecDepth 20000 in
theorem mt_kgyD {h : sm_H} {d : Nat} {Q : Option mi_V → sm_H → Prop} {zp zd zr zz : Int} (hS : ab_Sh sx_sk h) (ok_zp : mi_in zp) (ok_zd : mi_in zd) (ok_zr : mi_in zr) (ok_zz : mi_in zz) (k0 : (zr ≠ ((5 : Int))) → (∀ h1, ab_Sh sx_sk h1 → ab_Fr [] h h1 → me_E (d + 5) 131 60 [some (.inr (.inr 107)), some (.inl (zp)), some (.inl (zd)), some (.inl (zr)), some (.inl (zz)), some (.inl ((1 : Int))), some (.inl ((0 : Int)))] [] h1 Q)) (k1 : (zr = ((5 : Int))) → (∀ h1, ab_Sh sx_sk h1 → ab_Fr [] h h1 → me_E (d + 5) 131 60 [some (.inr (.inr 107)), some (.inl (zp)), some (.inl (zd)), some (.inl (zr)), some (.inl (zz)), some (.inl ((161 : Int))), some (.inl ((0 : Int)))] [] h1 Q)) : me_E (d + 5) 131 41 [some (.inr (.inr 107)), some (.inl (zp)), some (.inl (zd)), some (.inl (zr)), none, none, none] [.inl (zz)] h Q := Or.elim (mi_em .ne (zr) (((5 : Int)))) (fun c0 => ms_kgyD_0 hS ok_zp ok_zd ok_zr ok_zz (c0) (fun h1 W => (k0 c0) h1 W.1 (W.2.2.2.2.2 _ rfl))) (fun c0 => ms_kgyD_1 hS ok_zp ok_zd ok_zr ok_zz (c0) (fun h1 W => (k1 c0) h1 W.1 (W.2.2.2.2.2 _ rfl)))
set_option maxRecDepth 20000 in
theorem mp_kgyE_0 (h : sm_H) (d : Nat) (zp zd zr zo zm zt : Int) : mj_path [(131, (7, 0, sb_131)), (16, (3, 0, sb_16)), (49, (2, 1, sb_49)), (145, (4, 4, sb_145))] sx_sk h 3 [1] (d + 5, 131, 60, [some (.inr (.inr 107)), some (.inl (zp)), some (.inl (zd)), some (.inl (zr)), some (.inl (zo)), some (.inl (zm)), some (.inl (zt))], [], [], []) = some ((d + 5, 131, 98, [some (.inr (.inr 107)), some (.inl (zp)), some (.inl (zd)), some (.inl (zr)), some (.inl (zo)), some (.inl (zm)), some (.inl (zt))], [], [], []), [(mi_f h 13699) ≠ ((0 : Int))]) := rfl
theorem mi_tab_kgyE_0 : ∀ e ∈ ([(131, (7, 0, sb_131)), (16, (3, 0, sb_16)), (49, (2, 1, sb_49)), (145, (4, 4, sb_145))] : mi_T), sc_P e.1 = some e.2 := mi_tb mi_P131 (mi_tb mi_P16 (mi_tb mi_P49 (mi_tb mi_P145 (mi_tb_e))))
set_option maxRecDepth 20000 in
theorem ms_kgyE_0 {h : sm_H} {d : Nat} {Q : Option mi_V → sm_H → Prop} {zp zd zr zo zm zt : Int} (hS : ab_Sh sx_sk h) (ok_zp : mi_in zp) (ok_zd : mi_in zd) (ok_zr : mi_in zr) (ok_zo : mi_in zo) (ok_zm : mi_in zm) (ok_zt : mi_in zt) (ho : ((mi_f h 13699) ≠ ((0 : Int)))) (kon : ∀ h1, me_W [] h h1 → me_E (d + 5) 131 98 [some (.inr (.inr 107)), some (.inl (zp)), some (.inl (zd)), some (.inl (zr)), some (.inl (zo)), some (.inl (zm)), some (.inl (zt))] [] h1 Q) : me_E (d + 5) 131 60 [some (.inr (.inr 107)), some (.inl (zp)), some (.inl (zd)), some (.inl (zr)), some (.inl (zo)), some (.inl (zm)), some (.inl (zt))] [] h Q := mf_seg (mp_kgyE_0 h d zp zd zr zo zm zt) (mi_tab_kgyE_0) hS (mi_okL_c (trivial) (mi_okL_c (ok_zp) (mi_okL_c (ok_zd) (mi_okL_c (ok_zr) (mi_okL_c (ok_zo) (mi_okL_c (ok_zm) (mi_okL_c (ok_zt) (mi_okL_e)))))))) (mi_okS_e) (mi_al (ho) (mi_al_e)) (fun h1 W _ hst => kon h1 W)
set_option maxRecDepth 20000 in
theorem mp_kgyE_1 (h : sm_H) (d : Nat) (zp zd zr zo zm zt : Int) : mj_path [(131, (7, 0, sb_131)), (16, (3, 0, sb_16)), (49, (2, 1, sb_49)), (145, (4, 4, sb_145))] sx_sk h 6 [0, 1] (d + 5, 131, 60, [some (.inr (.inr 107)), some (.inl (zp)), some (.inl (zd)), some (.inl (zr)), some (.inl (zo)), some (.inl (zm)), some (.inl (zt))], [], [], []) = some ((d + 5, 131, 98, [some (.inr (.inr 107)), some (.inl (zp)), some (.inl (zd)), some (.inl (zr)), some (.inl (zo)), some (.inl (zm)), some (.inl (zt))], [], [], []), [(mi_f h 13699) = ((0 : Int)), zm ≤ zt]) := rfl
theorem mi_tab_kgyE_1 : ∀ e ∈ ([(131, (7, 0, sb_131)), (16, (3, 0, sb_16)), (49, (2, 1, sb_49)), (145, (4, 4, sb_145))] : mi_T), sc_P e.1 = some e.2 := mi_tb mi_P131 (mi_tb mi_P16 (mi_tb mi_P49 (mi_tb mi_P145 (mi_tb_e))))
set_option maxRecDepth 20000 in
theorem ms_kgyE_1 {h : sm_H} {d : Nat} {Q : Option mi_V → sm_H → Prop} {zp zd zr zo zm zt : Int} (hS : ab_Sh sx_sk h) (ok_zp : mi_in zp) (ok_zd : mi_in zd) (ok_zr : mi_in zr) (ok_zo : mi_in zo) (ok_zm : mi_in zm) (ok_zt : mi_in zt) (ho : ((mi_f h 13699) = ((0 : Int))) ∧ (zm ≤ zt)) (kon : ∀ h1, me_W [] h h1 → me_E (d + 5) 131 98 [some (.inr (.inr 107)), some (.inl (zp)), some (.inl (zd)), some (.inl (zr)), some (.inl (zo)), some (.inl (zm)), some (.inl (zt))] [] h1 Q) : me_E (d + 5) 131 60 [some (.inr (.inr 107)), some (.inl (zp)), some (.inl (zd)), some (.inl (zr)), some (.inl (zo)), some (.inl (zm)), some (.inl (zt))] [] h Q := mf_seg (mp_kgyE_1 h d zp zd zr zo zm zt) (mi_tab_kgyE_1) hS (mi_okL_c (trivial) (mi_okL_c (ok_zp) (mi_okL_c (ok_zd) (mi_okL_c (ok_zr) (mi_okL_c (ok_zo) (mi_okL_c (ok_zm) (mi_okL_c (ok_zt) (mi_okL_e)))))))) (mi_okS_e) (mi_al (ho.1) (mi_al (ho.2) (mi_al_e))) (fun h1 W _ hst => kon h1 W)
set_option maxRecDepth 20000 in
theorem mp_kgyE_2 (h : sm_H) (d : Nat) (zp zd zr zo zm zt : Int) : mj_path [(131, (7, 0, sb_131)), (16, (3, 0, sb_16)), (49, (2, 1, sb_49)), (145, (4, 4, sb_145))] sx_sk h 25 [0, 0, 1, 1, 1] (d + 5, 131, 60, [some (.inr (.inr 107)), some (.inl (zp)), some (.inl (zd)), some (.inl (zr)), some (.inl (zo)), some (.inl (zm)), some (.inl (zt))], [], [], []) = some ((d + 5, 131, 98, [some (.inr (.inr 107)), some (.inl (zp)), some (.inl (zd)), some (.inl (zr)), some (.inl (zo)), some (.inl (zm)), some (.inl (zt))], [], [], []), [(mi_f h 13699) = ((0 : Int)), zt < zm, zo < ((0 : Int)), ((0 : Int)) ≤ zt, ((0 : Int)) = 0 ∨ ((0 : Int)) = 1, ((0 : Int)) = ((0 : Int))]) := rfl
theorem mi_tab_kgyE_2 : ∀ e ∈ ([(131, (7, 0, sb_131)), (16, (3, 0, sb_16)), (49, (2, 1, sb_49)), (145, (4, 4, sb_145))] : mi_T), sc_P e.1 = some e.2 := mi_tb mi_P131 (mi_tb mi_P16 (mi_tb mi_P49 (mi_tb mi_P145 (mi_tb_e))))
set_option maxRecDepth 20000 in
theorem ms_kgyE_2 {h : sm_H} {d : Nat} {Q : Option mi_V → sm_H → Prop} {zp zd zr zo zm zt : Int} (hS : ab_Sh sx_sk h) (ok_zp : mi_in zp) (ok_zd : mi_in zd) (ok_zr : mi_in zr) (ok_zo : mi_in zo) (ok_zm : mi_in zm) (ok_zt : mi_in zt) (ho : ((mi_f h 13699) = ((0 : Int))) ∧ (zt < zm) ∧ (zo < ((0 : Int))) ∧ (((0 : Int)) ≤ zt) ∧ (((0 : Int)) = 0 ∨ ((0 : Int)) = 1) ∧ (((0 : Int)) = ((0 : Int)))) (kon : ∀ h1, me_W [] h h1 → me_E (d + 5) 131 98 [some (.inr (.inr 107)), some (.inl (zp)), some (.inl (zd)), some (.inl (zr)), some (.inl (zo)), some (.inl (zm)), some (.inl (zt))] [] h1 Q) : me_E (d + 5) 131 60 [some (.inr (.inr 107)), some (.inl (zp)), some (.inl (zd)), some (.inl (zr)), some (.inl (zo)), some (.inl (zm)), some (.inl (zt))] [] h Q := mf_seg (mp_kgyE_2 h d zp zd zr zo zm zt) (mi_tab_kgyE_2) hS (mi_okL_c (trivial) (mi_okL_c (ok_zp) (mi_okL_c (ok_zd) (mi_okL_c (ok_zr) (mi_okL_c (ok_zo) (mi_okL_c (ok_zm) (mi_okL_c (ok_zt) (mi_okL_e)))))))) (mi_okS_e) (mi_al (ho.1) (mi_al (ho.2.1) (mi_al (ho.2.2.1) (mi_al (ho.2.2.2.1) (mi_al (ho.2.2.2.2.1) (mi_al (ho.2.2.2.2.2) (mi_al_e))))))) (fun h1 W _ hst => kon h1 W)
set_option maxRecDepth 20000 in
theorem mp_kgyE_3 (h : sm_H) (d : Nat) (zp zd zr zo zm zt : Int) : mj_path [(131, (7, 0, sb_131)), (16, (3, 0, sb_16)), (49, (2, 1, sb_49)), (145, (4, 4, sb_145))] sx_sk h 29 [0, 0, 1, 0, 0] (d + 5, 131, 60, [some (.inr (.inr 107)), some (.inl (zp)), some (.inl (zd)), some (.inl (zr)), some (.inl (zo)), some (.inl (zm)), some (.inl (zt))], [], [], []) = some ((d + 5, 131, 89, [some (.inr (.inr 107)), some (.inl (zp)), some (.inl (zd)), some (.inl (zr)), some (.inl (zo)), some (.inl (zm)), some (.inl (zt))], [.inl (zd), .inl (zp), .inr (.inr 107)], [], []), [(mi_f h 13699) = ((0 : Int)), zt < zm, zo < ((0 : Int)), zt < ((0 : Int)), ((1 : Int)) = 0 ∨ ((1 : Int)) = 1, ((1 : Int)) ≠ ((0 : Int))]) := rfl
theorem mi_tab_kgyE_3 : ∀ e ∈ ([(131, (7, 0, sb_131)), (16, (3, 0, sb_16)), (49, (2, 1, sb_49)), (145, (4, 4, sb_145))] : mi_T), sc_P e.1 = some e.2 := mi_tb mi_P131 (mi_tb mi_P16 (mi_tb mi_P49 (mi_tb mi_P145 (mi_tb_e))))
set_option maxRecDepth 20000 in
theorem ms_kgyE_3 {h : sm_H} {d : Nat} {Q : Option mi_V → sm_H → Prop} {zp zd zr zo zm zt : Int} (hS : ab_Sh sx_sk h) (ok_zp : mi_in zp) (ok_zd : mi_in zd) (ok_zr : mi_in zr) (ok_zo : mi_in zo) (ok_zm : mi_in zm) (ok_zt : mi_in zt) (ho : ((mi_f h 13699) = ((0 : Int))) ∧ (zt < zm) ∧ (zo < ((0 : Int))) ∧ (zt < ((0 : Int))) ∧ (((1 : Int)) = 0 ∨ ((1 : Int)) = 1) ∧ (((1 : Int)) ≠ ((0 : Int)))) (kon : ∀ h1, me_W [] h h1 → ∃ Q1, me_E (d + 4) 132 0 (mi_entry 4 [.inr (.inr 107), .inl (zp), .inl (zd)]) [] h1 Q1 ∧ ∀ w h2, (∀ x, w = some x → mi_ok x) → Q1 w h2 → me_E (d + 5) 131 92 [some (.inr (.inr 107)), some (.inl (zp)), some (.inl (zd)), some (.inl (zr)), some (.inl (zo)), some (.inl (zm)), some (.inl (zt))] (mi_back w []) h2 Q) : me_E (d + 5) 131 60 [some (.inr (.inr 107)), some (.inl (zp)), some (.inl (zd)), some (.inl (zr)), some (.inl (zo)), some (.inl (zm)), some (.inl (zt))] [] h Q := mf_seg (mp_kgyE_3 h d zp zd zr zo zm zt) (mi_tab_kgyE_3) hS (mi_okL_c (trivial) (mi_okL_c (ok_zp) (mi_okL_c (ok_zd) (mi_okL_c (ok_zr) (mi_okL_c (ok_zo) (mi_okL_c (ok_zm) (mi_okL_c (ok_zt) (mi_okL_e)))))))) (mi_okS_e) (mi_al (ho.1) (mi_al (ho.2.1) (mi_al (ho.2.2.1) (mi_al (ho.2.2.2.1) (mi_al (ho.2.2.2.2.1) (mi_al (ho.2.2.2.2.2) (mi_al_e))))))) (fun h1 W _ hst => let ⟨_, k1, k2⟩ := kon h1 W; mf_call (M := (7, 0, sb_131)) (M' := (4, 0, sb_132)) rfl rfl rfl rfl (Nat.le_of_ble_eq_true rfl) (Nat.le_of_ble_eq_true rfl) W.1 k1 k2)
set_option maxRecDepth 20000 in
theorem mp_kgyE_4 (h : sm_H) (d : Nat) (zp zd zr zo zm zt : Int) : mj_path [(131, (7, 0, sb_131)), (16, (3, 0, sb_16)), (49, (2, 1, sb_49)), (145, (4, 4, sb_145))] sx_sk h 29 [0, 0, 0, 1, 1, 1] (d + 5, 131, 60, [some (.inr (.inr 107)), some (.inl (zp)), some (.inl (zd)), some (.inl (zr)), some (.inl (zo)), some (.inl (zm)), some (.inl (zt))], [], [], []) = some ((d + 5, 131, 98, [some (.inr (.inr 107)), some (.inl (zp)), some (.inl (zd)), some (.inl (zr)), some (.inl (zo)), some (.inl (zm)), some (.inl (zt))], [], [], []), [(mi_f h 13699) = ((0 : Int)), zt < zm, ((0 : Int)) ≤ zo, ((100 : Int)) ≤ zo, ((0 : Int)) ≤ zt, ((0 : Int)) = 0 ∨ ((0 : Int)) = 1, ((0 : Int)) = ((0 : Int))]) := rfl
theorem mi_tab_kgyE_4 : ∀ e ∈ ([(131, (7, 0, sb_131)), (16, (3, 0, sb_16)), (49, (2, 1, sb_49)), (145, (4, 4, sb_145))] : mi_T), sc_P e.1 = some e.2 := mi_tb mi_P131 (mi_tb mi_P16 (mi_tb mi_P49 (mi_tb mi_P145 (mi_tb_e))))
set_option maxRecDepth 20000 in
theorem ms_kgyE_4 {h : sm_H} {d : Nat} {Q : Option mi_V → sm_H → Prop} {zp zd zr zo zm zt : Int} (hS : ab_Sh sx_sk h) (ok_zp : mi_in zp) (ok_zd : mi_in zd) (ok_zr : mi_in zr) (ok_zo : mi_in zo) (ok_zm : mi_in zm) (ok_zt : mi_in zt) (ho : ((mi_f h 13699) = ((0 : Int))) ∧ (zt < zm) ∧ (((0 : Int)) ≤ zo) ∧ (((100 : Int)) ≤ zo) ∧ (((0 : Int)) ≤ zt) ∧ (((0 : Int)) = 0 ∨ ((0 : Int)) = 1) ∧ (((0 : Int)) = ((0 : Int)))) (kon : ∀ h1, me_W [] h h1 → me_E (d + 5) 131 98 [some (.inr (.inr 107)), some (.inl (zp)), some (.inl (zd)), some (.inl (zr)), some (.inl (zo)), some (.inl (zm)), some (.inl (zt))] [] h1 Q) : me_E (d + 5) 131 60 [some (.inr (.inr 107)), some (.inl (zp)), some (.inl (zd)), some (.inl (zr)), some (.inl (zo)), some (.inl (zm)), some (.inl (zt))] [] h Q := mf_seg (mp_kgyE_4 h d zp zd zr zo zm zt) (mi_tab_kgyE_4) hS (mi_okL_c (trivial) (mi_okL_c (ok_zp) (mi_okL_c (ok_zd) (mi_okL_c (ok_zr) (mi_okL_c (ok_zo) (mi_okL_c (ok_zm) (mi_okL_c (ok_zt) (mi_okL_e)))))))) (mi_okS_e) (mi_al (ho.1) (mi_al (ho.2.1) (mi_al (ho.2.2.1) (mi_al (ho.2.2.2.1) (mi_al (ho.2.2.2.2.1) (mi_al (ho.2.2.2.2.2.1) (mi_al (ho.2.2.2.2.2.2) (mi_al_e)))))))) (fun h1 W _ hst => kon h1 W)
set_option maxRecDepth 20000 in
theorem mp_kgyE_5 (h : sm_H) (d : Nat) (zp zd zr zo zm zt : Int) : mj_path [(131, (7, 0, sb_131)), (16, (3, 0, sb_16)), (49, (2, 1, sb_49)), (145, (4, 4, sb_145))] sx_sk h 33 [0, 0, 0, 1, 0, 0] (d + 5, 131, 60, [some (.inr (.inr 107)), some (.inl (zp)), some (.inl (zd)), some (.inl (zr)), some (.inl (zo)), some (.inl (zm)), some (.inl (zt))], [], [], []) = some ((d + 5, 131, 89, [some (.inr (.inr 107)), some (.inl (zp)), some (.inl (zd)), some (.inl (zr)), some (.inl (zo)), some (.inl (zm)), some (.inl (zt))], [.inl (zd), .inl (zp), .inr (.inr 107)], [], []), [(mi_f h 13699) = ((0 : Int)), zt < zm, ((0 : Int)) ≤ zo, ((100 : Int)) ≤ zo, zt < ((0 : Int)), ((1 : Int)) = 0 ∨ ((1 : Int)) = 1, ((1 : Int)) ≠ ((0 : Int))]) := rfl
theorem mi_tab_kgyE_5 : ∀ e ∈ ([(131, (7, 0, sb_131)), (16, (3, 0, sb_16)), (49, (2, 1, sb_49)), (145, (4, 4, sb_145))] : mi_T), sc_P e.1 = some e.2 := mi_tb mi_P131 (mi_tb mi_P16 (mi_tb mi_P49 (mi_tb mi_P145 (mi_tb_e))))
set_option maxRecDepth 20000 in
theorem ms_kgyE_5 {h : sm_H} {d : Nat} {Q : Option mi_V → sm_H → Prop} {zp zd zr zo zm zt : Int} (hS : ab_Sh sx_sk h) (ok_zp : mi_in zp) (ok_zd : mi_in zd) (ok_zr : mi_in zr) (ok_zo : mi_in zo) (ok_zm : mi_in zm) (ok_zt : mi_in zt) (ho : ((mi_f h 13699) = ((0 : Int))) ∧ (zt < zm) ∧ (((0 : Int)) ≤ zo) ∧ (((100 : Int)) ≤ zo) ∧ (zt < ((0 : Int))) ∧ (((1 : Int)) = 0 ∨ ((1 : Int)) = 1) ∧ (((1 : Int)) ≠ ((0 : Int)))) (kon : ∀ h1, me_W [] h h1 → ∃ Q1, me_E (d + 4) 132 0 (mi_entry 4 [.inr (.inr 107), .inl (zp), .inl (zd)]) [] h1 Q1 ∧ ∀ w h2, (∀ x, w = some x → mi_ok x) → Q1 w h2 → me_E (d + 5) 131 92 [some (.inr (.inr 107)), some (.inl (zp)), some (.inl (zd)), some (.inl (zr)), some (.inl (zo)), some (.inl (zm)), some (.inl (zt))] (mi_back w []) h2 Q) : me_E (d + 5) 131 60 [some (.inr (.inr 107)), some (.inl (zp)), some (.inl (zd)), some (.inl (zr)), some (.inl (zo)), some (.inl (zm)), some (.inl (zt))] [] h Q := mf_seg (mp_kgyE_5 h d zp zd zr zo zm zt) (mi_tab_kgyE_5) hS (mi_okL_c (trivial) (mi_okL_c (ok_zp) (mi_okL_c (ok_zd) (mi_okL_c (ok_zr) (mi_okL_c (ok_zo) (mi_okL_c (ok_zm) (mi_okL_c (ok_zt) (mi_okL_e)))))))) (mi_okS_e) (mi_al (ho.1) (mi_al (ho.2.1) (mi_al (ho.2.2.1) (mi_al (ho.2.2.2.1) (mi_al (ho.2.2.2.2.1) (mi_al (ho.2.2.2.2.2.1) (mi_al (ho.2.2.2.2.2.2) (mi_al_e)))))))) (fun h1 W _ hst => let ⟨_, k1, k2⟩ := kon h1 W; mf_call (M := (7, 0, sb_131)) (M' := (4, 0, sb_132)) rfl rfl rfl rfl (Nat.le_of_ble_eq_true rfl) (Nat.le_of_ble_eq_true rfl) W.1 k1 k2)
set_option maxRecDepth 20000 in
theorem mp_kgyE_6 (h : sm_H) (d : Nat) (zp zd zr zo zm zt : Int) : mj_path [(131, (7, 0, sb_131)), (16, (3, 0, sb_16)), (49, (2, 1, sb_49)), (145, (4, 4, sb_145))] sx_sk h 32 [0, 0, 0, 0, 1, 1] (d + 5, 131, 60, [some (.inr (.inr 107)), some (.inl (zp)), some (.inl (zd)), some (.inl (zr)), some (.inl (zo)), some (.inl (zm)), some (.inl (zt))], [], [], []) = some ((d + 5, 131, 98, [some (.inr (.inr 107)), some (.inl (zp)), some (.inl (zd)), some (.inl (zr)), some (.inl (zo)), some (.inl (zm)), some (.inl (zt))], [], [], []), [(mi_f h 13699) = ((0 : Int)), zt < zm, ((0 : Int)) ≤ zo, zo < ((100 : Int)), 0 ≤ zo ∧ zo < 100, (mi_a h 104 (Int.toNat zo)) ≤ zt, ((0 : Int)) = 0 ∨ ((0 : Int)) = 1, ((0 : Int)) = ((0 : Int))]) := rfl
theorem mi_tab_kgyE_6 : ∀ e ∈ ([(131, (7, 0, sb_131)), (16, (3, 0, sb_16)), (49, (2, 1, sb_49)), (145, (4, 4, sb_145))] : mi_T), sc_P e.1 = some e.2 := mi_tb mi_P131 (mi_tb mi_P16 (mi_tb mi_P49 (mi_tb mi_P145 (mi_tb_e))))
set_option maxRecDepth 20000 in
theorem ms_kgyE_6 {h : sm_H} {d : Nat} {Q : Option mi_V → sm_H → Prop} {zp zd zr zo zm zt : Int} (hS : ab_Sh sx_sk h) (ok_zp : mi_in zp) (ok_zd : mi_in zd) (ok_zr : mi_in zr) (ok_zo : mi_in zo) (ok_zm : mi_in zm) (ok_zt : mi_in zt) (ho : ((mi_f h 13699) = ((0 : Int))) ∧ (zt < zm) ∧ (((0 : Int)) ≤ zo) ∧ (zo < ((100 : Int))) ∧ (0 ≤ zo ∧ zo < 100) ∧ ((mi_a h 104 (Int.toNat zo)) ≤ zt) ∧ (((0 : Int)) = 0 ∨ ((0 : Int)) = 1) ∧ (((0 : Int)) = ((0 : Int)))) (kon : ∀ h1, me_W [] h h1 → me_E (d + 5) 131 98 [some (.inr (.inr 107)), some (.inl (zp)), some (.inl (zd)), some (.inl (zr)), some (.inl (zo)), some (.inl (zm)), some (.inl (zt))] [] h1 Q) : me_E (d + 5) 131 60 [some (.inr (.inr 107)), some (.inl (zp)), some (.inl (zd)), some (.inl (zr)), some (.inl (zo)), some (.inl (zm)), some (.inl (zt))] [] h Q := mf_seg (mp_kgyE_6 h d zp zd zr zo zm zt) (mi_tab_kgyE_6) hS (mi_okL_c (trivial) (mi_okL_c (ok_zp) (mi_okL_c (ok_zd) (mi_okL_c (ok_zr) (mi_okL_c (ok_zo) (mi_okL_c (ok_zm) (mi_okL_c (ok_zt) (mi_okL_e)))))))) (mi_okS_e) (mi_al (ho.1) (mi_al (ho.2.1) (mi_al (ho.2.2.1) (mi_al (ho.2.2.2.1) (mi_al (ho.2.2.2.2.1) (mi_al (ho.2.2.2.2.2.1) (mi_al (ho.2.2.2.2.2.2.1) (mi_al (ho.2.2.2.2.2.2.2) (mi_al_e))))))))) (fun h1 W _ hst => kon h1 W)
set_option maxRecDepth 20000 in
theorem mp_kgyE_7 (h : sm_H) (d : Nat) (zp zd zr zo zm zt : Int) : mj_path [(131, (7, 0, sb_131)), (16, (3, 0, sb_16)), (49, (2, 1, sb_49)), (145, (4, 4, sb_145))] sx_sk h 36 [0, 0, 0, 0, 0, 0] (d + 5, 131, 60, [some (.inr (.inr 107)), some (.inl (zp)), some (.inl (zd)), some (.inl (zr)), some (.inl (zo)), some (.inl (zm)), some (.inl (zt))], [], [], []) = some ((d + 5, 131, 89, [some (.inr (.inr 107)), some (.inl (zp)), some (.inl (zd)), some (.inl (zr)), some (.inl (zo)), some (.inl (zm)), some (.inl (zt))], [.inl (zd), .inl (zp), .inr (.inr 107)], [], []), [(mi_f h 13699) = ((0 : Int)), zt < zm, ((0 : Int)) ≤ zo, zo < ((100 : Int)), 0 ≤ zo ∧ zo < 100, zt < (mi_a h 104 (Int.toNat zo)), ((1 : Int)) = 0 ∨ ((1 : Int)) = 1, ((1 : Int)) ≠ ((0 : Int))]) := rfl
theorem mi_tab_kgyE_7 : ∀ e ∈ ([(131, (7, 0, sb_131)), (16, (3, 0, sb_16)), (49, (2, 1, sb_49)), (145, (4, 4, sb_145))] : mi_T), sc_P e.1 = some e.2 := mi_tb mi_P131 (mi_tb mi_P16 (mi_tb mi_P49 (mi_tb mi_P145 (mi_tb_e))))
set_option maxRecDepth 20000 in
theorem ms_kgyE_7 {h : sm_H} {d : Nat} {Q : Option mi_V → sm_H → Prop} {zp zd zr zo zm zt : Int} (hS : ab_Sh sx_sk h) (ok_zp : mi_in zp) (ok_zd : mi_in zd) (ok_zr : mi_in zr) (ok_zo : mi_in zo) (ok_zm : mi_in zm) (ok_zt : mi_in zt) (ho : ((mi_f h 13699) = ((0 : Int))) ∧ (zt < zm) ∧ (((0 : Int)) ≤ zo) ∧ (zo < ((100 : Int))) ∧ (0 ≤ zo ∧ zo < 100) ∧ (zt < (mi_a h 104 (Int.toNat zo))) ∧ (((1 : Int)) = 0 ∨ ((1 : Int)) = 1) ∧ (((1 : Int)) ≠ ((0 : Int)))) (kon : ∀ h1, me_W [] h h1 → ∃ Q1, me_E (d + 4) 132 0 (mi_entry 4 [.inr (.inr 107), .inl (zp), .inl (zd)]) [] h1 Q1 ∧ ∀ w h2, (∀ x, w = some x → mi_ok x) → Q1 w h2 → me_E (d + 5) 131 92 [some (.inr (.inr 107)), some (.inl (zp)), some (.inl (zd)), some (.inl (zr)), some (.inl (zo)), some (.inl (zm)), some (.inl (zt))] (mi_back w []) h2 Q) : me_E (d + 5) 131 60 [some (.inr (.inr 107)), some (.inl (zp)), some (.inl (zd)), some (.inl (zr)), some (.inl (zo)), some (.inl (zm)), some (.inl (zt))] [] h Q := mf_seg (mp_kgyE_7 h d zp zd zr zo zm zt) (mi_tab_kgyE_7) hS (mi_okL_c (trivial) (mi_okL_c (ok_zp) (mi_okL_c (ok_zd) (mi_okL_c (ok_zr) (mi_okL_c (ok_zo) (mi_okL_c (ok_zm) (mi_okL_c (ok_zt) (mi_okL_e)))))))) (mi_okS_e) (mi_al (ho.1) (mi_al (ho.2.1) (mi_al (ho.2.2.1) (mi_al (ho.2.2.2.1) (mi_al (ho.2.2.2.2.1) (mi_al (ho.2.2.2.2.2.1) (mi_al (ho.2.2.2.2.2.2.1) (mi_al (ho.2.2.2.2.2.2.2) (mi_al_e))))))))) (fun h1 W _ hst => let ⟨_, k1, k2⟩ := kon h1 W; mf_call (M := (7, 0, sb_131)) (M' := (4, 0, sb_132)) rfl rfl rfl rfl (Nat.le_of_ble_eq_true rfl) (Nat.le_of_ble_eq_true rfl) W.1 k1 k2)
set_option maxRecDepth 20000 in
theorem mt_kgyE {h : sm_H} {d : Nat} {Q : Option mi_V → sm_H → Prop} {zp zd zr zo zm zt : Int} (hS : ab_Sh sx_sk h) (ok_zp : mi_in zp) (ok_zd : mi_in zd) (ok_zr : mi_in zr) (ok_zo : mi_in zo) (ok_zm : mi_in zm) (ok_zt : mi_in zt) (k0 : (0 ≤ mi_f h 13699 ∧ mi_f h 13699 ≤ 1) → ((mi_f h 13699) ≠ ((0 : Int))) → (∀ h1, ab_Sh sx_sk h1 → ab_Fr [] h h1 → me_E (d + 5) 131 98 [some (.inr (.inr 107)), some (.inl (zp)), some (.inl (zd)), some (.inl (zr)), some (.inl (zo)), some (.inl (zm)), some (.inl (zt))] [] h1 Q)) (k1 : (0 ≤ mi_f h 13699 ∧ mi_f h 13699 ≤ 1) → ((mi_f h 13699) = ((0 : Int))) → (zm ≤ zt) → (∀ h1, ab_Sh sx_sk h1 → ab_Fr [] h h1 → me_E (d + 5) 131 98 [some (.inr (.inr 107)), some (.inl (zp)), some (.inl (zd)), some (.inl (zr)), some (.inl (zo)), some (.inl (zm)), some (.inl (zt))] [] h1 Q)) (k2 : (0 ≤ mi_f h 13699 ∧ mi_f h 13699 ≤ 1) → ((mi_f h 13699) = ((0 : Int))) → (zt < zm) → (zo < ((0 : Int))) → (((0 : Int)) ≤ zt) → (∀ h1, ab_Sh sx_sk h1 → ab_Fr [] h h1 → me_E (d + 5) 131 98 [some (.inr (.inr 107)), some (.inl (zp)), some (.inl (zd)), some (.inl (zr)), some (.inl (zo)), some (.inl (zm)), some (.inl (zt))] [] h1 Q)) (k3 : (0 ≤ mi_f h 13699 ∧ mi_f h 13699 ≤ 1) → ((mi_f h 13699) = ((0 : Int))) → (zt < zm) → (zo < ((0 : Int))) → (zt < ((0 : Int))) → (∀ h1, ab_Sh sx_sk h1 → ab_Fr [] h h1 → ∃ Q1, me_E (d + 4) 132 0 (mi_entry 4 [.inr (.inr 107), .inl (zp), .inl (zd)]) [] h1 Q1 ∧ ∀ w h2, (∀ x, w = some x → mi_ok x) → Q1 w h2 → me_E (d + 5) 131 92 [some (.inr (.inr 107)), some (.inl (zp)), some (.inl (zd)), some (.inl (zr)), some (.inl (zo)), some (.inl (zm)), some (.inl (zt))] (mi_back w []) h2 Q)) (k4 : (0 ≤ mi_f h 13699 ∧ mi_f h 13699 ≤ 1) → ((mi_f h 13699) = ((0 : Int))) → (zt < zm) → (((0 : Int)) ≤ zo) → (((100 : Int)) ≤ zo) → (((0 : Int)) ≤ zt) → (∀ h1, ab_Sh sx_sk h1 → ab_Fr [] h h1 → me_E (d + 5) 131 98 [some (.inr (.inr 107)), some (.inl (zp)), some (.inl (zd)), some (.inl (zr)), some (.inl (zo)), some (.inl (zm)), some (.inl (zt))] [] h1 Q)) (k5 : (0 ≤ mi_f h 13699 ∧ mi_f h 13699 ≤ 1) → ((mi_f h 13699) = ((0 : Int))) → (zt < zm) → (((0 : Int)) ≤ zo) → (((100 : Int)) ≤ zo) → (zt < ((0 : Int))) → (∀ h1, ab_Sh sx_sk h1 → ab_Fr [] h h1 → ∃ Q1, me_E (d + 4) 132 0 (mi_entry 4 [.inr (.inr 107), .inl (zp), .inl (zd)]) [] h1 Q1 ∧ ∀ w h2, (∀ x, w = some x → mi_ok x) → Q1 w h2 → me_E (d + 5) 131 92 [some (.inr (.inr 107)), some (.inl (zp)), some (.inl (zd)), some (.inl (zr)), some (.inl (zo)), some (.inl (zm)), some (.inl (zt))] (mi_back w []) h2 Q)) (k6 : (0 ≤ mi_f h 13699 ∧ mi_f h 13699 ≤ 1) → ((mi_f h 13699) = ((0 : Int))) → (zt < zm) → (((0 : Int)) ≤ zo) → (zo < ((100 : Int))) → ((mi_a h 104 (Int.toNat zo)) ≤ zt) → ((0 ≤ zo ∧ zo < 100)) ∧ (∀ h1, ab_Sh sx_sk h1 → ab_Fr [] h h1 → me_E (d + 5) 131 98 [some (.inr (.inr 107)), some (.inl (zp)), some (.inl (zd)), some (.inl (zr)), some (.inl (zo)), some (.inl (zm)), some (.inl (zt))] [] h1 Q)) (k7 : (0 ≤ mi_f h 13699 ∧ mi_f h 13699 ≤ 1) → ((mi_f h 13699) = ((0 : Int))) → (zt < zm) → (((0 : Int)) ≤ zo) → (zo < ((100 : Int))) → (zt < (mi_a h 104 (Int.toNat zo))) → ((0 ≤ zo ∧ zo < 100)) ∧ (∀ h1, ab_Sh sx_sk h1 → ab_Fr [] h h1 → ∃ Q1, me_E (d + 4) 132 0 (mi_entry 4 [.inr (.inr 107), .inl (zp), .inl (zd)]) [] h1 Q1 ∧ ∀ w h2, (∀ x, w = some x → mi_ok x) → Q1 w h2 → me_E (d + 5) 131 92 [some (.inr (.inr 107)), some (.inl (zp)), some (.inl (zd)), some (.inl (zr)), some (.inl (zo)), some (.inl (zm)), some (.inl (zt))] (mi_back w []) h2 Q)) : me_E (d + 5) 131 60 [some (.inr (.inr 107)), some (.inl (zp)), some (.inl (zd)), some (.inl (zr)), some (.inl (zo)), some (.inl (zm)), some (.inl (zt))] [] h Q := Or.elim (mi_em .ne ((mi_f h 13699)) (((0 : Int)))) (fun c0 => ms_kgyE_0 hS ok_zp ok_zd ok_zr ok_zo ok_zm ok_zt (c0) (fun h1 W => (k0 (me_fb hS rfl) c0) h1 W.1 (W.2.2.2.2.2 _ rfl))) (fun c0 => Or.elim (mi_em .ge (zt) (zm)) (fun c1 => ms_kgyE_1 hS ok_zp ok_zd ok_zr ok_zo ok_zm ok_zt ⟨c0, c1⟩ (fun h1 W => (k1 (me_fb hS rfl) c0 c1) h1 W.1 (W.2.2.2.2.2 _ rfl))) (fun c1 => Or.elim (mi_em .lt (zo) (((0 : Int)))) (fun c2 => Or.elim (mi_em .ge (zt) (((0 : Int)))) (fun c3 => ms_kgyE_2 hS ok_zp ok_zd ok_zr ok_zo ok_zm ok_zt ⟨c0, c1, c2, c3, (by decide), (by decide)⟩ (fun h1 W => (k2 (me_fb hS rfl) c0 c1 c2 c3) h1 W.1 (W.2.2.2.2.2 _ rfl))) (fun c3 => ms_kgyE_3 hS ok_zp ok_zd ok_zr ok_zo ok_zm ok_zt ⟨c0, c1, c2, c3, (by decide), (by decide)⟩ (fun h1 W => (k3 (me_fb hS rfl) c0 c1 c2 c3) h1 W.1 (W.2.2.2.2.2 _ rfl)))) (fun c2 => Or.elim (mi_em .ge (zo) (((100 : Int)))) (fun c3 => Or.elim (mi_em .ge (zt) (((0 : Int)))) (fun c4 => ms_kgyE_4 hS ok_zp ok_zd ok_zr ok_zo ok_zm ok_zt ⟨c0, c1, c2, c3, c4, (by decide), (by decide)⟩ (fun h1 W => (k4 (me_fb hS rfl) c0 c1 c2 c3 c4) h1 W.1 (W.2.2.2.2.2 _ rfl))) (fun c4 => ms_kgyE_5 hS ok_zp ok_zd ok_zr ok_zo ok_zm ok_zt ⟨c0, c1, c2, c3, c4, (by decide), (by decide)⟩ (fun h1 W => (k5 (me_fb hS rfl) c0 c1 c2 c3 c4) h1 W.1 (W.2.2.2.2.2 _ rfl)))) (fun c3 => Or.elim (mi_em .ge (zt) ((mi_a h 104 (Int.toNat zo)))) (fun c4 => ms_kgyE_6 hS ok_zp ok_zd ok_zr ok_zo ok_zm ok_zt ⟨c0, c1, c2, c3, (k6 (me_fb hS rfl) c0 c1 c2 c3 c4).1, c4, (by decide), (by decide)⟩ (fun h1 W => (k6 (me_fb hS rfl) c0 c1 c2 c3 c4).2 h1 W.1 (W.2.2.2.2.2 _ rfl))) (fun c4 => ms_kgyE_7 hS ok_zp ok_zd ok_zr ok_zo ok_zm ok_zt ⟨c0, c1, c2, c3, (k7 (me_fb hS rfl) c0 c1 c2 c3 c4).1, c4, (by decide), (by decide)⟩ (fun h1 W => (k7 (me_fb hS rfl) c0 c1 c2 c3 c4).2 h1 W.1 (W.2.2.2.2.2 _ rfl)))))))
set_option maxRecDepth 20000 in
theorem mp_kgyF_0 (h : sm_H) (d : Nat) (zp zd zr zo zm zt : Int) : mj_path [(131, (7, 0, sb_131))] sx_sk h 2 [] (d + 5, 131, 92, [some (.inr (.inr 107)), some (.inl (zp)), some (.inl (zd)), some (.inl (zr)), some (.inl (zo)), some (.inl (zm)), some (.inl (zt))], [], [], []) = some ((d + 5, 131, 60, [some (.inr (.inr 107)), some (.inl (zp)), some (.inl (zd)), some (.inl (zr)), some (.inl (zo)), some (.inl (zm)), some (.inl (zt + 1))], [], [], []), [-2147483648 ≤ zt + 1 ∧ zt + 1 ≤ 2147483647]) := rfl
theorem mi_tab_kgyF_0 : ∀ e ∈ ([(131, (7, 0, sb_131))] : mi_T), sc_P e.1 = some e.2 := mi_tb mi_P131 (mi_tb_e)
set_option maxRecDepth 20000 in
theorem ms_kgyF_0 {h : sm_H} {d : Nat} {Q : Option mi_V → sm_H → Prop} {zp zd zr zo zm zt : Int} (hS : ab_Sh sx_sk h) (ok_zp : mi_in zp) (ok_zd : mi_in zd) (ok_zr : mi_in zr) (ok_zo : mi_in zo) (ok_zm : mi_in zm) (ok_zt : mi_in zt) (ho : (-2147483648 ≤ zt + 1 ∧ zt + 1 ≤ 2147483647)) (kon : ∀ h1, me_W [] h h1 → me_E (d + 5) 131 60 [some (.inr (.inr 107)), some (.inl (zp)), some (.inl (zd)), some (.inl (zr)), some (.inl (zo)), some (.inl (zm)), some (.inl (zt + 1))] [] h1 Q) : me_E (d + 5) 131 92 [some (.inr (.inr 107)), some (.inl (zp)), some (.inl (zd)), some (.inl (zr)), some (.inl (zo)), some (.inl (zm)), some (.inl (zt))] [] h Q := mf_seg (mp_kgyF_0 h d zp zd zr zo zm zt) (mi_tab_kgyF_0) hS (mi_okL_c (trivial) (mi_okL_c (ok_zp) (mi_okL_c (ok_zd) (mi_okL_c (ok_zr) (mi_okL_c (ok_zo) (mi_okL_c (ok_zm) (mi_okL_c (ok_zt) (mi_okL_e)))))))) (mi_okS_e) (mi_al (ho) (mi_al_e)) (fun h1 W _ hst => kon h1 W)
set_option maxRecDepth 20000 in
theorem mt_kgyF {h : sm_H} {d : Nat} {Q : Option mi_V → sm_H → Prop} {zp zd zr zo zm zt : Int} (hS : ab_Sh sx_sk h) (ok_zp : mi_in zp) (ok_zd : mi_in zd) (ok_zr : mi_in zr) (ok_zo : mi_in zo) (ok_zm : mi_in zm) (ok_zt : mi_in zt) (k0 : ((-2147483648 ≤ zt + 1 ∧ zt + 1 ≤ 2147483647)) ∧ (∀ h1, ab_Sh sx_sk h1 → ab_Fr [] h h1 → me_E (d + 5) 131 60 [some (.inr (.inr 107)), some (.inl (zp)), some (.inl (zd)), some (.inl (zr)), some (.inl (zo)), some (.inl (zm)), some (.inl (zt + 1))] [] h1 Q)) : me_E (d + 5) 131 92 [some (.inr (.inr 107)), some (.inl (zp)), some (.inl (zd)), some (.inl (zr)), some (.inl (zo)), some (.inl (zm)), some (.inl (zt))] [] h Q := ms_kgyF_0 hS ok_zp ok_zd ok_zr ok_zo ok_zm ok_zt ((k0).1) (fun h1 W => (k0).2 h1 W.1 (W.2.2.2.2.2 _ rfl))
set_option maxRecDepth 20000 in
theorem mp_kgyG_0 (h : sm_H) (d : Nat) (zp zd zr zo zm zt : Int) : mj_path [(131, (7, 0, sb_131))] sx_sk h 2 [] (d + 5, 131, 98, [some (.inr (.inr 107)), some (.inl (zp)), some (.inl (zd)), some (.inl (zr)), some (.inl (zo)), some (.inl (zm)), some (.inl (zt))], [], [], []) = some ((d + 5, 131, 101, [some (.inr (.inr 107)), some (.inl (zp)), some (.inl (zd)), some (.inl (zr)), some (.inl (zo)), some (.inl (zm)), some (.inl (zt))], [.inl (zo), .inr (.inr 107)], [], []), []) := rfl
theorem mi_tab_kgyG_0 : ∀ e ∈ ([(131, (7, 0, sb_131))] : mi_T), sc_P e.1 = some e.2 := mi_tb mi_P131 (mi_tb_e)
set_option maxRecDepth 20000 in
theorem ms_kgyG_0 {h : sm_H} {d : Nat} {Q : Option mi_V → sm_H → Prop} {zp zd zr zo zm zt : Int} (hS : ab_Sh sx_sk h) (ok_zp : mi_in zp) (ok_zd : mi_in zd) (ok_zr : mi_in zr) (ok_zo : mi_in zo) (ok_zm : mi_in zm) (ok_zt : mi_in zt) (kon : ∀ h1, me_W [] h h1 → ∃ Q1, me_E (d + 4) 147 0 (mi_entry 2 [.inr (.inr 107), .inl (zo)]) [] h1 Q1 ∧ ∀ w h2, (∀ x, w = some x → mi_ok x) → Q1 w h2 → me_E (d + 5) 131 104 [some (.inr (.inr 107)), some (.inl (zp)), some (.inl (zd)), some (.inl (zr)), some (.inl (zo)), some (.inl (zm)), some (.inl (zt))] (mi_back w []) h2 Q) : me_E (d + 5) 131 98 [some (.inr (.inr 107)), some (.inl (zp)), some (.inl (zd)), some (.inl (zr)), some (.inl (zo)), some (.inl (zm)), some (.inl (zt))] [] h Q := mf_seg (mp_kgyG_0 h d zp zd zr zo zm zt) (mi_tab_kgyG_0) hS (mi_okL_c (trivial) (mi_okL_c (ok_zp) (mi_okL_c (ok_zd) (mi_okL_c (ok_zr) (mi_okL_c (ok_zo) (mi_okL_c (ok_zm) (mi_okL_c (ok_zt) (mi_okL_e)))))))) (mi_okS_e) (mi_al_e) (fun h1 W _ hst => let ⟨_, k1, k2⟩ := kon h1 W; mf_call (M := (7, 0, sb_131)) (M' := (2, 0, sb_147)) rfl rfl rfl rfl (Nat.le_of_ble_eq_true rfl) (Nat.le_of_ble_eq_true rfl) W.1 k1 k2)
set_option maxRecDepth 20000 in
theorem mt_kgyG {h : sm_H} {d : Nat} {Q : Option mi_V → sm_H → Prop} {zp zd zr zo zm zt : Int} (hS : ab_Sh sx_sk h) (ok_zp : mi_in zp) (ok_zd : mi_in zd) (ok_zr : mi_in zr) (ok_zo : mi_in zo) (ok_zm : mi_in zm) (ok_zt : mi_in zt) (k0 : (∀ h1, ab_Sh sx_sk h1 → ab_Fr [] h h1 → ∃ Q1, me_E (d + 4) 147 0 (mi_entry 2 [.inr (.inr 107), .inl (zo)]) [] h1 Q1 ∧ ∀ w h2, (∀ x, w = some x → mi_ok x) → Q1 w h2 → me_E (d + 5) 131 104 [some (.inr (.inr 107)), some (.inl (zp)), some (.inl (zd)), some (.inl (zr)), some (.inl (zo)), some (.inl (zm)), some (.inl (zt))] (mi_back w []) h2 Q)) : me_E (d + 5) 131 98 [some (.inr (.inr 107)), some (.inl (zp)), some (.inl (zd)), some (.inl (zr)), some (.inl (zo)), some (.inl (zm)), some (.inl (zt))] [] h Q := ms_kgyG_0 hS ok_zp ok_zd ok_zr ok_zo ok_zm ok_zt (fun h1 W => (k0) h1 W.1 (W.2.2.2.2.2 _ rfl))
set_option maxRecDepth 20000 in
theorem mp_kgyH_0 (h : sm_H) (d : Nat) (zp zd zr zo zm zt : Int) : mj_path [(131, (7, 0, sb_131))] sx_sk h 0 [] (d + 5, 131, 104, [some (.inr (.inr 107)), some (.inl (zp)), some (.inl (zd)), some (.inl (zr)), some (.inl (zo)), some (.inl (zm)), some (.inl (zt))], [], [], []) = some ((d + 5, 131, 104, [some (.inr (.inr 107)), some (.inl (zp)), some (.inl (zd)), some (.inl (zr)), some (.inl (zo)), some (.inl (zm)), some (.inl (zt))], [], [], []), []) := rfl
theorem mi_tab_kgyH_0 : ∀ e ∈ ([(131, (7, 0, sb_131))] : mi_T), sc_P e.1 = some e.2 := mi_tb mi_P131 (mi_tb_e)
set_option maxRecDepth 20000 in
theorem ms_kgyH_0 {h : sm_H} {d : Nat} {Q : Option mi_V → sm_H → Prop} {zp zd zr zo zm zt : Int} (hS : ab_Sh sx_sk h) (ok_zp : mi_in zp) (ok_zd : mi_in zd) (ok_zr : mi_in zr) (ok_zo : mi_in zo) (ok_zm : mi_in zm) (ok_zt : mi_in zt) (kon : ∀ h1, me_W [] h h1 → Q none h1) : me_E (d + 5) 131 104 [some (.inr (.inr 107)), some (.inl (zp)), some (.inl (zd)), some (.inl (zr)), some (.inl (zo)), some (.inl (zm)), some (.inl (zt))] [] h Q := mf_seg (mp_kgyH_0 h d zp zd zr zo zm zt) (mi_tab_kgyH_0) hS (mi_okL_c (trivial) (mi_okL_c (ok_zp) (mi_okL_c (ok_zd) (mi_okL_c (ok_zr) (mi_okL_c (ok_zo) (mi_okL_c (ok_zm) (mi_okL_c (ok_zt) (mi_okL_e)))))))) (mi_okS_e) (mi_al_e) (fun h1 W _ hst => mf_ret (M := (7, 0, sb_131)) rfl rfl rfl hst (mi_al_e) (kon h1 W))
set_option maxRecDepth 20000 in
theorem mt_kgyH {h : sm_H} {d : Nat} {Q : Option mi_V → sm_H → Prop} {zp zd zr zo zm zt : Int} (hS : ab_Sh sx_sk h) (ok_zp : mi_in zp) (ok_zd : mi_in zd) (ok_zr : mi_in zr) (ok_zo : mi_in zo) (ok_zm : mi_in zm) (ok_zt : mi_in zt) (k0 : (∀ h1, ab_Sh sx_sk h1 → ab_Fr [] h h1 → Q none h1)) : me_E (d + 5) 131 104 [some (.inr (.inr 107)), some (.inl (zp)), some (.inl (zd)), some (.inl (zr)), some (.inl (zo)), some (.inl (zm)), some (.inl (zt))] [] h Q := ms_kgyH_0 hS ok_zp ok_zd ok_zr ok_zo ok_zm ok_zt (fun h1 W => (k0) h1 W.1 (W.2.2.2.2.2 _ rfl))
set_option maxRecDepth 20000 in
theorem mp_kgzA_0 (h : sm_H) (d : Nat) (zp zd : Int) : mj_path [(132, (4, 0, sb_132)), (16, (3, 0, sb_16)), (49, (2, 1, sb_49))] sx_sk h 18 [1, 1, 1] (d + 4, 132, 0, [some (.inr (.inr 107)), some (.inl (zp)), some (.inl (zd)), none], [], [], []) = some ((d + 4, 132, 68, [some (.inr (.inr 107)), some (.inl (zp)), some (.inl (zd)), some (.inl ((0 : Int)))], [.inl (zp), .inr (.inr 107)], [], []), [zp < ((0 : Int)), ((0 : Int)) ≠ ((9 : Int)), ((0 : Int)) ≠ ((10 : Int))]) := rfl
theorem mi_tab_kgzA_0 : ∀ e ∈ ([(132, (4, 0, sb_132)), (16, (3, 0, sb_16)), (49, (2, 1, sb_49))] : mi_T), sc_P e.1 = some e.2 := mi_tb mi_P132 (mi_tb mi_P16 (mi_tb mi_P49 (mi_tb_e)))
set_option maxRecDepth 20000 in
theorem ms_kgzA_0 {h : sm_H} {d : Nat} {Q : Option mi_V → sm_H → Prop} {zp zd : Int} (hS : ab_Sh sx_sk h) (ok_zp : mi_in zp) (ok_zd : mi_in zd) (ho : (zp < ((0 : Int))) ∧ (((0 : Int)) ≠ ((9 : Int))) ∧ (((0 : Int)) ≠ ((10 : Int)))) (kon : ∀ h1, me_W [] h h1 → ∃ Q1, me_E (d + 3) 133 0 (mi_entry 3 [.inr (.inr 107), .inl (zp)]) [] h1 Q1 ∧ ∀ w h2, (∀ x, w = some x → mi_ok x) → Q1 w h2 → me_E (d + 4) 132 71 [some (.inr (.inr 107)), some (.inl (zp)), some (.inl (zd)), some (.inl ((0 : Int)))] (mi_back w []) h2 Q) : me_E (d + 4) 132 0 [some (.inr (.inr 107)), some (.inl (zp)), some (.inl (zd)), none] [] h Q := mf_seg (mp_kgzA_0 h d zp zd) (mi_tab_kgzA_0) hS (mi_okL_c (trivial) (mi_okL_c (ok_zp) (mi_okL_c (ok_zd) (mi_okL_n (mi_okL_e))))) (mi_okS_e) (mi_al (ho.1) (mi_al (ho.2.1) (mi_al (ho.2.2) (mi_al_e)))) (fun h1 W _ hst => let ⟨_, k1, k2⟩ := kon h1 W; mf_call (M := (4, 0, sb_132)) (M' := (3, 0, sb_133)) rfl rfl rfl rfl (Nat.le_of_ble_eq_true rfl) (Nat.le_of_ble_eq_true rfl) W.1 k1 k2)
set_option maxRecDepth 20000 in
theorem mp_kgzA_1 (h : sm_H) (d : Nat) (zp zd : Int) : mj_path [(132, (4, 0, sb_132)), (16, (3, 0, sb_16)), (49, (2, 1, sb_49))] sx_sk h 22 [0, 1, 1, 1] (d + 4, 132, 0, [some (.inr (.inr 107)), some (.inl (zp)), some (.inl (zd)), none], [], [], []) = some ((d + 4, 132, 68, [some (.inr (.inr 107)), some (.inl (zp)), some (.inl (zd)), some (.inl ((0 : Int)))], [.inl (zp), .inr (.inr 107)], [], []), [((0 : Int)) ≤ zp, ((60 : Int)) ≤ zp, ((0 : Int)) ≠ ((9 : Int)), ((0 : Int)) ≠ ((10 : Int))]) := rfl
theorem mi_tab_kgzA_1 : ∀ e ∈ ([(132, (4, 0, sb_132)), (16, (3, 0, sb_16)), (49, (2, 1, sb_49))] : mi_T), sc_P e.1 = some e.2 := mi_tb mi_P132 (mi_tb mi_P16 (mi_tb mi_P49 (mi_tb_e)))
set_option maxRecDepth 20000 in
theorem ms_kgzA_1 {h : sm_H} {d : Nat} {Q : Option mi_V → sm_H → Prop} {zp zd : Int} (hS : ab_Sh sx_sk h) (ok_zp : mi_in zp) (ok_zd : mi_in zd) (ho : (((0 : Int)) ≤ zp) ∧ (((60 : Int)) ≤ zp) ∧ (((0 : Int)) ≠ ((9 : Int))) ∧ (((0 : Int)) ≠ ((10 : Int)))) (kon : ∀ h1, me_W [] h h1 → ∃ Q1, me_E (d + 3) 133 0 (mi_entry 3 [.inr (.inr 107), .inl (zp)]) [] h1 Q1 ∧ ∀ w h2, (∀ x, w = some x → mi_ok x) → Q1 w h2 → me_E (d + 4) 132 71 [some (.inr (.inr 107)), some (.inl (zp)), some (.inl (zd)), some (.inl ((0 : Int)))] (mi_back w []) h2 Q) : me_E (d + 4) 132 0 [some (.inr (.inr 107)), some (.inl (zp)), some (.inl (zd)), none] [] h Q := mf_seg (mp_kgzA_1 h d zp zd) (mi_tab_kgzA_1) hS (mi_okL_c (trivial) (mi_okL_c (ok_zp) (mi_okL_c (ok_zd) (mi_okL_n (mi_okL_e))))) (mi_okS_e) (mi_al (ho.1) (mi_al (ho.2.1) (mi_al (ho.2.2.1) (mi_al (ho.2.2.2) (mi_al_e))))) (fun h1 W _ hst => let ⟨_, k1, k2⟩ := kon h1 W; mf_call (M := (4, 0, sb_132)) (M' := (3, 0, sb_133)) rfl rfl rfl rfl (Nat.le_of_ble_eq_true rfl) (Nat.le_of_ble_eq_true rfl) W.1 k1 k2)
set_option maxRecDepth 20000 in
theorem mp_kgzA_2 (h : sm_H) (d : Nat) (zp zd : Int) : mj_path [(132, (4, 0, sb_132)), (16, (3, 0, sb_16)), (49, (2, 1, sb_49))] sx_sk h 25 [0, 0, 1, 1] (d + 4, 132, 0, [some (.inr (.inr 107)), some (.inl (zp)), some (.inl (zd)), none], [], [], []) = some ((d + 4, 132, 68, [some (.inr (.inr 107)), some (.inl (zp)), some (.inl (zd)), some (.inl (mi_a h 68 (Int.toNat zp)))], [.inl (zp), .inr (.inr 107)], [], []), [((0 : Int)) ≤ zp, zp < ((60 : Int)), 0 ≤ zp ∧ zp < 60, (mi_a h 68 (Int.toNat zp)) ≠ ((9 : Int)), (mi_a h 68 (Int.toNat zp)) ≠ ((10 : Int))]) := rfl
theorem mi_tab_kgzA_2 : ∀ e ∈ ([(132, (4, 0, sb_132)), (16, (3, 0, sb_16)), (49, (2, 1, sb_49))] : mi_T), sc_P e.1 = some e.2 := mi_tb mi_P132 (mi_tb mi_P16 (mi_tb mi_P49 (mi_tb_e)))
set_option maxRecDepth 20000 in
theorem ms_kgzA_2 {h : sm_H} {d : Nat} {Q : Option mi_V → sm_H → Prop} {zp zd : Int} (hS : ab_Sh sx_sk h) (ok_zp : mi_in zp) (ok_zd : mi_in zd) (ho : (((0 : Int)) ≤ zp) ∧ (zp < ((60 : Int))) ∧ (0 ≤ zp ∧ zp < 60) ∧ ((mi_a h 68 (Int.toNat zp)) ≠ ((9 : Int))) ∧ ((mi_a h 68 (Int.toNat zp)) ≠ ((10 : Int)))) (kon : ∀ h1, me_W [] h h1 → ∃ Q1, me_E (d + 3) 133 0 (mi_entry 3 [.inr (.inr 107), .inl (zp)]) [] h1 Q1 ∧ ∀ w h2, (∀ x, w = some x → mi_ok x) → Q1 w h2 → me_E (d + 4) 132 71 [some (.inr (.inr 107)), some (.inl (zp)), some (.inl (zd)), some (.inl (mi_a h 68 (Int.toNat zp)))] (mi_back w []) h2 Q) : me_E (d + 4) 132 0 [some (.inr (.inr 107)), some (.inl (zp)), some (.inl (zd)), none] [] h Q := mf_seg (mp_kgzA_2 h d zp zd) (mi_tab_kgzA_2) hS (mi_okL_c (trivial) (mi_okL_c (ok_zp) (mi_okL_c (ok_zd) (mi_okL_n (mi_okL_e))))) (mi_okS_e) (mi_al (ho.1) (mi_al (ho.2.1) (mi_al (ho.2.2.1) (mi_al (ho.2.2.2.1) (mi_al (ho.2.2.2.2) (mi_al_e)))))) (fun h1 W _ hst => let ⟨_, k1, k2⟩ := kon h1 W; mf_call (M := (4, 0, sb_132)) (M' := (3, 0, sb_133)) rfl rfl rfl rfl (Nat.le_of_ble_eq_true rfl) (Nat.le_of_ble_eq_true rfl) W.1 k1 k2)
set_option maxRecDepth 20000 in
theorem mp_kgzA_3 (h : sm_H) (d : Nat) (zp zd : Int) : mj_path [(132, (4, 0, sb_132)), (16, (3, 0, sb_16)), (49, (2, 1, sb_49))] sx_sk h 43 [0, 0, 1, 0, 0, 0, 8] (d + 4, 132, 0, [some (.inr (.inr 107)), some (.inl (zp)), some (.inl (zd)), none], [], [], []) = some ((d + 4, 132, 60, [some (.inr (.inr 107)), some (.inl (zp)), some (.inl (zd)), some (.inl (mi_a h 68 (Int.toNat zp)))], [.inl (zd + ((1 : Int))), .inl (mi_a h 69 (Int.toNat zp)), .inr (.inr 107)], [], []), [((0 : Int)) ≤ zp, zp < ((60 : Int)), 0 ≤ zp ∧ zp < 60, (mi_a h 68 (Int.toNat zp)) ≠ ((9 : Int)), (mi_a h 68 (Int.toNat zp)) = ((10 : Int)), ((0 : Int)) ≤ zp, zp < ((60 : Int)), 0 ≤ zp ∧ zp < 60, -2147483648 ≤ zd + ((1 : Int)) ∧ zd + ((1 : Int)) ≤ 2147483647]) := rfl
theorem mi_tab_kgzA_3 : ∀ e ∈ ([(132, (4, 0, sb_132)), (16, (3, 0, sb_16)), (49, (2, 1, sb_49))] : mi_T), sc_P e.1 = some e.2 := mi_tb mi_P132 (mi_tb mi_P16 (mi_tb mi_P49 (mi_tb_e)))
set_option maxRecDepth 20000 in
theorem ms_kgzA_3 {h : sm_H} {d : Nat} {Q : Option mi_V → sm_H → Prop} {zp zd : Int} (hS : ab_Sh sx_sk h) (ok_zp : mi_in zp) (ok_zd : mi_in zd) (ho : (((0 : Int)) ≤ zp) ∧ (zp < ((60 : Int))) ∧ (0 ≤ zp ∧ zp < 60) ∧ ((mi_a h 68 (Int.toNat zp)) ≠ ((9 : Int))) ∧ ((mi_a h 68 (Int.toNat zp)) = ((10 : Int))) ∧ (((0 : Int)) ≤ zp) ∧ (zp < ((60 : Int))) ∧ (0 ≤ zp ∧ zp < 60) ∧ (-2147483648 ≤ zd + ((1 : Int)) ∧ zd + ((1 : Int)) ≤ 2147483647)) (kon : ∀ h1, me_W [] h h1 → ∃ Q1, me_E (d + 3) 120 0 (mi_entry 11 [.inr (.inr 107), .inl (mi_a h 69 (Int.toNat zp)), .inl (zd + ((1 : Int)))]) [] h1 Q1 ∧ ∀ w h2, (∀ x, w = some x → mi_ok x) → Q1 w h2 → me_E (d + 4) 132 63 [some (.inr (.inr 107)), some (.inl (zp)), some (.inl (zd)), some (.inl (mi_a h 68 (Int.toNat zp)))] (mi_back w []) h2 Q) : me_E (d + 4) 132 0 [some (.inr (.inr 107)), some (.inl (zp)), some (.inl (zd)), none] [] h Q := mf_seg (mp_kgzA_3 h d zp zd) (mi_tab_kgzA_3) hS (mi_okL_c (trivial) (mi_okL_c (ok_zp) (mi_okL_c (ok_zd) (mi_okL_n (mi_okL_e))))) (mi_okS_e) (mi_al (ho.1) (mi_al (ho.2.1) (mi_al (ho.2.2.1) (mi_al (ho.2.2.2.1) (mi_al (ho.2.2.2.2.1) (mi_al (ho.2.2.2.2.2.1) (mi_al (ho.2.2.2.2.2.2.1) (mi_al (ho.2.2.2.2.2.2.2.1) (mi_al (ho.2.2.2.2.2.2.2.2) (mi_al_e)))))))))) (fun h1 W _ hst => let ⟨_, k1, k2⟩ := kon h1 W; mf_call (M := (4, 0, sb_132)) (M' := (11, 0, sb_120)) rfl rfl rfl rfl (Nat.le_of_ble_eq_true rfl) (Nat.le_of_ble_eq_true rfl) W.1 k1 k2)
set_option maxRecDepth 20000 in
theorem mp_kgzA_4 (h : sm_H) (d : Nat) (zp zd : Int) : mj_path [(132, (4, 0, sb_132)), (16, (3, 0, sb_16)), (49, (2, 1, sb_49))] sx_sk h 40 [0, 0, 0, 0, 0, 8] (d + 4, 132, 0, [some (.inr (.inr 107)), some (.inl (zp)), some (.inl (zd)), none], [], [], []) = some ((d + 4, 132, 33, [some (.inr (.inr 107)), some (.inl (zp)), some (.inl (zd)), some (.inl (mi_a h 68 (Int.toNat zp)))], [.inl (zd + ((1 : Int))), .inl (mi_a h 69 (Int.toNat zp)), .inr (.inr 107)], [], []), [((0 : Int)) ≤ zp, zp < ((60 : Int)), 0 ≤ zp ∧ zp < 60, (mi_a h 68 (Int.toNat zp)) = ((9 : Int)), ((0 : Int)) ≤ zp, zp < ((60 : Int)), 0 ≤ zp ∧ zp < 60, -2147483648 ≤ zd + ((1 : Int)) ∧ zd + ((1 : Int)) ≤ 2147483647]) := rfl
theorem mi_tab_kgzA_4 : ∀ e ∈ ([(132, (4, 0, sb_132)), (16, (3, 0, sb_16)), (49, (2, 1, sb_49))] : mi_T), sc_P e.1 = some e.2 := mi_tb mi_P132 (mi_tb mi_P16 (mi_tb mi_P49 (mi_tb_e)))
set_option maxRecDepth 20000 in
theorem ms_kgzA_4 {h : sm_H} {d : Nat} {Q : Option mi_V → sm_H → Prop} {zp zd : Int} (hS : ab_Sh sx_sk h) (ok_zp : mi_in zp) (ok_zd : mi_in zd) (ho : (((0 : Int)) ≤ zp) ∧ (zp < ((60 : Int))) ∧ (0 ≤ zp ∧ zp < 60) ∧ ((mi_a h 68 (Int.toNat zp)) = ((9 : Int))) ∧ (((0 : Int)) ≤ zp) ∧ (zp < ((60 : Int))) ∧ (0 ≤ zp ∧ zp < 60) ∧ (-2147483648 ≤ zd + ((1 : Int)) ∧ zd + ((1 : Int)) ≤ 2147483647)) (kon : ∀ h1, me_W [] h h1 → ∃ Q1, me_E (d + 3) 113 0 (mi_entry 4 [.inr (.inr 107), .inl (mi_a h 69 (Int.toNat zp)), .inl (zd + ((1 : Int)))]) [] h1 Q1 ∧ ∀ w h2, (∀ x, w = some x → mi_ok x) → Q1 w h2 → me_E (d + 4) 132 36 [some (.inr (.inr 107)), some (.inl (zp)), some (.inl (zd)), some (.inl (mi_a h 68 (Int.toNat zp)))] (mi_back w []) h2 Q) : me_E (d + 4) 132 0 [some (.inr (.inr 107)), some (.inl (zp)), some (.inl (zd)), none] [] h Q := mf_seg (mp_kgzA_4 h d zp zd) (mi_tab_kgzA_4) hS (mi_okL_c (trivial) (mi_okL_c (ok_zp) (mi_okL_c (ok_zd) (mi_okL_n (mi_okL_e))))) (mi_okS_e) (mi_al (ho.1) (mi_al (ho.2.1) (mi_al (ho.2.2.1) (mi_al (ho.2.2.2.1) (mi_al (ho.2.2.2.2.1) (mi_al (ho.2.2.2.2.2.1) (mi_al (ho.2.2.2.2.2.2.1) (mi_al (ho.2.2.2.2.2.2.2) (mi_al_e))))))))) (fun h1 W _ hst => let ⟨_, k1, k2⟩ := kon h1 W; mf_call (M := (4, 0, sb_132)) (M' := (4, 0, sb_113)) rfl rfl rfl rfl (Nat.le_of_ble_eq_true rfl) (Nat.le_of_ble_eq_true rfl) W.1 k1 k2)
set_option maxRecDepth 20000 in
theorem mt_kgzA {h : sm_H} {d : Nat} {Q : Option mi_V → sm_H → Prop} {zp zd : Int} (hS : ab_Sh sx_sk h) (ok_zp : mi_in zp) (ok_zd : mi_in zd) (k0 : (zp < ((0 : Int))) → (∀ h1, ab_Sh sx_sk h1 → ab_Fr [] h h1 → ∃ Q1, me_E (d + 3) 133 0 (mi_entry 3 [.inr (.inr 107), .inl (zp)]) [] h1 Q1 ∧ ∀ w h2, (∀ x, w = some x → mi_ok x) → Q1 w h2 → me_E (d + 4) 132 71 [some (.inr (.inr 107)), some (.inl (zp)), some (.inl (zd)), some (.inl ((0 : Int)))] (mi_back w []) h2 Q)) (k1 : (((0 : Int)) ≤ zp) → (((60 : Int)) ≤ zp) → (∀ h1, ab_Sh sx_sk h1 → ab_Fr [] h h1 → ∃ Q1, me_E (d + 3) 133 0 (mi_entry 3 [.inr (.inr 107), .inl (zp)]) [] h1 Q1 ∧ ∀ w h2, (∀ x, w = some x → mi_ok x) → Q1 w h2 → me_E (d + 4) 132 71 [some (.inr (.inr 107)), some (.inl (zp)), some (.inl (zd)), some (.inl ((0 : Int)))] (mi_back w []) h2 Q)) (k2 : (((0 : Int)) ≤ zp) → (zp < ((60 : Int))) → ((mi_a h 68 (Int.toNat zp)) ≠ ((9 : Int))) → ((mi_a h 68 (Int.toNat zp)) ≠ ((10 : Int))) → ((0 ≤ zp ∧ zp < 60)) ∧ (∀ h1, ab_Sh sx_sk h1 → ab_Fr [] h h1 → ∃ Q1, me_E (d + 3) 133 0 (mi_entry 3 [.inr (.inr 107), .inl (zp)]) [] h1 Q1 ∧ ∀ w h2, (∀ x, w = some x → mi_ok x) → Q1 w h2 → me_E (d + 4) 132 71 [some (.inr (.inr 107)), some (.inl (zp)), some (.inl (zd)), some (.inl (mi_a h 68 (Int.toNat zp)))] (mi_back w []) h2 Q)) (k3 : (((0 : Int)) ≤ zp) → (zp < ((60 : Int))) → ((mi_a h 68 (Int.toNat zp)) ≠ ((9 : Int))) → ((mi_a h 68 (Int.toNat zp)) = ((10 : Int))) → ((0 ≤ zp ∧ zp < 60) ∧ (-2147483648 ≤ zd + ((1 : Int)) ∧ zd + ((1 : Int)) ≤ 2147483647)) ∧ (∀ h1, ab_Sh sx_sk h1 → ab_Fr [] h h1 → ∃ Q1, me_E (d + 3) 120 0 (mi_entry 11 [.inr (.inr 107), .inl (mi_a h 69 (Int.toNat zp)), .inl (zd + ((1 : Int)))]) [] h1 Q1 ∧ ∀ w h2, (∀ x, w = some x → mi_ok x) → Q1 w h2 → me_E (d + 4) 132 63 [some (.inr (.inr 107)), some (.inl (zp)), some (.inl (zd)), some (.inl (mi_a h 68 (Int.toNat zp)))] (mi_back w []) h2 Q)) (k4 : (((0 : Int)) ≤ zp) → (zp < ((60 : Int))) → ((mi_a h 68 (Int.toNat zp)) = ((9 : Int))) → ((0 ≤ zp ∧ zp < 60) ∧ (-2147483648 ≤ zd + ((1 : Int)) ∧ zd + ((1 : Int)) ≤ 2147483647)) ∧ (∀ h1, ab_Sh sx_sk h1 → ab_Fr [] h h1 → ∃ Q1, me_E (d + 3) 113 0 (mi_entry 4 [.inr (.inr 107), .inl (mi_a h 69 (Int.toNat zp)), .inl (zd + ((1 : Int)))]) [] h1 Q1 ∧ ∀ w h2, (∀ x, w = some x → mi_ok x) → Q1 w h2 → me_E (d + 4) 132 36 [some (.inr (.inr 107)), some (.inl (zp)), some (.inl (zd)), some (.inl (mi_a h 68 (Int.toNat zp)))] (mi_back w []) h2 Q)) : me_E (d + 4) 132 0 [some (.inr (.inr 107)), some (.inl (zp)), some (.inl (zd)), none] [] h Q := Or.elim (mi_em .lt (zp) (((0 : Int)))) (fun c0 => ms_kgzA_0 hS ok_zp ok_zd ⟨c0, (by decide), (by decide)⟩ (fun h1 W => (k0 c0) h1 W.1 (W.2.2.2.2.2 _ rfl))) (fun c0 => Or.elim (mi_em .ge (zp) (((60 : Int)))) (fun c1 => ms_kgzA_1 hS ok_zp ok_zd ⟨c0, c1, (by decide), (by decide)⟩ (fun h1 W => (k1 c0 c1) h1 W.1 (W.2.2.2.2.2 _ rfl))) (fun c1 => Or.elim (mi_em .ne ((mi_a h 68 (Int.toNat zp))) (((9 : Int)))) (fun c2 => Or.elim (mi_em .ne ((mi_a h 68 (Int.toNat zp))) (((10 : Int)))) (fun c3 => ms_kgzA_2 hS ok_zp ok_zd ⟨c0, c1, (k2 c0 c1 c2 c3).1, c2, c3⟩ (fun h1 W => (k2 c0 c1 c2 c3).2 h1 W.1 (W.2.2.2.2.2 _ rfl))) (fun c3 => ms_kgzA_3 hS ok_zp ok_zd ⟨c0, c1, (k3 c0 c1 c2 c3).1.1, c2, c3, c0, c1, (k3 c0 c1 c2 c3).1.1, (k3 c0 c1 c2 c3).1.2⟩ (fun h1 W => (k3 c0 c1 c2 c3).2 h1 W.1 (W.2.2.2.2.2 _ rfl)))) (fun c2 => ms_kgzA_4 hS ok_zp ok_zd ⟨c0, c1, (k4 c0 c1 c2).1.1, c2, c0, c1, (k4 c0 c1 c2).1.1, (k4 c0 c1 c2).1.2⟩ (fun h1 W => (k4 c0 c1 c2).2 h1 W.1 (W.2.2.2.2.2 _ rfl)))))
set_option maxRecDepth 20000 in
theorem mp_kgzB_0 (h : sm_H) (d : Nat) (zp zd zs : Int) : mj_path [(132, (4, 0, sb_132))] sx_sk h 1 [] (d + 4, 132, 36, [some (.inr (.inr 107)), some (.inl (zp)), some (.inl (zd)), some (.inl (zs))], [], [], []) = some ((d + 4, 132, 71, [some (.inr (.inr 107)), some (.inl (zp)), some (.inl (zd)), some (.inl (zs))], [], [], []), []) := rfl
theorem mi_tab_kgzB_0 : ∀ e ∈ ([(132, (4, 0, sb_132))] : mi_T), sc_P e.1 = some e.2 := mi_tb mi_P132 (mi_tb_e)
set_option maxRecDepth 20000 in
theorem ms_kgzB_0 {h : sm_H} {d : Nat} {Q : Option mi_V → sm_H → Prop} {zp zd zs : Int} (hS : ab_Sh sx_sk h) (ok_zp : mi_in zp) (ok_zd : mi_in zd) (ok_zs : mi_in zs) (kon : ∀ h1, me_W [] h h1 → Q none h1) : me_E (d + 4) 132 36 [some (.inr (.inr 107)), some (.inl (zp)), some (.inl (zd)), some (.inl (zs))] [] h Q := mf_seg (mp_kgzB_0 h d zp zd zs) (mi_tab_kgzB_0) hS (mi_okL_c (trivial) (mi_okL_c (ok_zp) (mi_okL_c (ok_zd) (mi_okL_c (ok_zs) (mi_okL_e))))) (mi_okS_e) (mi_al_e) (fun h1 W _ hst => mf_ret (M := (4, 0, sb_132)) rfl rfl rfl hst (mi_al_e) (kon h1 W))
set_option maxRecDepth 20000 in
theorem mt_kgzB {h : sm_H} {d : Nat} {Q : Option mi_V → sm_H → Prop} {zp zd zs : Int} (hS : ab_Sh sx_sk h) (ok_zp : mi_in zp) (ok_zd : mi_in zd) (ok_zs : mi_in zs) (k0 : (∀ h1, ab_Sh sx_sk h1 → ab_Fr [] h h1 → Q none h1)) : me_E (d + 4) 132 36 [some (.inr (.inr 107)), some (.inl (zp)), some (.inl (zd)), some (.inl (zs))] [] h Q := ms_kgzB_0 hS ok_zp ok_zd ok_zs (fun h1 W => (k0) h1 W.1 (W.2.2.2.2.2 _ rfl))
set_option maxRecDepth 20000 in
theorem mp_kgzC_0 (h : sm_H) (d : Nat) (zp zd zs : Int) : mj_path [(132, (4, 0, sb_132))] sx_sk h 1 [] (d + 4, 132, 63, [some (.inr (.inr 107)), some (.inl (zp)), some (.inl (zd)), some (.inl (zs))], [], [], []) = some ((d + 4, 132, 71, [some (.inr (.inr 107)), some (.inl (zp)), some (.inl (zd)), some (.inl (zs))], [], [], []), []) := rfl
theorem mi_tab_kgzC_0 : ∀ e ∈ ([(132, (4, 0, sb_132))] : mi_T), sc_P e.1 = some e.2 := mi_tb mi_P132 (mi_tb_e)
set_option maxRecDepth 20000 in
theorem ms_kgzC_0 {h : sm_H} {d : Nat} {Q : Option mi_V → sm_H → Prop} {zp zd zs : Int} (hS : ab_Sh sx_sk h) (ok_zp : mi_in zp) (ok_zd : mi_in zd) (ok_zs : mi_in zs) (kon : ∀ h1, me_W [] h h1 → Q none h1) : me_E (d + 4) 132 63 [some (.inr (.inr 107)), some (.inl (zp)), some (.inl (zd)), some (.inl (zs))] [] h Q := mf_seg (mp_kgzC_0 h d zp zd zs) (mi_tab_kgzC_0) hS (mi_okL_c (trivial) (mi_okL_c (ok_zp) (mi_okL_c (ok_zd) (mi_okL_c (ok_zs) (mi_okL_e))))) (mi_okS_e) (mi_al_e) (fun h1 W _ hst => mf_ret (M := (4, 0, sb_132)) rfl rfl rfl hst (mi_al_e) (kon h1 W))
set_option maxRecDepth 20000 in
theorem mt_kgzC {h : sm_H} {d : Nat} {Q : Option mi_V → sm_H → Prop} {zp zd zs : Int} (hS : ab_Sh sx_sk h) (ok_zp : mi_in zp) (ok_zd : mi_in zd) (ok_zs : mi_in zs) (k0 : (∀ h1, ab_Sh sx_sk h1 → ab_Fr [] h h1 → Q none h1)) : me_E (d + 4) 132 63 [some (.inr (.inr 107)), some (.inl (zp)), some (.inl (zd)), some (.inl (zs))] [] h Q := ms_kgzC_0 hS ok_zp ok_zd ok_zs (fun h1 W => (k0) h1 W.1 (W.2.2.2.2.2 _ rfl))
set_option maxRecDepth 20000 in
theorem mp_kgzD_0 (h : sm_H) (d : Nat) (zp zd zs : Int) : mj_path [(132, (4, 0, sb_132))] sx_sk h 0 [] (d + 4, 132, 71, [some (.inr (.inr 107)), some (.inl (zp)), some (.inl (zd)), some (.inl (zs))], [], [], []) = some ((d + 4, 132, 71, [some (.inr (.inr 107)), some (.inl (zp)), some (.inl (zd)), some (.inl (zs))], [], [], []), []) := rfl
theorem mi_tab_kgzD_0 : ∀ e ∈ ([(132, (4, 0, sb_132))] : mi_T), sc_P e.1 = some e.2 := mi_tb mi_P132 (mi_tb_e)
set_option maxRecDepth 20000 in
theorem ms_kgzD_0 {h : sm_H} {d : Nat} {Q : Option mi_V → sm_H → Prop} {zp zd zs : Int} (hS : ab_Sh sx_sk h) (ok_zp : mi_in zp) (ok_zd : mi_in zd) (ok_zs : mi_in zs) (kon : ∀ h1, me_W [] h h1 → Q none h1) : me_E (d + 4) 132 71 [some (.inr (.inr 107)), some (.inl (zp)), some (.inl (zd)), some (.inl (zs))] [] h Q := mf_seg (mp_kgzD_0 h d zp zd zs) (mi_tab_kgzD_0) hS (mi_okL_c (trivial) (mi_okL_c (ok_zp) (mi_okL_c (ok_zd) (mi_okL_c (ok_zs) (mi_okL_e))))) (mi_okS_e) (mi_al_e) (fun h1 W _ hst => mf_ret (M := (4, 0, sb_132)) rfl rfl rfl hst (mi_al_e) (kon h1 W))
set_option maxRecDepth 20000 in
theorem mt_kgzD {h : sm_H} {d : Nat} {Q : Option mi_V → sm_H → Prop} {zp zd zs : Int} (hS : ab_Sh sx_sk h) (ok_zp : mi_in zp) (ok_zd : mi_in zd) (ok_zs : mi_in zs) (k0 : (∀ h1, ab_Sh sx_sk h1 → ab_Fr [] h h1 → Q none h1)) : me_E (d + 4) 132 71 [some (.inr (.inr 107)), some (.inl (zp)), some (.inl (zd)), some (.inl (zs))] [] h Q := ms_kgzD_0 hS ok_zp ok_zd ok_zs (fun h1 W => (k0) h1 W.1 (W.2.2.2.2.2 _ rfl))
set_option maxRecDepth 20000 in
theorem mp_kggA_0 (h : sm_H) (d : Nat) : mj_path [(103, (1, 0, sb_103)), (104, (1, 0, sb_104)), (13, (1, 0, sb_13))] sx_sk h 25 [0] (d + 4, 103, 0, [some (.inr (.inr 107))], [], [], []) = some ((d + 4, 103, 29, [some (.inr (.inr 107))], [.inl ((0 : Int)), .inl ((0 : Int)), .inr (.inr 107)], [.inl (13056, (0 : Int)), .inl (13701, (0 : Int)), .inl (13700, (0 : Int)), .inl (13699, (0 : Int))], []), [0 ≤ ((0 : Int)) ∧ ((0 : Int)) ≤ 1, 0 ≤ ((0 : Int)) ∧ ((0 : Int)) ≤ 1, 0 ≤ ((0 : Int)) ∧ ((0 : Int)) ≤ 1, 0 ≤ ((0 : Int)) ∧ ((0 : Int)) ≤ 1, ((0 : Int)) = ((0 : Int))]) := rfl
theorem mi_tab_kggA_0 : ∀ e ∈ ([(103, (1, 0, sb_103)), (104, (1, 0, sb_104)), (13, (1, 0, sb_13))] : mi_T), sc_P e.1 = some e.2 := mi_tb mi_P103 (mi_tb mi_P104 (mi_tb mi_P13 (mi_tb_e)))
set_option maxRecDepth 20000 in
theorem ms_kggA_0 {h : sm_H} {d : Nat} {Q : Option mi_V → sm_H → Prop} (hS : ab_Sh sx_sk h)  (ho : (0 ≤ ((0 : Int)) ∧ ((0 : Int)) ≤ 1) ∧ (0 ≤ ((0 : Int)) ∧ ((0 : Int)) ≤ 1) ∧ (0 ≤ ((0 : Int)) ∧ ((0 : Int)) ≤ 1) ∧ (0 ≤ ((0 : Int)) ∧ ((0 : Int)) ≤ 1) ∧ (((0 : Int)) = ((0 : Int)))) (kon : ∀ h1, me_W [.inl (13056, (0 : Int)), .inl (13701, (0 : Int)), .inl (13700, (0 : Int)), .inl (13699, (0 : Int))] h h1 → ∃ Q1, me_E (d + 3) 113 0 (mi_entry 4 [.inr (.inr 107), .inl ((0 : Int)), .inl ((0 : Int))]) [] h1 Q1 ∧ ∀ w h2, (∀ x, w = some x → mi_ok x) → Q1 w h2 → me_E (d + 4) 103 32 [some (.inr (.inr 107))] (mi_back w []) h2 Q) : me_E (d + 4) 103 0 [some (.inr (.inr 107))] [] h Q := mf_seg (mp_kggA_0 h d ) (mi_tab_kggA_0) hS (mi_okL_c (trivial) (mi_okL_e)) (mi_okS_e) (mi_al (ho.1) (mi_al (ho.2.1) (mi_al (ho.2.2.1) (mi_al (ho.2.2.2.1) (mi_al (ho.2.2.2.2) (mi_al_e)))))) (fun h1 W _ hst => let ⟨_, k1, k2⟩ := kon h1 W; mf_call (M := (1, 0, sb_103)) (M' := (4, 0, sb_113)) rfl rfl rfl rfl (Nat.le_of_ble_eq_true rfl) (Nat.le_of_ble_eq_true rfl) W.1 k1 k2)
set_option maxRecDepth 20000 in
theorem mt_kggA {h : sm_H} {d : Nat} {Q : Option mi_V → sm_H → Prop} (hS : ab_Sh sx_sk h)  (k0 : (∀ h1, ab_Sh sx_sk h1 → mi_f h1 13056 = (0 : Int) → mi_f h1 13699 = (0 : Int) → mi_f h1 13700 = (0 : Int) → mi_f h1 13701 = (0 : Int) → ab_Fr [(13056, 13057), (13699, 13702)] h h1 → ∃ Q1, me_E (d + 3) 113 0 (mi_entry 4 [.inr (.inr 107), .inl ((0 : Int)), .inl ((0 : Int))]) [] h1 Q1 ∧ ∀ w h2, (∀ x, w = some x → mi_ok x) → Q1 w h2 → me_E (d + 4) 103 32 [some (.inr (.inr 107))] (mi_back w []) h2 Q)) : me_E (d + 4) 103 0 [some (.inr (.inr 107))] [] h Q := ms_kggA_0 hS ⟨(by decide), (by decide), (by decide), (by decide), (by decide)⟩ (fun h1 W => (k0) h1 W.1 (W.2.1 13056) (W.2.1 13699) (W.2.1 13700) (W.2.1 13701) (W.2.2.2.2.2 _ rfl))
set_option maxRecDepth 20000 in
theorem mp_kggB_0 (h : sm_H) (d : Nat) : mj_path [(103, (1, 0, sb_103)), (157, (1, 0, sb_157))] sx_sk h 3 [1] (d + 4, 103, 32, [some (.inr (.inr 107))], [], [], []) = some ((d + 4, 103, 43, [some (.inr (.inr 107))], [], [], []), [(mi_f h 13699) ≠ ((0 : Int))]) := rfl
theorem mi_tab_kggB_0 : ∀ e ∈ ([(103, (1, 0, sb_103)), (157, (1, 0, sb_157))] : mi_T), sc_P e.1 = some e.2 := mi_tb mi_P103 (mi_tb mi_P157 (mi_tb_e))
set_option maxRecDepth 20000 in
theorem ms_kggB_0 {h : sm_H} {d : Nat} {Q : Option mi_V → sm_H → Prop} (hS : ab_Sh sx_sk h)  (ho : ((mi_f h 13699) ≠ ((0 : Int)))) (kon : ∀ h1, me_W [] h h1 → Q none h1) : me_E (d + 4) 103 32 [some (.inr (.inr 107))] [] h Q := mf_seg (mp_kggB_0 h d ) (mi_tab_kggB_0) hS (mi_okL_c (trivial) (mi_okL_e)) (mi_okS_e) (mi_al (ho) (mi_al_e)) (fun h1 W _ hst => mf_ret (M := (1, 0, sb_103)) rfl rfl rfl hst (mi_al_e) (kon h1 W))
set_option maxRecDepth 20000 in
theorem mp_kggB_1 (h : sm_H) (d : Nat) : mj_path [(103, (1, 0, sb_103)), (157, (1, 0, sb_157))] sx_sk h 6 [0] (d + 4, 103, 32, [some (.inr (.inr 107))], [], [], []) = some ((d + 4, 103, 43, [some (.inr (.inr 107))], [], [], []), [(mi_f h 13699) = ((0 : Int))]) := rfl
theorem mi_tab_kggB_1 : ∀ e ∈ ([(103, (1, 0, sb_103)), (157, (1, 0, sb_157))] : mi_T), sc_P e.1 = some e.2 := mi_tb mi_P103 (mi_tb mi_P157 (mi_tb_e))
set_option maxRecDepth 20000 in
theorem ms_kggB_1 {h : sm_H} {d : Nat} {Q : Option mi_V → sm_H → Prop} (hS : ab_Sh sx_sk h)  (ho : ((mi_f h 13699) = ((0 : Int)))) (kon : ∀ h1, me_W [] h h1 → Q none h1) : me_E (d + 4) 103 32 [some (.inr (.inr 107))] [] h Q := mf_seg (mp_kggB_1 h d ) (mi_tab_kggB_1) hS (mi_okL_c (trivial) (mi_okL_e)) (mi_okS_e) (mi_al (ho) (mi_al_e)) (fun h1 W _ hst => mf_ret (M := (1, 0, sb_103)) rfl rfl rfl hst (mi_al_e) (kon h1 W))
set_option maxRecDepth 20000 in
theorem mt_kggB {h : sm_H} {d : Nat} {Q : Option mi_V → sm_H → Prop} (hS : ab_Sh sx_sk h)  (k0 : (0 ≤ mi_f h 13699 ∧ mi_f h 13699 ≤ 1) → ((mi_f h 13699) ≠ ((0 : Int))) → (∀ h1, ab_Sh sx_sk h1 → ab_Fr [] h h1 → Q none h1)) (k1 : (0 ≤ mi_f h 13699 ∧ mi_f h 13699 ≤ 1) → ((mi_f h 13699) = ((0 : Int))) → (∀ h1, ab_Sh sx_sk h1 → ab_Fr [] h h1 → Q none h1)) : me_E (d + 4) 103 32 [some (.inr (.inr 107))] [] h Q := Or.elim (mi_em .ne ((mi_f h 13699)) (((0 : Int)))) (fun c0 => ms_kggB_0 hS (c0) (fun h1 W => (k0 (me_fb hS rfl) c0) h1 W.1 (W.2.2.2.2.2 _ rfl))) (fun c0 => ms_kggB_1 hS (c0) (fun h1 W => (k1 (me_fb hS rfl) c0) h1 W.1 (W.2.2.2.2.2 _ rfl)))
/-! segment of the class: Growing leaves a node -/
set_option maxRecDepth 20000 in
theorem mp_kgle_0 (h : sm_H) (d : Nat) (zk : Int) : mj_path [(147, (2, 0, sb_147)), (16, (3, 0, sb_16)), (49, (2, 1, sb_49)), (148, (2, 0, sb_148))] sx_sk h 18 [8, 8, 1] (d + 2, 147, 0, [some (.inr (.inr 107)), some (.inl (zk))], [], [], []) = some ((d + 2, 147, 8, [some (.inr (.inr 107)), some (.inl (zk))], [], [], []), [-2147483648 ≤ (mi_f h 13056) - ((1 : Int)) ∧ (mi_f h 13056) - ((1 : Int)) ≤ 2147483647, -2147483648 ≤ ((mi_f h 13056) - ((1 : Int))) - zk ∧ ((mi_f h 13056) - ((1 : Int))) - zk ≤ 2147483647, zk < ((0 : Int))]) := rfl
theorem mi_tab_kgle_0 : ∀ e ∈ ([(147, (2, 0, sb_147)), (16, (3, 0, sb_16)), (49, (2, 1, sb_49)), (148, (2, 0, sb_148))] : mi_T), sc_P e.1 = some e.2 := mi_tb mi_P147 (mi_tb mi_P16 (mi_tb mi_P49 (mi_tb mi_P148 (mi_tb_e))))
set_option maxRecDepth 20000 in
theorem ms_kgle_0 {h : sm_H} {d : Nat} {Q : Option mi_V → sm_H → Prop} {zk : Int} (hS : ab_Sh sx_sk h) (ok_zk : mi_in zk) (ho : (-2147483648 ≤ (mi_f h 13056) - ((1 : Int)) ∧ (mi_f h 13056) - ((1 : Int)) ≤ 2147483647) ∧ (-2147483648 ≤ ((mi_f h 13056) - ((1 : Int))) - zk ∧ ((mi_f h 13056) - ((1 : Int))) - zk ≤ 2147483647) ∧ (zk < ((0 : Int)))) (kon : ∀ h1, me_W [] h h1 → Q none h1) : me_E (d + 2) 147 0 [some (.inr (.inr 107)), some (.inl (zk))] [] h Q := mf_seg (mp_kgle_0 h d zk) (mi_tab_kgle_0) hS (mi_okL_c (trivial) (mi_okL_c (ok_zk) (mi_okL_e))) (mi_okS_e) (mi_al (ho.1) (mi_al (ho.2.1) (mi_al (ho.2.2) (mi_al_e)))) (fun h1 W _ hst => mf_ret (M := (2, 0, sb_147)) rfl rfl rfl hst (mi_al_e) (kon h1 W))
set_option maxRecDepth 20000 in
theorem mp_kgle_1 (h : sm_H) (d : Nat) (zk : Int) : mj_path [(147, (2, 0, sb_147)), (16, (3, 0, sb_16)), (49, (2, 1, sb_49)), (148, (2, 0, sb_148))] sx_sk h 22 [8, 8, 0, 1] (d + 2, 147, 0, [some (.inr (.inr 107)), some (.inl (zk))], [], [], []) = some ((d + 2, 147, 8, [some (.inr (.inr 107)), some (.inl (zk))], [], [], []), [-2147483648 ≤ (mi_f h 13056) - ((1 : Int)) ∧ (mi_f h 13056) - ((1 : Int)) ≤ 2147483647, -2147483648 ≤ ((mi_f h 13056) - ((1 : Int))) - zk ∧ ((mi_f h 13056) - ((1 : Int))) - zk ≤ 2147483647, ((0 : Int)) ≤ zk, ((100 : Int)) ≤ zk]) := rfl
theorem mi_tab_kgle_1 : ∀ e ∈ ([(147, (2, 0, sb_147)), (16, (3, 0, sb_16)), (49, (2, 1, sb_49)), (148, (2, 0, sb_148))] : mi_T), sc_P e.1 = some e.2 := mi_tb mi_P147 (mi_tb mi_P16 (mi_tb mi_P49 (mi_tb mi_P148 (mi_tb_e))))
set_option maxRecDepth 20000 in
theorem ms_kgle_1 {h : sm_H} {d : Nat} {Q : Option mi_V → sm_H → Prop} {zk : Int} (hS : ab_Sh sx_sk h) (ok_zk : mi_in zk) (ho : (-2147483648 ≤ (mi_f h 13056) - ((1 : Int)) ∧ (mi_f h 13056) - ((1 : Int)) ≤ 2147483647) ∧ (-2147483648 ≤ ((mi_f h 13056) - ((1 : Int))) - zk ∧ ((mi_f h 13056) - ((1 : Int))) - zk ≤ 2147483647) ∧ (((0 : Int)) ≤ zk) ∧ (((100 : Int)) ≤ zk)) (kon : ∀ h1, me_W [] h h1 → Q none h1) : me_E (d + 2) 147 0 [some (.inr (.inr 107)), some (.inl (zk))] [] h Q := mf_seg (mp_kgle_1 h d zk) (mi_tab_kgle_1) hS (mi_okL_c (trivial) (mi_okL_c (ok_zk) (mi_okL_e))) (mi_okS_e) (mi_al (ho.1) (mi_al (ho.2.1) (mi_al (ho.2.2.1) (mi_al (ho.2.2.2) (mi_al_e))))) (fun h1 W _ hst => mf_ret (M := (2, 0, sb_147)) rfl rfl rfl hst (mi_al_e) (kon h1 W))
set_option maxRecDepth 20000 in
theorem mp_kgle_2 (h : sm_H) (d : Nat) (zk : Int) : mj_path [(147, (2, 0, sb_147)), (16, (3, 0, sb_16)), (49, (2, 1, sb_49)), (148, (2, 0, sb_148))] sx_sk h 26 [8, 8, 0, 0] (d + 2, 147, 0, [some (.inr (.inr 107)), some (.inl (zk))], [], [], []) = some ((d + 2, 147, 8, [some (.inr (.inr 107)), some (.inl (zk))], [], [.inr (.inr (.inl (105, Int.toNat zk, ((mi_f h 13056) - ((1 : Int))) - zk)))], []), [-2147483648 ≤ (mi_f h 13056) - ((1 : Int)) ∧ (mi_f h 13056) - ((1 : Int)) ≤ 2147483647, -2147483648 ≤ ((mi_f h 13056) - ((1 : Int))) - zk ∧ ((mi_f h 13056) - ((1 : Int))) - zk ≤ 2147483647, ((0 : Int)) ≤ zk, zk < ((100 : Int)), 0 ≤ zk ∧ zk < 100]) := rfl
theorem mi_tab_kgle_2 : ∀ e ∈ ([(147, (2, 0, sb_147)), (16, (3, 0, sb_16)), (49, (2, 1, sb_49)), (148, (2, 0, sb_148))] : mi_T), sc_P e.1 = some e.2 := mi_tb mi_P147 (mi_tb mi_P16 (mi_tb mi_P49 (mi_tb mi_P148 (mi_tb_e))))
set_option maxRecDepth 20000 in
theorem ms_kgle_2 {h : sm_H} {d : Nat} {Q : Option mi_V → sm_H → Prop} {zk : Int} (hS : ab_Sh sx_sk h) (ok_zk : mi_in zk) (ho : (-2147483648 ≤ (mi_f h 13056) - ((1 : Int)) ∧ (mi_f h 13056) - ((1 : Int)) ≤ 2147483647) ∧ (-2147483648 ≤ ((mi_f h 13056) - ((1 : Int))) - zk ∧ ((mi_f h 13056) - ((1 : Int))) - zk ≤ 2147483647) ∧ (((0 : Int)) ≤ zk) ∧ (zk < ((100 : Int))) ∧ (0 ≤ zk ∧ zk < 100)) (kon : ∀ h1, me_W [.inr (.inr (.inl (105, Int.toNat zk, ((mi_f h 13056) - ((1 : Int))) - zk)))] h h1 → Q none h1) : me_E (d + 2) 147 0 [some (.inr (.inr 107)), some (.inl (zk))] [] h Q := mf_seg (mp_kgle_2 h d zk) (mi_tab_kgle_2) hS (mi_okL_c (trivial) (mi_okL_c (ok_zk) (mi_okL_e))) (mi_okS_e) (mi_al (ho.1) (mi_al (ho.2.1) (mi_al (ho.2.2.1) (mi_al (ho.2.2.2.1) (mi_al (ho.2.2.2.2) (mi_al_e)))))) (fun h1 W _ hst => mf_ret (M := (2, 0, sb_147)) rfl rfl rfl hst (mi_al_e) (kon h1 W))
set_option maxRecDepth 20000 in
theorem mt_kgle {h : sm_H} {d : Nat} {Q : Option mi_V → sm_H → Prop} {zk : Int} (hS : ab_Sh sx_sk h) (ok_zk : mi_in zk) (k0 : ((-2147483648) ≤ mi_f h 13056 ∧ mi_f h 13056 ≤ 2147483647) → (zk < ((0 : Int))) → ((-2147483648 ≤ (mi_f h 13056) - ((1 : Int)) ∧ (mi_f h 13056) - ((1 : Int)) ≤ 2147483647) ∧ (-2147483648 ≤ ((mi_f h 13056) - ((1 : Int))) - zk ∧ ((mi_f h 13056) - ((1 : Int))) - zk ≤ 2147483647)) ∧ (∀ h1, ab_Sh sx_sk h1 → ab_Fr [] h h1 → Q none h1)) (k1 : ((-2147483648) ≤ mi_f h 13056 ∧ mi_f h 13056 ≤ 2147483647) → (((0 : Int)) ≤ zk) → (((100 : Int)) ≤ zk) → ((-2147483648 ≤ (mi_f h 13056) - ((1 : Int)) ∧ (mi_f h 13056) - ((1 : Int)) ≤ 2147483647) ∧ (-2147483648 ≤ ((mi_f h 13056) - ((1 : Int))) - zk ∧ ((mi_f h 13056) - ((1 : Int))) - zk ≤ 2147483647)) ∧ (∀ h1, ab_Sh sx_sk h1 → ab_Fr [] h h1 → Q none h1)) (k2 : ((-2147483648) ≤ mi_f h 13056 ∧ mi_f h 13056 ≤ 2147483647) → (((0 : Int)) ≤ zk) → (zk < ((100 : Int))) → ((-2147483648 ≤ (mi_f h 13056) - ((1 : Int)) ∧ (mi_f h 13056) - ((1 : Int)) ≤ 2147483647) ∧ (-2147483648 ≤ ((mi_f h 13056) - ((1 : Int))) - zk ∧ ((mi_f h 13056) - ((1 : Int))) - zk ≤ 2147483647) ∧ (0 ≤ zk ∧ zk < 100)) ∧ (∀ h1, ab_Sh sx_sk h1 → (∀ i, mi_a h1 105 i = if i = Int.toNat zk then ((mi_f h 13056) - ((1 : Int))) - zk else (mi_a h 105 i)) → ab_Fr [(13440, 13441)] h h1 → Q none h1)) : me_E (d + 2) 147 0 [some (.inr (.inr 107)), some (.inl (zk))] [] h Q := Or.elim (mi_em .lt (zk) (((0 : Int)))) (fun c0 => ms_kgle_0 hS ok_zk ⟨(k0 (me_fb hS rfl) c0).1.1, (k0 (me_fb hS rfl) c0).1.2, c0⟩ (fun h1 W => (k0 (me_fb hS rfl) c0).2 h1 W.1 (W.2.2.2.2.2 _ rfl))) (fun c0 => Or.elim (mi_em .ge (zk) (((100 : Int)))) (fun c1 => ms_kgle_1 hS ok_zk ⟨(k1 (me_fb hS rfl) c0 c1).1.1, (k1 (me_fb hS rfl) c0 c1).1.2, c0, c1⟩ (fun h1 W => (k1 (me_fb hS rfl) c0 c1).2 h1 W.1 (W.2.2.2.2.2 _ rfl))) (fun c1 => ms_kgle_2 hS ok_zk ⟨(k2 (me_fb hS rfl) c0 c1).1.1, (k2 (me_fb hS rfl) c0 c1).1.2.1, c0, c1, (k2 (me_fb hS rfl) c0 c1).1.2.2⟩ (fun h1 W => (k2 (me_fb hS rfl) c0 c1).2 h1 W.1 (fun i => W.2.2.1 105 i) (W.2.2.2.2.2 _ rfl))))
/-! the class's growing walk: what lies in its rows beside the pure one; draw, enter, leave, how often, which -/
def gq_T (h : sm_H) (T : List (Int × Int × Int)) : Prop := mi_f h 13056 = (T.length : Int) ∧ ∀ k : Nat, k < T.length → ∃ l q, T[k]? = some (mi_a h 103 k + 10 * q, mi_a h 104 k, l) ∧ 0 ≤ mi_a h 103 k ∧ mi_a h 103 k < 10
def gq_R (h : sm_H) (s : gm_S) : Prop := gq_T h (gm_T s) ∧ mx_l h 13702 = gm_X s ∧ mi_f h 13703 = gm_F s ∧ gm_len s ≤ 100 ∧ -(gm_len s) ≤ gm_F s ∧ gm_F s ≤ 20
def gq_W : List (Nat × Nat) := [(13056, 13057), (13184, 13185), (13312, 13313), (13440, 13441), (13699, 13704)]
def gq_w (wr : List (Nat × Nat)) : Bool := ab_in wr 13056 || ab_in wr 13184 || ab_in wr 13312
section CW0
variable {h h' : sm_H} {s : gm_S} {d : Nat} {wr : List (Nat × Nat)}
theorem gq_T_fr {T : List (Int × Int × Int)} (hT : gq_T h T) (hF : ab_Fr wr h h') (hS : ab_Sh sx_sk h) (w1 : gq_w wr = false) : gq_T h' T := by
  unfold gq_w at w1
  simp only [Bool.or_eq_false_iff] at w1
  have e1 : mi_f h' 13056 = mi_f h 13056 := me_f (c := 13056) hF hS rfl w1.1.1
  have e2 : ∀ i, mi_a h' 103 i = mi_a h 103 i := fun i => me_a (k := 103) hF hS rfl w1.1.2
  have e3 : ∀ i, mi_a h' 104 i = mi_a h 104 i := fun i => me_a (k := 104) hF hS rfl w1.2
  unfold gq_T at hT ⊢
  simp only [e1, e2, e3]
  exact hT
theorem gq_R_fr (hR : gq_R h s) (hF : ab_Fr wr h h') (hS : ab_Sh sx_sk h) (w1 : gq_w wr = false) (w2 : ab_in wr 13702 = false) (w3 : ab_in wr 13703 = false) : gq_R h' s := by
  obtain ⟨r1, r2, r3, r4⟩ := hR
  exact ⟨gq_T_fr r1 hF hS w1, (me_l (c := 13702) hF hS rfl w2).trans r2, (me_f (c := 13703) hF hS rfl w3).trans r3, r4⟩
/-- only what is counted of a state matters, but for its nodes -/
theorem gq_R_D {t : gm_S} (hR : gq_R h s) (e1 : gm_T t = gm_T s) (e2 : gm_X t = gm_X s) (e3 : gm_F t = gm_F s) : gq_R h t := by
  unfold gq_R gm_len at hR ⊢
  rw [e1, e2, e3]
  exact hR
theorem me_gdraw {zn : Int} (hS : ab_Sh sx_sk h) (h0 : 0 < zn) (h1 : zn ≤ 2147483647) : me_E (d + 1) 123 0 [some (.inr (.inr 107)), some (.inl zn)] [] h (fun w h' => ab_Sh sx_sk h' ∧ ab_Fr [(13702, 13703)] h h' ∧ mx_l h' 13702 = gm_x (mx_l h 13702) ∧ w = some (.inl (gm_v (gm_x (mx_l h 13702)) zn))) := by
  have ok : mi_in zn := ⟨by omega, by omega⟩
  have ey : ((Int32.ofInt zn).toInt64).toInt = zn := by rw [Int32.toInt_toInt64, mi_ti ok]
  refine mt_kgdr hS ok ?_ ?_
  · intro c
    exfalso; omega
  · intro c
    refine ⟨fun e => ?_, fun h1 g1 g2 g3 => ⟨g1, g3, g2, rfl⟩⟩
    rw [e] at ey
    have : (0 : Int64).toInt = 0 := rfl
    omega
/-- a draw beside the pure one -/
theorem gq_R_x {y : Int64} (hR : gq_R h s) (hF : ab_Fr [(13702, 13703)] h h') (hS : ab_Sh sx_sk h) (e : mx_l h' 13702 = gm_x (mx_l h 13702)) (hy : gm_x (gm_X s) = y) : gq_R h' (y, gm_F s, gm_T s, gm_D s, gm_P s) := by
  obtain ⟨r1, r2, r3, r4⟩ := hR
  unfold gq_R gm_len at *
  rw [gm_T_mk, gm_X_mk, gm_F_mk]
  exact ⟨gq_T_fr r1 hF hS rfl, by rw [e, r2, hy], (me_f (c := 13703) hF hS rfl rfl).trans r3, r4⟩
theorem me_gdrawx {zn z : Int} {y : Int64} (hS : ab_Sh sx_sk h) (hR : gq_R h s) (h0 : 0 < zn) (h1 : zn ≤ 2147483647) (hy : gm_x (gm_X s) = y) (hz : gm_v y zn = z) : me_E (d + 1) 123 0 [some (.inr (.inr 107)), some (.inl zn)] [] h (fun w h' => ab_Sh sx_sk h' ∧ ab_Fr [(13702, 13703)] h h' ∧ gq_R h' (y, gm_F s, gm_T s, gm_D s, gm_P s) ∧ w = some (.inl z)) := by
  refine (me_gdraw hS h0 h1).imp (fun w h' hq => ?_)
  obtain ⟨q1, q2, q3, q4⟩ := hq
  refine ⟨q1, q2, gq_R_x hR q2 hS q3 hy, ?_⟩
  rw [q4, hR.2.1, hy, hz]
def gq_en : List (Nat × Nat) := [(13056, 13057), (13184, 13185), (13312, 13313), (13440, 13441), (13699, 13701)]
theorem me_genter {zk zv : Int} (hS : ab_Sh sx_sk h) (hk0 : 0 ≤ zk ∧ zk < 10) (ov : mi_in zv) (h0 : mi_f h 13699 = 0) (h1 : mi_f h 13700 = 0) (hR : gq_R h s) : me_E (d + 2) 116 0 [some (.inr (.inr 107)), some (.inl zk), some (.inl zv), none] [] h (fun w h' => ab_Sh sx_sk h' ∧ ab_Fr gq_en h h' ∧ ((gm_c zk zv s = none ∧ w = some (.inl (-1)) ∧ mi_f h' 13699 = 1 ∧ mi_f h' 13700 = 1) ∨ (∃ t, gm_c zk zv s = some t ∧ w = some (.inl (gm_len s)) ∧ mi_f h' 13699 = 0 ∧ mi_f h' 13700 = 0 ∧ gq_R h' t ∧ ∀ i, mi_a h' 105 i = if i = (gm_T s).length then 0 else mi_a h 105 i))) := by
  obtain ⟨⟨r1, r5⟩, r2, r3, r4, r6, r7⟩ := hR
  have rl : gm_len s = ((gm_T s).length : Int) := rfl
  have ok : mi_in zk := ⟨by omega, by omega⟩
  refine mt_kgen hS ok ov ?_ ?_ ?_ ?_ ?_
  · intro b c1 c2
    exfalso; omega
  · intro b c1 c2
    exfalso; omega
  · intro b c1 c2 c3
    refine ⟨⟨⟨by omega, by omega⟩, ⟨by omega, by omega⟩, by omega, by omega⟩, fun h1' g1 g2 g3 g4 g5 g6 => ?_⟩
    refine ⟨g1, g6.wide (fun c hc => ab_swr_ok (by decide) hc), Or.inr ⟨(gm_X s, gm_F s, gm_T s ++ [(zk + 10 * ((gm_T s).length : Int), zv, gm_D s)], gm_D s, gm_P s), ?_, ?_, (me_f (c := 13699) g6 hS rfl rfl).trans h0, (me_f (c := 13700) g6 hS rfl rfl).trans h1, ?_, ?_⟩⟩
    · unfold gm_c
      rw [if_neg (by omega)]
    · have e : mi_f h 13056 + 1 - 1 = gm_len s := by omega
      rw [e]
    · have el : (gm_T s ++ [(zk + 10 * ((gm_T s).length : Int), zv, gm_D s)]).length = (gm_T s).length + 1 := by rw [List.length_append]; rfl
      unfold gq_R gm_len
      rw [gm_T_mk, gm_X_mk, gm_F_mk]
      refine ⟨⟨by rw [el, g2, r1]; omega, fun k hk => ?_⟩, (me_l (c := 13702) g6 hS rfl rfl).trans r2, (me_f (c := 13703) g6 hS rfl rfl).trans r3, by rw [el]; omega, by rw [el]; omega, r7⟩
      rw [el] at hk
      rw [g3, g4]
      by_cases c : k = (gm_T s).length
      · refine ⟨gm_D s, ((gm_T s).length : Int), ?_⟩
        rw [if_pos (by omega), if_pos (by omega)]
        refine ⟨?_, hk0⟩
        rw [c, List.getElem?_append_right (Nat.le_refl _), Nat.sub_self]
        rfl
      · obtain ⟨l, q, hl⟩ := r5 k (by omega)
        refine ⟨l, q, ?_⟩
        rw [if_neg (by omega), if_neg (by omega), List.getElem?_append_left (by omega)]
        exact hl
    · intro i
      rw [g5]
      have e : Int.toNat (mi_f h 13056) = (gm_T s).length := by omega
      rw [e]
  · intro b c1 c2 c3
    exfalso; omega
  · intro b c1 h1' g1 g2 g3 g4
    refine ⟨g1, g4.wide (fun c hc => ab_swr_ok (by decide) hc), Or.inl ⟨?_, rfl, g2, g3⟩⟩
    unfold gm_c
    rw [if_pos (by omega)]
/-- a node is left: its size is written, no more -/
theorem me_gleave {zk : Int} (hS : ab_Sh sx_sk h) (ok : mi_in zk) : me_E (d + 2) 147 0 [some (.inr (.inr 107)), some (.inl zk)] [] h (fun w h' => w = none ∧ ab_Sh sx_sk h' ∧ ab_Fr [(13440, 13441)] h h') := by
  have k := me_abs (M := (2, 0, sb_147)) (as := [.inr (.inr 107), .inl zk]) xo_467 rfl hS ⟨rfl, me_nv1 ok ok.1 ok.2, trivial⟩ (fun e he => by cases he) (by decide)
  refine (me_E.deep (d' := d + 2) k (by show 2 ≤ d + 2; omega)).imp (fun w h' hq => ⟨?_, hq.1, hq.2.1⟩)
  obtain ⟨-, -, p, -, hp, -⟩ := hq
  unfold mi_res at hp
  rw [if_pos rfl] at hp
  exact hp
theorem me_gleavex {n : Nat} (hS : ab_Sh sx_sk h) (hn : n < 100) (hc0 : 0 ≤ mi_f h 13056) (hc : mi_f h 13056 ≤ 100) : me_E (d + 2) 147 0 [some (.inr (.inr 107)), some (.inl (n : Int))] [] h (fun w h' => w = none ∧ ab_Sh sx_sk h' ∧ ab_Fr [(13440, 13441)] h h' ∧ ∀ i, mi_a h' 105 i = if i = n then mi_f h 13056 - 1 - n else mi_a h 105 i) := by
  refine mt_kgle hS ⟨by omega, by omega⟩ (by intros; exfalso; omega) (by intros; exfalso; omega) ?_
  intro b c1 c2
  refine ⟨⟨⟨by omega, by omega⟩, ⟨by omega, by omega⟩, by omega, by omega⟩, fun h1 g1 g2 g3 => ⟨rfl, g1, g3, ?_⟩⟩
  rw [Int.toNat_natCast] at g2
  exact g2
theorem me_gpairEnds {za zb : Int} (hS : ab_Sh sx_sk h) (oa : mi_in za) (ob : mi_in zb) : me_E (d + 4) 152 0 [some (.inr (.inr 107)), some (.inl za), some (.inl zb)] [] h (fun w h' => w = none ∧ ab_Sh sx_sk h' ∧ ab_Fr [(13184, 13185), (13312, 13313), (13440, 13441)] h h') := by
  have k := me_abs (M := (3, 0, sb_152)) (as := [.inr (.inr 107), .inl za, .inl zb]) xo_476 rfl hS ⟨rfl, me_nv1 oa oa.1 oa.2, me_nv1 ob ob.1 ob.2, trivial⟩ (fun e he => by cases he) (by decide)
  refine (me_E.deep (d' := d + 4) k (by show 4 ≤ d + 4; omega)).imp (fun w h' hq => ⟨?_, hq.1, hq.2.1⟩)
  obtain ⟨-, -, p, -, hp, -⟩ := hq
  unfold mi_res at hp
  rw [if_pos rfl] at hp
  exact hp
/-- how often a part comes -/
theorem me_gtimes {zr zn : Int} (hS : ab_Sh sx_sk h) (hR : gq_R h s) (hz : (zr = 5 ∧ zn = 3) ∨ (zr = 6 ∧ zn = 2)) : me_E (d + 2) 142 0 [some (.inr (.inr 107)), some (.inl zr)] [] h (fun w h' => ab_Sh sx_sk h' ∧ ab_Fr [(13702, 13703)] h h' ∧ gq_R h' (gm_y s) ∧ w = some (.inl (gm_n zn s))) := by
  have ok : mi_in zr := ⟨by omega, by omega⟩
  have e03 : mi_f h 13703 = gm_F s := hR.2.2.1
  obtain ⟨y, hy⟩ : ∃ y, gm_x (gm_X s) = y := ⟨_, rfl⟩
  have go : ∀ zn z : Int, 0 < zn → zn ≤ 3 → ¬ gm_F s < 0 → gm_v y zn = z → ∀ h1, ab_Fr [] h h1 → ∃ Q1, me_E (d + 1) 123 0 [some (.inr (.inr 107)), some (.inl zn)] [] h1 Q1 ∧ ∀ w h2, (∀ x, w = some x → mi_ok x) → Q1 w h2 → me_E (d + 2) 142 25 [some (.inr (.inr 107)), some (.inl zr)] (mi_back w []) h2 (fun w h' => ab_Sh sx_sk h' ∧ ab_Fr [(13702, 13703)] h h' ∧ gq_R h' (gm_y s) ∧ w = some (.inl (gm_n zn s))) := by
    intro zn z n0 n1 nf hz h1 g2
    have e3 := me_nil g2
    subst e3
    refine ⟨_, me_gdrawx hS hR n0 (by omega) hy hz, ?_⟩
    intro w h2 hw hq
    obtain ⟨q1, q2, q3, rfl⟩ := hq
    refine mt_kgtb q1 ok (hw _ rfl) ?_
    intro h3 g3 g4
    have e4 := me_nil g4
    subst e4
    rw [gm_y_1 nf hy, gm_n_1 nf hy hz]
    exact ⟨q1, q2, q3, rfl⟩
  refine mt_kgta hS ok ?_ ?_ ?_
  · intro b c1 c2 h1 g1 g2
    have e : zn = 2 := by omega
    rw [e]
    exact go 2 _ (by decide) (by decide) (by omega) rfl h1 g2
  · intro b c1 c2 h1 g1 g2
    have e : zn = 3 := by omega
    rw [e]
    exact go 3 _ (by decide) (by decide) (by omega) rfl h1 g2
  · intro b c1 h1 g1 g2
    have e3 := me_nil g2
    subst e3
    have nf : gm_F s < 0 := by omega
    rw [gm_y_0 nf, gm_n_0 nf]
    exact ⟨g1, ab_Fr.refl, hR, rfl⟩
end CW0
/-- a form of the class's rows beside the reference's -/
def cg_F (f : Int → Int) (it : Int → Prop) (g : wk_g) (h : sm_H) (F : Int) : Prop := (0 ≤ f F ∧ f F < 70) ∧ mi_a h 63 (f F).toNat = g 129 F.toNat ∧ mi_a h 64 (f F).toNat = g 130 F.toNat ∧ g 130 F.toNat ≤ 6 ∧ ∀ j : Nat, (j : Int) < g 130 F.toNat → (0 ≤ wk_alt g j (g 129 F.toNat) ∧ wk_alt g j (g 129 F.toNat) < 66) ∧ mi_a h 65 (wk_alt g j (g 129 F.toNat)).toNat = g 126 (wk_alt g j (g 129 F.toNat)).toNat ∧ mi_a h 66 (wk_alt g j (g 129 F.toNat)).toNat = g 128 (wk_alt g j (g 129 F.toNat)).toNat ∧ mi_a h 87 (wk_alt g j (g 129 F.toNat)).toNat = g 143 (wk_alt g j (g 129 F.toNat)).toNat ∧ g 143 (wk_alt g j (g 129 F.toNat)).toNat ≤ 1000 ∧ (-1 ≤ g 126 (wk_alt g j (g 129 F.toNat)).toNat ∧ (0 ≤ g 126 (wk_alt g j (g 129 F.toNat)).toNat → it (g 126 (wk_alt g j (g 129 F.toNat)).toNat)))
/-- .. a unit -/
def cg_U (f : Int → Int) (it : Int → Prop) (g : wk_g) (h : sm_H) (u : Int) : Prop := mi_a h 68 u.toNat = g 119 u.toNat ∧ (g 119 u.toNat = 9 → mi_a h 69 u.toNat = g 115 (g 120 u.toNat).toNat ∧ f (wk_rf g u) = g 115 (g 120 u.toNat).toNat) ∧ (g 119 u.toNat = 10 → mi_a h 69 u.toNat = f (g 120 u.toNat)) ∧ (mi_a h 72 u.toNat = if g 122 u.toNat = 0 then 0 else g 122 u.toNat + 4) ∧ (0 ≤ g 122 u.toNat ∧ g 122 u.toNat ≤ 2) ∧ (it u → (mi_a h 74 u.toNat = 1 ↔ 0 ≤ g 124 u.toNat) ∧ -1 ≤ g 125 u.toNat ∧ (0 ≤ g 125 u.toNat → it (g 125 u.toNat)) ∧ (0 ≤ g 124 u.toNat → mi_a h 71 u.toNat = g 124 u.toNat ∧ mi_a h 71 (g 124 u.toNat).toNat = g 125 u.toNat) ∧ (¬ 0 ≤ g 124 u.toNat → mi_a h 71 u.toNat = g 125 u.toNat))
/-- the rows as a whole -/
def cg_G (f : Int → Int) (it : Int → Prop) (g : wk_g) (Y : wk_Y) (kw : Int → Bool) (h : sm_H) : Prop := wk_L g Y ∧ (∀ F, 0 ≤ F → F < wk_f Y → cg_F f it g h F) ∧ (∀ u, 0 ≤ u → u < wk_u Y → cg_U f it g h u) ∧ mi_f h 7698 ≤ 20 ∧ (∀ c : Int, 0 < c → c < 1073741824 → ((∃ l : Nat, (l : Int) < mi_f h 7698 ∧ mi_a h 75 l = c) ↔ kw c = true)) ∧ ∀ c : Int, kw c = true → c < 33554432
def cg_w (wr : List (Nat × Nat)) : Bool := [63, 64, 65, 66, 68, 69, 71, 72, 74, 75, 87].all (fun k => !ab_in wr (k * 128)) && !ab_in wr 7698
theorem cg_G_fr {f : Int → Int} {it : Int → Prop} {g : wk_g} {Y : wk_Y} {kw : Int → Bool} {h h' : sm_H} {wr : List (Nat × Nat)} (hG : cg_G f it g Y kw h) (hF : ab_Fr wr h h') (hS : ab_Sh sx_sk h) (hw : cg_w wr = true) : cg_G f it g Y kw h' := by
  unfold cg_w at hw
  simp only [Bool.and_eq_true] at hw
  have a : ∀ k, k ∈ [63, 64, 65, 66, 68, 69, 71, 72, 74, 75, 87] → ∀ i, mi_a h' k i = mi_a h k i := fun k hk i => by
    have h1 := List.all_eq_true.mp hw.1 k hk
    have h2 : [63, 64, 65, 66, 68, 69, 71, 72, 74, 75, 87].all (fun k => (mx_isA sx_sk k || mx_isB sx_sk k)) = true := by decide
    exact me_a hF hS (List.all_eq_true.mp h2 k hk) (by simpa using h1)
  have f98 : mi_f h' 7698 = mi_f h 7698 := me_f (c := 7698) hF hS rfl (by simpa using hw.2)
  have a63 := a 63 (by decide)
  have a64 := a 64 (by decide)
  have a65 := a 65 (by decide)
  have a66 := a 66 (by decide)
  have a68 := a 68 (by decide)
  have a69 := a 69 (by decide)
  have a71 := a 71 (by decide)
  have a72 := a 72 (by decide)
  have a74 := a 74 (by decide)
  have a75 := a 75 (by decide)
  have a87 := a 87 (by decide)
  unfold cg_G cg_F cg_U at hG ⊢
  simp only [a63, a64, a65, a66, a68, a69, a71, a72, a74, a75, a87, f98]
  exact hG
section CW1
variable {h : sm_H} {s : gm_S} {d : Nat} {f : Int → Int} {it : Int → Prop} {g : wk_g} {F : Int}
theorem cl22 (hS : ab_Sh sx_sk h) (hF : cg_F f it g h F) (hn : wk_alt g (g 130 F.toNat).toNat (g 129 F.toNat) < 0) : ∀ (N j : Nat) (zw zl zb zh : Int), g 130 F.toNat - j = N → zw = zb → mi_in zw → zl = min zh 1000 → mi_in zl → (zh ≤ 1000 ∨ (zh = 1001 ∧ j = 0 ∧ zb = 0)) → mi_in (wk_alt g j (g 129 F.toNat)) → me_E (d + 1) 122 22 [some (.inr (.inr 107)), some (.inl (f F)), some (.inl zw), some (.inl zl), some (.inl (wk_alt g j (g 129 F.toNat))), some (.inl (j : Int))] [] h (fun w h' => h' = h ∧ w = some (.inl (gm_lo g N (wk_alt g j (g 129 F.toNat)) (j : Int) zb zh))) := by
  obtain ⟨⟨f0, f1⟩, f2, f3, f4, f5⟩ := hF
  have of : mi_in (f F) := ⟨by omega, by omega⟩
  intro N
  induction N with
  | zero =>
    intro j zw zl zb zh h1 ew ow el l0 hh oa
    have oj : mi_in (j : Int) := ⟨by omega, by omega⟩
    have ol := l0
    refine mt_kglB hS of ow ol oa oj (by intros; exfalso; omega) (by intros; exfalso; omega) (by intros; exfalso; omega) (by intros; exfalso; omega) (by intros; exfalso; omega) (by intros; exfalso; omega) ?_ ?_ ?_
    · intro c1 c2 c3
      refine ⟨⟨c1, c2⟩, fun h1 g1 g2 => ?_⟩
      have e3 := me_nil g2
      subst e3
      refine mt_kglF g1 of ow ol oa oj (fun h2 r1 r2 => ⟨me_nil r2, ?_⟩)
      rw [gm_lo_0, ew]
    · intro c1 c2 c3 c4
      rw [f3] at c3
      exfalso; omega
    · intro c1 c2 c3 c4
      rw [f3] at c3
      exfalso; omega
  | succ N ih =>
    intro j zw zl zb zh h1 ew ow el l0 hh oa
    have oj : mi_in (j : Int) := ⟨by omega, by omega⟩
    have ol := l0
    obtain ⟨⟨p1, p2⟩, p3, p4, p5, p6, p7⟩ := f5 j (by omega)
    have es := wk_alt_succ g j (g 129 F.toNat)
    have oa2 : mi_in (wk_alt g (j + 1) (g 129 F.toNat)) := by
      rw [es, ← p4]
      exact mi_inT _
    generalize ha : wk_alt g j (g 129 F.toNat) = a at p1 p2 p3 p4 p5 p6 p7 es oa ⊢
    have b87 : mi_in (mi_a h 87 a.toNat) := mi_inT _
    have o87 : -2147483648 ≤ mi_a h 87 a.toNat := b87.1
    rw [gm_lo_s]
    refine mt_kglB hS of ow ol oa oj (by intros; exfalso; omega) (by intros; exfalso; omega) (by intros; exfalso; omega) (by intros; exfalso; omega) (by intros; exfalso; omega) (by intros; exfalso; omega) ?_ ?_ ?_
    · intro c1 c2 c3
      rw [f3] at c3
      exfalso; omega
    · intro c1 c2 c3 c4
      exfalso; omega
    · intro c1 c2 c3 c4
      refine ⟨⟨c1, c2⟩, fun h1 g1 g2 => ?_⟩
      have e3 := me_nil g2
      subst e3
      refine mt_kglC hS of ow ol oa oj (by intros; exfalso; omega) (by intros; exfalso; omega) (by intros; exfalso; omega) (by intros; exfalso; omega) ?_ ?_
      · intro d1 d2 d3
        rw [p5] at d3
        refine ⟨⟨d1, d2⟩, fun h2 g3 g4 => ?_⟩
        have e4 := me_nil g4
        subst e4
        refine mt_kglE hS of ow ol oa oj (by intros; exfalso; omega) (by intros; exfalso; omega) ?_
        intro _ _
        refine ⟨⟨⟨d1, d2⟩, by omega, by omega⟩, fun h3 g5 g6 => ?_⟩
        have e5 := me_nil g6
        subst e5
        rw [p4, ← es]
        by_cases cc : g 143 a.toNat < zh
        · rw [if_pos cc, if_pos cc]
          exact ih (j + 1) zw zl (j : Int) (g 143 a.toNat) (by omega) (by omega) ow (by omega) l0 (by omega) oa2
        · rw [if_neg cc, if_neg cc]
          exact ih (j + 1) zw zl zb zh (by omega) ew ow el l0 (by omega) oa2
      · intro d1 d2 d3
        rw [p5] at d3
        refine ⟨⟨d1, d2⟩, fun h2 g3 g4 => ?_⟩
        have e4 := me_nil g4
        subst e4
        refine mt_kglD hS of ow ol oa oj (by intros; exfalso; omega) (by intros; exfalso; omega) ?_
        intro _ _
        refine ⟨⟨d1, d2⟩, fun h3 g5 g6 => ?_⟩
        have e5 := me_nil g6
        subst e5
        refine mt_kglE hS of oj b87 oa oj (by intros; exfalso; omega) (by intros; exfalso; omega) ?_
        intro _ _
        refine ⟨⟨⟨d1, d2⟩, by omega, by omega⟩, fun h4 g7 g8 => ?_⟩
        have e6 := me_nil g8
        subst e6
        rw [p4, p5, ← es, if_pos (by omega), if_pos (by omega)]
        exact ih (j + 1) (j : Int) (g 143 a.toNat) (j : Int) (g 143 a.toNat) (by omega) rfl oj (by omega) (by rw [← p5]; exact mi_inT _) (Or.inl p6) oa2
theorem me_glowest (hS : ab_Sh sx_sk h) (hF : cg_F f it g h F) (h1 : 1 ≤ g 130 F.toNat) (hn : wk_alt g (g 130 F.toNat).toNat (g 129 F.toNat) < 0) : me_E (d + 1) 122 0 [some (.inr (.inr 107)), some (.inl (f F)), none, none, none, none] [] h (fun w h' => h' = h ∧ w = some (.inl (gm_lo g (g 130 F.toNat).toNat (g 129 F.toNat) 0 0 1001))) := by
  obtain ⟨⟨f0, f1⟩, f2, f3, f4, f5⟩ := id hF
  have of : mi_in (f F) := ⟨by omega, by omega⟩
  refine mt_kglA hS of (by intros; exfalso; omega) (by intros; exfalso; omega) ?_
  intro c1 c2
  refine ⟨⟨by omega, by omega⟩, fun h1' g1 g2 => ?_⟩
  have e3 := me_nil g2
  subst e3
  rw [f2]
  have o9 : mi_in (wk_alt g 0 (g 129 F.toNat)) := by
    show mi_in (g 129 F.toNat)
    rw [← f2]
    exact mi_inT _
  exact cl22 hS hF hn (g 130 F.toNat).toNat 0 0 1000 0 1001 (by omega) rfl ⟨by decide, by decide⟩ (by omega) ⟨by decide, by decide⟩ (Or.inr ⟨rfl, rfl, rfl⟩) o9
/-- which alternative comes -/
theorem me_gchosen (hS : ab_Sh sx_sk h) (hR : gq_R h s) (hF : cg_F f it g h F) (h1 : 1 ≤ g 130 F.toNat) (hn : wk_alt g (g 130 F.toNat).toNat (g 129 F.toNat) < 0) : me_E (d + 2) 121 0 [some (.inr (.inr 107)), some (.inl (f F))] [] h (fun w h' => ab_Sh sx_sk h' ∧ ab_Fr [(13702, 13703)] h h' ∧ gq_R h' (gm_y s) ∧ w = some (.inl (gm_w g F s))) := by
  obtain ⟨⟨f0, f1⟩, f2, f3, f4, f5⟩ := id hF
  have of : mi_in (f F) := ⟨by omega, by omega⟩
  have e03 : mi_f h 13703 = gm_F s := hR.2.2.1
  obtain ⟨y, hy⟩ : ∃ y, gm_x (gm_X s) = y := ⟨_, rfl⟩
  refine mt_kgca hS of (by intros; exfalso; omega) (by intros; exfalso; omega) ?_ ?_
  · intro b c1 c2 c3
    have nf : ¬ gm_F s < 0 := by omega
    obtain ⟨z, hz⟩ : ∃ z, gm_v y (g 130 F.toNat) = z := ⟨_, rfl⟩
    refine ⟨⟨by omega, by omega⟩, fun h1' g1 g2 => ?_⟩
    have e3 := me_nil g2
    subst e3
    rw [f3]
    refine ⟨_, me_gdrawx (d := d) hS hR (by omega) (by omega) hy hz, ?_⟩
    intro w h2 hw hq
    obtain ⟨q1, q2, q3, rfl⟩ := hq
    refine mt_kgcc q1 of (hw _ rfl) ?_
    intro h3 g3 g4
    have e4 := me_nil g4
    subst e4
    rw [gm_y_1 nf hy, gm_w_1 nf hy hz]
    exact ⟨q1, q2, q3, rfl⟩
  · intro b c1 h1' g1 g2
    have e3 := me_nil g2
    subst e3
    have nf : gm_F s < 0 := by omega
    refine ⟨_, me_glowest (d := d) hS hF h1 hn, ?_⟩
    intro w h2 hw hq
    obtain ⟨rfl, q4⟩ := hq
    subst q4
    rw [gm_y_0 nf, gm_w_0 nf]
    generalize gm_lo g (g 130 F.toNat).toNat (g 129 F.toNat) 0 0 1001 = z at hw ⊢
    refine mt_kgcb hS of (hw _ rfl) ?_
    intro h3 g3 g4
    have e4 := me_nil g4
    subst e4
    exact ⟨g3, ab_Fr.refl, hR, rfl⟩
theorem ga12 (hS : ab_Sh sx_sk h) (hF : cg_F f it g h F) {zw : Int} (w0 : 0 ≤ zw) (w1 : zw < g 130 F.toNat) : ∀ (N j : Nat), zw - j = N → mi_in (wk_alt g j (g 129 F.toNat)) → me_E (d + 1) 127 12 [some (.inr (.inr 60)), some (.inl (f F)), some (.inl zw), some (.inl (wk_alt g j (g 129 F.toNat))), some (.inl (j : Int))] [] h (fun w h' => h' = h ∧ w = some (.inl (wk_alt g zw.toNat (g 129 F.toNat)))) := by
  obtain ⟨⟨f0, f1⟩, f2, f3, f4, f5⟩ := hF
  have of : mi_in (f F) := ⟨by omega, by omega⟩
  have ow : mi_in zw := ⟨by omega, by omega⟩
  intro N
  induction N with
  | zero =>
    intro j h1 oa
    have oj : mi_in (j : Int) := ⟨by omega, by omega⟩
    refine mt_kgaB hS of ow oa oj ?_ (by intros; exfalso; omega) (by intros; exfalso; omega) (by intros; exfalso; omega) (by intros; exfalso; omega)
    intro c1 h1' g1 g2
    have e : zw.toNat = j := by omega
    exact ⟨me_nil g2, by rw [e]⟩
  | succ N ih =>
    intro j h1 oa
    have oj : mi_in (j : Int) := ⟨by omega, by omega⟩
    obtain ⟨⟨p1, p2⟩, p3, p4, -⟩ := f5 j (by omega)
    have es := wk_alt_succ g j (g 129 F.toNat)
    have oa2 : mi_in (wk_alt g (j + 1) (g 129 F.toNat)) := by
      rw [es, ← p4]
      exact mi_inT _
    have key := ih (j + 1) (by omega) oa2
    rw [es] at key
    generalize wk_alt g j (g 129 F.toNat) = a at p1 p2 p4 oa key ⊢
    refine mt_kgaB hS of ow oa oj (by intros; exfalso; omega) (by intros; exfalso; omega) (by intros; exfalso; omega) (by intros; exfalso; omega) ?_
    intro c1 c2 c3 c4
    refine ⟨⟨⟨by omega, by omega⟩, by omega, by omega⟩, fun h1' g1 g2 => ?_⟩
    have e3 := me_nil g2
    subst e3
    rw [p4]
    exact key
theorem me_galt (hS : ab_Sh sx_sk h) (hF : cg_F f it g h F) {zw : Int} (w0 : 0 ≤ zw) (w1 : zw < g 130 F.toNat) : me_E (d + 1) 127 0 [some (.inr (.inr 60)), some (.inl (f F)), some (.inl zw), none, none] [] h (fun w h' => h' = h ∧ w = some (.inl (wk_alt g zw.toNat (g 129 F.toNat)))) := by
  obtain ⟨⟨f0, f1⟩, f2, f3, f4, f5⟩ := id hF
  have of : mi_in (f F) := ⟨by omega, by omega⟩
  have ow : mi_in zw := ⟨by omega, by omega⟩
  refine mt_kgaA hS of ow (by intros; exfalso; omega) (by intros; exfalso; omega) ?_
  intro c1 c2
  refine ⟨⟨by omega, by omega⟩, fun h1' g1 g2 => ?_⟩
  have e3 := me_nil g2
  subst e3
  rw [f2]
  have o9 : mi_in (wk_alt g 0 (g 129 F.toNat)) := by
    show mi_in (g 129 F.toNat)
    rw [← f2]
    exact mi_inT _
  exact ga12 hS hF w0 w1 zw.toNat 0 (by omega) o9
end CW1
/-! the class's names, and what a leaf gives -/
section CW2
theorem cn_n {z : Int} (h0 : 0 ≤ z) (h1 : z < 2147483648) : ((Int32.ofInt z).toBitVec.toNat : Int) = z := by
  have e2 : (Int32.ofInt z).toBitVec.toInt = z := mi_ti (z := z) ⟨by omega, by omega⟩
  have e3 := BitVec.toInt_eq_toNat_cond (Int32.ofInt z).toBitVec
  have e4 := (Int32.ofInt z).toBitVec.isLt
  split at e3 <;> omega
theorem cn_or {zv y : Int32} {v a k : Nat} (hv : zv.toBitVec.toNat = v) (hk : v < 2 ^ k) (hy : y.toBitVec.toNat = a * 2 ^ k) (hb : v + a * 2 ^ k < 2147483648) : (zv ||| y).toInt = ((v + a * 2 ^ k : Nat) : Int) := by
  have e : (zv ||| y).toBitVec.toNat = v + a * 2 ^ k := by rw [Int32.toBitVec_or, BitVec.toNat_or, hv, hy, Nat.or_comm, ← Nat.shiftLeft_eq, ← Nat.shiftLeft_add_eq_or_of_lt hk, Nat.shiftLeft_eq, Nat.add_comm]
  show (zv ||| y).toBitVec.toInt = _
  rw [BitVec.toInt_eq_toNat_of_lt (by rw [e]; omega), e]
variable {h : sm_H} {s : gm_S} {d : Nat} {f : Int → Int} {it : Int → Prop} {g : wk_g} {Y : wk_Y} {kw : Int → Bool}
def cn_Q (h0 : sm_H) (s : gm_S) (v : Int) (w : Option mi_V) (h' : sm_H) : Prop := ab_Sh sx_sk h' ∧ ab_Fr [(13702, 13703)] h0 h' ∧ gq_R h' s ∧ w = some (.inl v)
/-- z behind it as long as it is a keyword -/
theorem cn39 {h0 : sm_H} (hS0 : ab_Sh sx_sk h0) (hG : cg_G f it g Y kw h0) {zl : Int} (ol : mi_in zl) : ∀ (m n : Nat) (v : Nat) (h : sm_H) (s : gm_S), 7 ≤ m + n → 1 ≤ n → n ≤ 6 → 0 < v → v < 2 ^ (5 * n) → (n = 6 → 33554432 ≤ v) → ab_Sh sx_sk h → ab_Fr [(13702, 13703)] h0 h → gq_R h s → me_E (d + 2) 134 39 [some (.inr (.inr 107)), some (.inl zl), some (.inl (v : Int)), some (.inl (n : Int))] [] h (cn_Q h0 s (gm_zs kw m n (v : Int))) := by
  intro m
  induction m with
  | zero => intro n v h s a1 a2 a3; omega
  | succ m ih =>
    intro n v h s a1 a2 a3 a4 a5 a6 hS hF hR
    have hle : (2 : Nat) ^ (5 * n) ≤ 2 ^ 30 := Nat.pow_le_pow_right (by decide) (by omega)
    have on : mi_in (n : Int) := ⟨by omega, by omega⟩
    have ov : mi_in (v : Int) := ⟨by omega, by omega⟩
    have hG1 : cg_G f it g Y kw h := cg_G_fr hG hF hS0 rfl
    obtain ⟨-, -, -, g1, g2, g3⟩ := hG1
    unfold gm_zs
    refine mt_kgnE hS ol ov on ?_ ?_
    · intro c1 h1 r1 r2
      have e3 := me_nil r2
      subst e3
      rw [if_neg (fun q => by have := g3 _ q; have := a6 (by omega); omega)]
      exact ⟨r1, hF, hR, rfl⟩
    · intro c1 h1 r1 r2
      have e3 := me_nil r2
      subst e3
      refine ⟨_, me_gliteral (d := d) hS ov g1, ?_⟩
      intro w h2 hw hq
      obtain ⟨rfl, z, rfl, hz⟩ := hq
      have k := g2 (v : Int) (by omega) (by omega)
      refine mt_kgnF hS ol ov on (hw _ rfl) ?_ ?_
      · intro c2 h3 s1 s2
        have e4 := me_nil s2
        subst e4
        have hn : ¬ kw (v : Int) = true := fun q => by
          obtain ⟨l, l1, l2⟩ := k.mpr q
          rcases hz with ⟨z1, -⟩ | ⟨-, z2⟩
          · omega
          · exact z2 l l1 l2
        rw [if_neg hn]
        exact ⟨s1, hF, hR, rfl⟩
      · intro c2
        have hy : kw (v : Int) = true := by
          rcases hz with ⟨z1, z2, z3, -⟩ | ⟨z1, -⟩
          · exact k.mp ⟨z.toNat, by omega, z3⟩
          · exact absurd z1 c2
        rw [if_pos hy]
        refine ⟨⟨⟨by omega, by omega⟩, by omega, by omega⟩, fun h3 s1 s2 => ?_⟩
        have e4 := me_nil s2
        subst e4
        have hn5 : n = 1 ∨ n = 2 ∨ n = 3 ∨ n = 4 ∨ n = 5 := by omega
        have hs : (Int32.ofInt ((Int32.ofInt ((26 : Int)) <<< (Int32.ofInt (((5 : Int)) * (n : Int)) &&& 31)).toInt)).toBitVec.toNat = 26 * 2 ^ (5 * n) := by
          rcases hn5 with rfl | rfl | rfl | rfl | rfl <;> decide
        have hv : (Int32.ofInt (v : Int)).toBitVec.toNat = v := by have := cn_n (z := (v : Int)) (by omega) (by omega); omega
        have hb : v + 26 * 2 ^ (5 * n) < 2 ^ (5 * (n + 1)) := by
          rw [Nat.mul_add, Nat.pow_add]
          have := Nat.two_pow_pos (5 * n)
          omega
        have hb2 : (2 : Nat) ^ (5 * (n + 1)) ≤ 2 ^ 30 := Nat.pow_le_pow_right (by decide) (by omega)
        rw [cn_or hv a5 hs (by omega)]
        have ev : ((v + 26 * 2 ^ (5 * n) : Nat) : Int) = (v : Int) + 26 * 32 ^ n := by
          rw [← gx_32]
          push_cast
          rfl
        have key := ih (n + 1) (v + 26 * 2 ^ (5 * n)) _ s (by omega) (by omega) (by omega) (by omega) hb (fun e => by
          have e5 : n = 5 := by omega
          rw [e5]
          omega) hS hF hR
        rw [ev] at key
        rw [ev]
        exact key
/-- the letters -/
theorem cn12 {h0 : sm_H} (hS0 : ab_Sh sx_sk h0) (hG : cg_G f it g Y kw h0) {L : Nat} (l0 : 1 ≤ L) (l1 : L ≤ 3) : ∀ (m n : Nat) (v : Nat) (h : sm_H) (s : gm_S), n + m = L → v < 2 ^ (5 * n) → (1 ≤ n → 0 < v) → ab_Sh sx_sk h → ab_Fr [(13702, 13703)] h0 h → gq_R h s → me_E (d + 2) 134 12 [some (.inr (.inr 107)), some (.inl (L : Int)), some (.inl (v : Int)), some (.inl (n : Int))] [] h (cn_Q h0 ((gm_ls m n (gm_X s) (v : Int)).2, gm_F s, gm_T s, gm_D s, gm_P s) (gm_zs kw 7 L (gm_ls m n (gm_X s) (v : Int)).1)) := by
  have ol : mi_in (L : Int) := ⟨by omega, by omega⟩
  intro m
  induction m with
  | zero =>
    intro n v h s a1 a2 a3 hS hF hR
    have e : n = L := by omega
    subst e
    have hle : (2 : Nat) ^ (5 * n) ≤ 2 ^ 30 := Nat.pow_le_pow_right (by decide) (by omega)
    have ov : mi_in (v : Int) := ⟨by omega, by omega⟩
    rw [gm_ls_0]
    refine mt_kgnC hS ol ov ol ?_ (by intros; exfalso; omega)
    intro c1 h1 r1 r2
    have e3 := me_nil r2
    subst e3
    exact cn39 hS0 hG ol 7 n v h1 s (by omega) (by omega) (by omega) (a3 l0) a2 (fun e => by omega) hS hF hR
  | succ m ih =>
    intro n v h s a1 a2 a3 hS hF hR
    have hle : (2 : Nat) ^ (5 * n) ≤ 2 ^ 30 := Nat.pow_le_pow_right (by decide) (by omega)
    have ov : mi_in (v : Int) := ⟨by omega, by omega⟩
    have on : mi_in (n : Int) := ⟨by omega, by omega⟩
    refine mt_kgnC hS ol ov on (by intros; exfalso; omega) ?_
    intro c1 h1 r1 r2
    have e3 := me_nil r2
    subst e3
    obtain ⟨y, hy⟩ : ∃ y, gm_x (gm_X s) = y := ⟨_, rfl⟩
    obtain ⟨z, hz⟩ : ∃ z, gm_v y 3 = z := ⟨_, rfl⟩
    have hzb := gm_vbt y 3 (by decide) (by decide)
    rw [hz] at hzb
    refine ⟨_, me_gdrawx (d := d) hS hR (by decide) (by decide) hy hz, ?_⟩
    intro w h2 hw hq
    obtain ⟨q1, q2, q3, rfl⟩ := hq
    rw [gm_ls_s, hy, hz]
    refine mt_kgnD q1 ol ov on (hw _ rfl) ⟨by decide, by decide⟩ ov ?_
    refine ⟨⟨⟨by omega, by omega⟩, ⟨by omega, by omega⟩, by omega, by omega⟩, fun h3 s1 s2 => ?_⟩
    have e4 := me_nil s2
    subst e4
    have hn3 : n = 0 ∨ n = 1 ∨ n = 2 := by omega
    have hz3 : z = 0 ∨ z = 1 ∨ z = 2 := by omega
    have hs : (Int32.ofInt ((Int32.ofInt (((1 : Int)) + z) <<< (Int32.ofInt (((5 : Int)) * (n : Int)) &&& 31)).toInt)).toBitVec.toNat = (1 + z).toNat * 2 ^ (5 * n) := by
      rcases hn3 with rfl | rfl | rfl <;> rcases hz3 with rfl | rfl | rfl <;> decide
    have hv : (Int32.ofInt (v : Int)).toBitVec.toNat = v := by have := cn_n (z := (v : Int)) (by omega) (by omega); omega
    have hp := Nat.two_pow_pos (5 * n)
    have hm3 : (1 + z).toNat * 2 ^ (5 * n) ≤ 3 * 2 ^ (5 * n) := Nat.mul_le_mul_right _ (by omega)
    have hm1 : 1 * 2 ^ (5 * n) ≤ (1 + z).toNat * 2 ^ (5 * n) := Nat.mul_le_mul_right _ (by omega)
    have hb : v + (1 + z).toNat * 2 ^ (5 * n) < 2 ^ (5 * (n + 1)) := by
      rw [Nat.mul_add, Nat.pow_add]
      omega
    have hb2 : (2 : Nat) ^ (5 * (n + 1)) ≤ 2 ^ 30 := Nat.pow_le_pow_right (by decide) (by omega)
    rw [cn_or hv a2 hs (by omega)]
    have ev : ((v + (1 + z).toNat * 2 ^ (5 * n) : Nat) : Int) = (v : Int) + (1 + z) * 32 ^ n := by
      rw [← gx_32, Int.natCast_add, Int.natCast_mul, Int.toNat_of_nonneg (by omega)]
    have key := ih (n + 1) (v + (1 + z).toNat * 2 ^ (5 * n)) h3 (y, gm_F s, gm_T s, gm_D s, gm_P s) (by omega) hb (fun _ => by omega) q1 (hF.trans q2) q3
    rw [ev, gm_X_mk, gm_F_mk, gm_T_mk, gm_D_mk, gm_P_mk] at key
    rw [ev]
    exact key
theorem me_gname (hS : ab_Sh sx_sk h) (hG : cg_G f it g Y kw h) (hR : gq_R h s) : me_E (d + 2) 134 0 [some (.inr (.inr 107)), none, none, none] [] h (cn_Q h ((gm_nm kw (gm_X s)).2, gm_F s, gm_T s, gm_D s, gm_P s) (gm_nm kw (gm_X s)).1) := by
  obtain ⟨y, hy⟩ : ∃ y, gm_x (gm_X s) = y := ⟨_, rfl⟩
  obtain ⟨z, hz⟩ : ∃ z, gm_v y 3 = z := ⟨_, rfl⟩
  have hzb := gm_vbt y 3 (by decide) (by decide)
  rw [hz] at hzb
  rw [gm_nm_e hy hz]
  refine mt_kgnA hS ?_
  intro h1 g1 g2
  have e3 := me_nil g2
  subst e3
  refine ⟨_, me_gdrawx (d := d) hS hR (by decide) (by decide) hy hz, ?_⟩
  intro w h2 hw hq
  obtain ⟨q1, q2, q3, rfl⟩ := hq
  refine mt_kgnB q1 (hw _ rfl) ⟨by decide, by decide⟩ ?_
  refine ⟨⟨by omega, by omega⟩, fun h3 s1 s2 => ?_⟩
  have e4 := me_nil s2
  subst e4
  have key := cn12 (d := d) hS hG (L := (1 + z).toNat) (by omega) (by omega) (1 + z).toNat 0 0 h3 (y, gm_F s, gm_T s, gm_D s, gm_P s) (by omega) (by decide) (fun e => by omega) q1 q2 q3
  have eL : (((1 + z).toNat : Nat) : Int) = 1 + z := by omega
  have e1 : ((0 : Nat) : Int) = 0 := rfl
  rw [gm_X_mk, gm_F_mk, gm_T_mk, gm_D_mk, gm_P_mk, eL, e1] at key
  exact key
end CW2
/-! the class's tree: what is exchanged -/
def rv_o (K : Nat → Int) (a b : Nat) (i : Nat) : Int := if a ≤ i ∧ i < b then K (a + b - 1 - i) else K i
section CX0
variable {d : Nat} {h0 : sm_H}
def tr_W : List (Nat × Nat) := [(13184, 13185), (13312, 13313), (13440, 13441)]
/-- on the way: what lies outside is turned already -/
def rv_m (K : Nat → Int) (a b : Nat) (l r : Int) (i : Nat) : Int := if (a ≤ i ∧ i < b) ∧ ((i : Int) < l ∨ r < i) then K (a + b - 1 - i) else K i
theorem rv_step {K L L' : Nat → Int} {a b : Nat} {l r : Int} (e : ∀ i, L i = rv_m K a b l r i) (h1 : (a : Int) ≤ l) (h2 : l + r = a + b - 1) (h3 : l < r) (e' : ∀ i, L' i = if i = r.toNat then L l.toNat else if i = l.toNat then L r.toNat else L i) : ∀ i, L' i = rv_m K a b (l + 1) (r + (-1)) i := by
  intro i
  rw [e']
  unfold rv_m at e ⊢
  by_cases c1 : i = r.toNat
  · rw [if_pos c1, e, if_neg (by omega), if_pos (by omega)]
    exact congrArg K (by omega)
  · rw [if_neg c1]
    by_cases c2 : i = l.toNat
    · rw [if_pos c2, e, if_neg (by omega), if_pos (by omega)]
      exact congrArg K (by omega)
    · rw [if_neg c2, e]
      by_cases c3 : (a ≤ i ∧ i < b) ∧ ((i : Int) < l ∨ r < i)
      · rw [if_pos c3, if_pos (by omega)]
      · rw [if_neg c3, if_neg (by omega)]
theorem rv_three {K : Nat → Int} {a m n : Nat} (h1 : a ≤ m) (h2 : m ≤ n) {K1 K2 K3 : Nat → Int} (e1 : ∀ i, K1 i = rv_o K a m i) (e2 : ∀ i, K2 i = rv_o K1 m n i) (e3 : ∀ i, K3 i = rv_o K2 a n i) : ∀ i, i < n → K3 i = K (if i < a then i else if i < a + (n - m) then i + (m - a) else i - (n - m)) := by
  intro i hi
  rw [e3]
  unfold rv_o at e1 e2 ⊢
  by_cases c1 : i < a
  · rw [if_pos c1, if_neg (by omega), e2, if_neg (by omega), e1, if_neg (by omega)]
  · rw [if_neg c1, if_pos (by omega), e2]
    by_cases c2 : i < a + (n - m)
    · rw [if_pos c2, if_pos (by omega), e1, if_neg (by omega)]
      exact congrArg K (by omega)
    · rw [if_neg c2, if_neg (by omega), e1, if_pos (by omega)]
      exact congrArg K (by omega)
end CX0
/-! how many nodes stand in each: by their levels -/
def sz : List (Int × Int × Int) → List Int
  | [] => []
  | x :: A => ((A.takeWhile (fun y => decide (x.2.2 < y.2.2))).length : Int) :: sz A
/-- nodes side by side at a level, with all that is in them -/
def fo (D : Int) (A : List (Int × Int × Int)) : Prop := (∀ x ∈ A, D ≤ x.2.2) ∧ ∀ x B, A = x :: B → x.2.2 = D
theorem sz_len : ∀ A : List (Int × Int × Int), (sz A).length = A.length := by
  intro A
  induction A with
  | nil => rfl
  | cons x A ih =>
    show (sz A).length + 1 = A.length + 1
    rw [ih]
theorem fo_nil {D : Int} : fo D [] := ⟨fun x hx => absurd hx List.not_mem_nil, fun x B h => absurd h (by simp)⟩
theorem fo_app {D : Int} {A B : List (Int × Int × Int)} (h1 : fo D A) (h2 : fo D B) : fo D (A ++ B) := by
  refine ⟨fun x hx => ?_, fun x C h => ?_⟩
  · rcases List.mem_append.mp hx with hx | hx
    · exact h1.1 x hx
    · exact h2.1 x hx
  · cases A with
    | nil => exact h2.2 x C h
    | cons y A =>
      rw [List.cons_append] at h
      injection h with h _
      rw [← h]
      exact h1.2 y A rfl
theorem fo_cons {D k v : Int} {A : List (Int × Int × Int)} (h : fo (D + 1) A) : fo D ((k, v, D) :: A) := by
  refine ⟨fun x hx => ?_, fun x B e => ?_⟩
  · rcases List.mem_cons.mp hx with rfl | hx
    · exact Int.le_refl _
    · have := h.1 x hx
      omega
  · injection e with e _
    rw [← e]
theorem fo_one {D k v : Int} : fo D [(k, v, D)] := fo_cons fo_nil
theorem tw_app {D : Int} {B : List (Int × Int × Int)} (hB : fo D B) {l : Int} (hl : D ≤ l) : ∀ A : List (Int × Int × Int), ((A ++ B).takeWhile (fun y => decide (l < y.2.2))) = A.takeWhile (fun y => decide (l < y.2.2)) := by
  intro A
  induction A with
  | nil =>
    cases B with
    | nil => rfl
    | cons x B =>
      have := hB.2 x B rfl
      rw [List.nil_append, List.takeWhile_cons, if_neg (by rw [decide_eq_true_eq]; omega)]
      rfl
  | cons x A ih =>
    rw [List.cons_append, List.takeWhile_cons, List.takeWhile_cons, ih]
theorem sz_app {D : Int} {B : List (Int × Int × Int)} (hB : fo D B) : ∀ A : List (Int × Int × Int), (∀ x ∈ A, D ≤ x.2.2) → sz (A ++ B) = sz A ++ sz B := by
  intro A
  induction A with
  | nil => intro _; rfl
  | cons x A ih =>
    intro hA
    show (((A ++ B).takeWhile (fun y => decide (x.2.2 < y.2.2))).length : Int) :: sz (A ++ B) = ((A.takeWhile (fun y => decide (x.2.2 < y.2.2))).length : Int) :: (sz A ++ sz B)
    rw [tw_app hB (hA x List.mem_cons_self), ih (fun y hy => hA y (List.mem_cons_of_mem _ hy))]
theorem tw_all {l : Int} : ∀ A : List (Int × Int × Int), (∀ y ∈ A, l < y.2.2) → A.takeWhile (fun y => decide (l < y.2.2)) = A := by
  intro A
  induction A with
  | nil => intro _; rfl
  | cons x A ih =>
    intro h
    rw [List.takeWhile_cons, if_pos (by rw [decide_eq_true_eq]; exact h x List.mem_cons_self), ih (fun y hy => h y (List.mem_cons_of_mem _ hy))]
theorem sz_cons {D k v : Int} {A : List (Int × Int × Int)} (h : fo (D + 1) A) : sz ((k, v, D) :: A) = (A.length : Int) :: sz A := by
  show ((A.takeWhile (fun y => decide (D < y.2.2))).length : Int) :: sz A = _
  rw [tw_all A (fun y hy => by have := h.1 y hy; omega)]
/-- .. in the row of the sizes of the class's fresh tree, from the m-th on -/
def gz (h : sm_H) (m : Nat) (A : List (Int × Int × Int)) : Prop := ∀ k : Nat, k < A.length → (sz A)[k]? = some (mi_a h 105 (m + k))
theorem gz_nil {h : sm_H} {m : Nat} : gz h m [] := fun k hk => absurd hk (Nat.not_lt_zero _)
theorem gz_eq {h h' : sm_H} {m : Nat} {A : List (Int × Int × Int)} (hz : gz h m A) (he : ∀ k, m ≤ k → k < m + A.length → mi_a h' 105 k = mi_a h 105 k) : gz h' m A := fun k hk => by
  rw [he (m + k) (by omega) (by omega)]
  exact hz k hk
theorem gz_app {h : sm_H} {m : Nat} {D : Int} {A B : List (Int × Int × Int)} (fA : fo D A) (fB : fo D B) (h1 : gz h m A) (h2 : gz h (m + A.length) B) : gz h m (A ++ B) := fun k hk => by
  rw [sz_app fB A fA.1]
  by_cases c : k < A.length
  · rw [List.getElem?_append_left (by rw [sz_len]; exact c)]
    exact h1 k c
  · rw [List.length_append] at hk
    rw [List.getElem?_append_right (by rw [sz_len]; omega), sz_len]
    have := h2 (k - A.length) (by omega)
    rw [this]
    exact congrArg (fun i => some (mi_a h 105 i)) (by omega)
theorem gz_cons {h : sm_H} {m : Nat} {D k v : Int} {A : List (Int × Int × Int)} (fA : fo (D + 1) A) (h1 : gz h (m + 1) A) (e : mi_a h 105 m = (A.length : Int)) : gz h m ((k, v, D) :: A) := fun j hj => by
  rw [sz_cons fA]
  cases j with
  | zero =>
    show some (A.length : Int) = some (mi_a h 105 (m + 0))
    rw [Nat.add_zero, e]
  | succ j =>
    show (sz A)[j]? = some (mi_a h 105 (m + (j + 1)))
    rw [List.length_cons] at hj
    rw [h1 j (by omega)]
    exact congrArg (fun i => some (mi_a h 105 i)) (by omega)
/-! the rows of a tree are turned, with the sizes -/
section CXS
variable {d : Nat} {h0 : sm_H}
theorem tr7s {zf zt : Int} {K V S : Nat → Int} (f0 : 0 ≤ zf) (ft : zf ≤ zt) (t1 : zt ≤ 100) : ∀ (N : Nat) (zl zr : Int) (h : sm_H), zr - zl < N → zf ≤ zl → zl + zr = zf + zt - 1 → -1 ≤ zr → ab_Sh sx_sk h → ab_Fr tr_W h0 h → (∀ i, mi_a h 103 i = rv_m K zf.toNat zt.toNat zl zr i) → (∀ i, mi_a h 104 i = rv_m V zf.toNat zt.toNat zl zr i) → (∀ i, mi_a h 105 i = rv_m S zf.toNat zt.toNat zl zr i) → me_E (d + 2) 154 7 [some (.inr (.inr 102)), some (.inl zf), some (.inl zt), some (.inl zl), some (.inl zr)] [] h (fun w h' => w = none ∧ ab_Sh sx_sk h' ∧ ab_Fr tr_W h0 h' ∧ (∀ i, mi_a h' 103 i = rv_o K zf.toNat zt.toNat i) ∧ (∀ i, mi_a h' 104 i = rv_o V zf.toNat zt.toNat i) ∧ ∀ i, mi_a h' 105 i = rv_o S zf.toNat zt.toNat i) := by
  have of : mi_in zf := ⟨by omega, by omega⟩
  have ot : mi_in zt := ⟨by omega, by omega⟩
  have fin : ∀ (K : Nat → Int) (zl zr : Int), zf ≤ zl → zl + zr = zf + zt - 1 → zr ≤ zl → ∀ i, rv_m K zf.toNat zt.toNat zl zr i = rv_o K zf.toNat zt.toNat i := by
    intro K zl zr h1 h2 h3 i
    unfold rv_m rv_o
    by_cases c : zf.toNat ≤ i ∧ i < zt.toNat
    · rw [if_pos c]
      by_cases c2 : (i : Int) < zl ∨ zr < i
      · rw [if_pos ⟨c, c2⟩]
      · rw [if_neg (fun q => c2 q.2)]
        exact congrArg K (by omega)
    · rw [if_neg c, if_neg (fun q => c q.1)]
  intro N
  induction N with
  | zero =>
    intro zl zr h hN h1 h2 hr hS hF e1 e2 e3
    have ol : mi_in zl := ⟨by omega, by omega⟩
    have or_ : mi_in zr := ⟨by omega, by omega⟩
    refine mt_kgxB hS of ot ol or_ ?_ (by intros; exfalso; omega) (by intros; exfalso; omega) (by intros; exfalso; omega) (by intros; exfalso; omega) (by intros; exfalso; omega) (by intros; exfalso; omega) (by intros; exfalso; omega) (by intros; exfalso; omega) (by intros; exfalso; omega)
    intro c h1' g1 g2
    have e := me_nil g2
    subst e
    exact ⟨rfl, g1, hF, fun i => (e1 i).trans (fin K zl zr h1 h2 c i), fun i => (e2 i).trans (fin V zl zr h1 h2 c i), fun i => (e3 i).trans (fin S zl zr h1 h2 c i)⟩
  | succ N ih =>
    intro zl zr h hN h1 h2 hr hS hF e1 e2 e3
    have ol : mi_in zl := ⟨by omega, by omega⟩
    have or_ : mi_in zr := ⟨by omega, by omega⟩
    refine mt_kgxB hS of ot ol or_ ?_ (by intros; exfalso; omega) (by intros; exfalso; omega) (by intros; exfalso; omega) (by intros; exfalso; omega) (by intros; exfalso; omega) (by intros; exfalso; omega) (by intros; exfalso; omega) (by intros; exfalso; omega) ?_
    · intro c h1' g1 g2
      have e := me_nil g2
      subst e
      exact ⟨rfl, g1, hF, fun i => (e1 i).trans (fin K zl zr h1 h2 c i), fun i => (e2 i).trans (fin V zl zr h1 h2 c i), fun i => (e3 i).trans (fin S zl zr h1 h2 c i)⟩
    · intro c1 c2 c3 c4 c5
      refine ⟨⟨⟨by omega, by omega⟩, by omega, by omega⟩, fun ha a1 a2 a3 => ?_⟩
      refine mt_kgxC a1 of ot ol or_ (by intros; exfalso; omega) (by intros; exfalso; omega) (by intros; exfalso; omega) (by intros; exfalso; omega) (by intros; exfalso; omega) (by intros; exfalso; omega) (by intros; exfalso; omega) (by intros; exfalso; omega) ?_
      intro d1 d2 d3 d4
      refine ⟨⟨⟨by omega, by omega⟩, by omega, by omega⟩, fun hb b1 b2 b3 => ?_⟩
      refine mt_kgxD b1 of ot ol or_ (by intros; exfalso; omega) (by intros; exfalso; omega) (by intros; exfalso; omega) (by intros; exfalso; omega) (by intros; exfalso; omega) (by intros; exfalso; omega) (by intros; exfalso; omega) (by intros; exfalso; omega) ?_
      intro p1 p2 p3 p4
      refine ⟨⟨⟨by omega, by omega⟩, ⟨by omega, by omega⟩, ⟨by omega, by omega⟩, by omega, by omega⟩, fun hc k1 k2 k3 => ?_⟩
      have E1 : ∀ i, mi_a hc 103 i = if i = zr.toNat then mi_a h 103 zl.toNat else if i = zl.toNat then mi_a h 103 zr.toNat else mi_a h 103 i := fun i => by
        rw [me_a (k := 103) k3 b1 rfl rfl, me_a (k := 103) b3 a1 rfl rfl, a2]
      have E2 : ∀ i, mi_a hc 104 i = if i = zr.toNat then mi_a h 104 zl.toNat else if i = zl.toNat then mi_a h 104 zr.toNat else mi_a h 104 i := fun i => by
        rw [me_a (k := 104) k3 b1 rfl rfl, b2, me_a (k := 104) a3 hS rfl rfl, me_a (k := 104) a3 hS rfl rfl, me_a (k := 104) a3 hS rfl rfl]
      have s5 : ∀ i, mi_a hb 105 i = mi_a h 105 i := fun i => (me_a (k := 105) b3 a1 rfl rfl).trans (me_a (k := 105) a3 hS rfl rfl)
      have E3 : ∀ i, mi_a hc 105 i = if i = zr.toNat then mi_a h 105 zl.toNat else if i = zl.toNat then mi_a h 105 zr.toNat else mi_a h 105 i := fun i => by
        rw [k2, s5, s5, s5]
      have hF' : ab_Fr tr_W h0 hc := ((hF.trans (a3.wide (fun c hc => ab_swr_ok (by decide) hc))).trans (b3.wide (fun c hc => ab_swr_ok (by decide) hc))).trans (k3.wide (fun c hc => ab_swr_ok (by decide) hc))
      exact ih (zl + 1) (zr + (-1)) hc (by omega) (by omega) (by omega) (by omega) k1 hF' (rv_step e1 (by omega) (by omega) c1 E1) (rv_step e2 (by omega) (by omega) c1 E2) (rv_step e3 (by omega) (by omega) c1 E3)
theorem me_sturn {h : sm_H} {zf zt : Int} (hS : ab_Sh sx_sk h) (f0 : 0 ≤ zf) (ft : zf ≤ zt) (t1 : zt ≤ 100) : me_E (d + 2) 154 0 [some (.inr (.inr 102)), some (.inl zf), some (.inl zt), none, none] [] h (fun w h' => w = none ∧ ab_Sh sx_sk h' ∧ ab_Fr tr_W h h' ∧ (∀ i, mi_a h' 103 i = rv_o (mi_a h 103) zf.toNat zt.toNat i) ∧ (∀ i, mi_a h' 104 i = rv_o (mi_a h 104) zf.toNat zt.toNat i) ∧ ∀ i, mi_a h' 105 i = rv_o (mi_a h 105) zf.toNat zt.toNat i) := by
  have of : mi_in zf := ⟨by omega, by omega⟩
  have ot : mi_in zt := ⟨by omega, by omega⟩
  refine mt_kgxA hS of ot ?_
  refine ⟨⟨by omega, by omega⟩, fun h1 g1 g2 => ?_⟩
  have e := me_nil g2
  subst e
  have st : ∀ (K : Nat → Int) i, K i = rv_m K zf.toNat zt.toNat zf (zt - 1) i := fun K i => by
    unfold rv_m
    rw [if_neg (by omega)]
  exact tr7s f0 ft t1 200 zf (zt - 1) h1 (by omega) (by omega) (by omega) (by omega) g1 ab_Fr.refl (st _) (st _) (st _)
/-- where the k-th one was -/
def ro_i (a m n : Nat) (i : Nat) : Nat := if i < a then i else if i < a + (n - m) then i + (m - a) else i - (n - m)
/-- exchange, of the rows -/
theorem me_sexch {h : sm_H} {a m : Nat} {T : List (Int × Int × Int)} (hS : ab_Sh sx_sk h) (hT : gq_T h T) (h1 : a ≤ m) (h2 : m ≤ T.length) (h3 : T.length ≤ 100) : me_E (d + 3) 153 0 [some (.inr (.inr 102)), some (.inl (a : Int)), some (.inl (m : Int))] [] h (fun w h' => w = none ∧ ab_Sh sx_sk h' ∧ ab_Fr tr_W h h' ∧ gq_T h' (gm_rot a m T) ∧ ∀ i, i < T.length → mi_a h' 105 i = mi_a h 105 (ro_i a m T.length i)) := by
  obtain ⟨t1, t2⟩ := hT
  have oa : mi_in (a : Int) := ⟨by omega, by omega⟩
  have om : mi_in (m : Int) := ⟨by omega, by omega⟩
  refine mt_kgeA hS oa om ?_
  intro hb b1 b2
  have e := me_nil b2
  subst e
  refine ⟨_, me_sturn (d := d) b1 (by omega) (by omega) (by omega), fun w hc hw hq => ?_⟩
  obtain ⟨rfl, c1, c2, c3, c4, c5⟩ := hq
  have n1 : mi_f hc 13056 = T.length := (me_f (c := 13056) c2 b1 rfl rfl).trans t1
  refine mt_kgeB c1 oa om ?_
  intro hd d1 d2
  have e := me_nil d2
  subst e
  rw [n1]
  refine ⟨_, me_sturn (d := d) d1 (by omega) (by omega) (by omega), fun w he hw hq => ?_⟩
  obtain ⟨rfl, e1, e2, e3, e4, e5⟩ := hq
  have n2 : mi_f he 13056 = T.length := (me_f (c := 13056) e2 d1 rfl rfl).trans n1
  refine mt_kgeC e1 oa om ?_
  intro hf f1 f2
  have e := me_nil f2
  subst e
  rw [n2]
  refine ⟨_, me_sturn (d := d) f1 (by omega) (by omega) (by omega), fun w hg hw hq => ?_⟩
  obtain ⟨rfl, k1, k2, k3, k4, k5⟩ := hq
  refine mt_kgeD k1 oa om ?_
  intro hh l1 l2
  have e := me_nil l2
  subst e
  rw [Int.toNat_natCast] at c3 c4 c5 e3 e4 e5 k3 k4 k5
  rw [Int.toNat_natCast] at c3 c4 c5 e3 e4 e5 k3 k4 k5
  have K3 := rv_three h1 h2 c3 e3 k3
  have V3 := rv_three h1 h2 c4 e4 k4
  have S3 := rv_three h1 h2 c5 e5 k5
  have n3 : mi_f hh 13056 = T.length := (me_f (c := 13056) k2 f1 rfl rfl).trans n2
  refine ⟨rfl, l1, (c2.trans e2).trans k2, ?_, fun i hi => S3 i hi⟩
  unfold gq_T
  rw [gm_rot_len]
  refine ⟨n3, fun k hk => ?_⟩
  rw [K3 k hk, V3 k hk, gm_rot_get h1 h2, if_pos hk]
  refine t2 _ ?_
  split
  · omega
  · split <;> omega
/-- the sizes, once two rows of nodes are exchanged -/
theorem gz_rot {h h' : sm_H} {a : Nat} {D : Int} {B C : List (Int × Int × Int)} (fB : fo D B) (fC : fo D C) (zB : gz h a B) (zC : gz h (a + B.length) C) (e : ∀ i, i < a + B.length + C.length → mi_a h' 105 i = mi_a h 105 (ro_i a (a + B.length) (a + B.length + C.length) i)) : gz h' a (C ++ B) := by
  refine gz_app fC fB (fun k hk => ?_) (fun k hk => ?_)
  · rw [zC k hk, e (a + k) (by omega)]
    refine congrArg (fun i => some (mi_a h 105 i)) ?_
    unfold ro_i
    rw [if_neg (by omega), if_pos (by omega)]
    omega
  · rw [zB k hk, e (a + C.length + k) (by omega)]
    refine congrArg (fun i => some (mi_a h 105 i)) ?_
    unfold ro_i
    rw [if_neg (by omega), if_neg (by omega)]
    omega
end CXS
/-- what is appended -/
def pq_A (h0 : sm_H) (s : gm_S) (D : Int) (h : sm_H) (s' : gm_S) : Prop := gm_P s' = gm_P s ∧ ∃ A, gm_T s' = gm_T s ++ A ∧ fo D A ∧ gz h (gm_T s).length A ∧ ∀ k, k < (gm_T s).length → mi_a h 105 k = mi_a h0 105 k
theorem pq_A_refl {h : sm_H} {s : gm_S} {D : Int} : pq_A h s D h s := ⟨rfl, [], (List.append_nil _).symm, fo_nil, gz_nil, fun _ _ => rfl⟩
theorem pq_A_trans {h0 h1 h2 : sm_H} {s s1 s2 : gm_S} {D : Int} (a : pq_A h0 s D h1 s1) (b : pq_A h1 s1 D h2 s2) : pq_A h0 s D h2 s2 := by
  obtain ⟨a1, A, a2, a3, a4, a5⟩ := a
  obtain ⟨b1, B, b2, b3, b4, b5⟩ := b
  have el : (gm_T s1).length = (gm_T s).length + A.length := by rw [a2, List.length_append]
  refine ⟨b1.trans a1, A ++ B, by rw [b2, a2, List.append_assoc], fo_app a3 b3, gz_app a3 b3 (gz_eq a4 (fun k k1 k2 => b5 k (by omega))) (by rw [← el]; exact b4), fun k hk => (b5 k (by omega)).trans (a5 k hk)⟩
theorem pq_A_h {h0 h h' : sm_H} {s s' t : gm_S} {D : Int} (a : pq_A h0 s D h s') (e1 : gm_P t = gm_P s') (e2 : gm_T t = gm_T s') (e3 : ∀ k, k < (gm_T s').length → mi_a h' 105 k = mi_a h 105 k) : pq_A h0 s D h' t := by
  obtain ⟨a1, A, a2, a3, a4, a5⟩ := a
  have el : (gm_T s').length = (gm_T s).length + A.length := by rw [a2, List.length_append]
  exact ⟨e1.trans a1, A, e2.trans a2, a3, gz_eq a4 (fun k k1 k2 => e3 k (by omega)), fun k hk => (e3 k (by omega)).trans (a5 k hk)⟩
/-- a node, with what stands in it, is closed -/
theorem pq_close {h0 h h' : sm_H} {s s' t : gm_S} {D k v : Int} {B : List (Int × Int × Int)} (eP : gm_P t = gm_P s) (eT : gm_T t = gm_T s') (e1 : gm_T s' = gm_T s ++ (k, v, D) :: B) (fB : fo (D + 1) B) (zB : gz h ((gm_T s).length + 1) B) (lo : ∀ i, i < (gm_T s).length → mi_a h 105 i = mi_a h0 105 i) (e5 : ∀ i, mi_a h' 105 i = if i = (gm_T s).length then (B.length : Int) else mi_a h 105 i) : pq_A h0 s D h' t := by
  refine ⟨eP, (k, v, D) :: B, by rw [eT, e1], fo_cons fB, gz_cons fB (gz_eq zB (fun i i1 i2 => ?_)) ?_, fun i hi => ?_⟩
  · rw [e5, if_neg (by omega)]
  · rw [e5, if_pos rfl]
  · rw [e5, if_neg (by omega)]
    exact lo i hi
/-- the state with which the parts begin: of a form that is no choice, of one that is -/
def pq_b (hb hm : sm_H) (s sb : gm_S) (zo : Int) (rest : List wk_E → List wk_E) : Prop := (zo = -1 ∧ (∀ r, rest r = r) ∧ sb = s ∧ hm = hb) ∨ (zo ≠ -1 ∧ zo = gm_len s ∧ (∀ r, rest r = (2, 0, 0) :: r) ∧ gm_D sb = gm_D s + 1 ∧ gm_P sb = gm_P s ∧ (∃ v, gm_T sb = gm_T s ++ [(4 + 10 * ((gm_T s).length : Int), v, gm_D s)]) ∧ ∀ i, i < (gm_T s).length → mi_a hm 105 i = mi_a hb 105 i)
section CXG
variable {d : Nat} {h : sm_H}
theorem me_gexchs {a m : Nat} {T : List (Int × Int × Int)} (hS : ab_Sh sx_sk h) (hT : gq_T h T) (h1 : a ≤ m) (h2 : m ≤ T.length) (h3 : T.length ≤ 100) : me_E (d + 4) 152 0 [some (.inr (.inr 107)), some (.inl (a : Int)), some (.inl (m : Int))] [] h (fun w h' => w = none ∧ ab_Sh sx_sk h' ∧ ab_Fr tr_W h h' ∧ gq_T h' (gm_rot a m T) ∧ ∀ i, i < T.length → mi_a h' 105 i = mi_a h 105 (ro_i a m T.length i)) := by
  have oa : mi_in (a : Int) := ⟨by omega, by omega⟩
  have om : mi_in (m : Int) := ⟨by omega, by omega⟩
  refine mt_kgpA hS oa om ?_
  intro ha a1 a2
  have e := me_nil a2
  subst e
  refine ⟨_, me_sexch (d := d) a1 hT h1 h2 h3, fun w h' hw hq => ?_⟩
  obtain ⟨rfl, q1, q2, q3⟩ := hq
  refine mt_kgpB q1 oa om ?_
  intro hb b1 b2
  have e := me_nil b2
  subst e
  exact ⟨rfl, b1, q2, q3⟩
end CXG
/-! the class's growing walk: a leaf -/
section CW2t
variable {h : sm_H} {s : gm_S} {d : Nat} {f : Int → Int} {it : Int → Prop} {g : wk_g} {Y : wk_Y} {kw : Int → Bool}
/-- what the walk over a part, a unit, a form, a use does: M: from where the pure one goes, by what lies below -/
def gm_RO (g : wk_g) (kw : Int → Bool) (m : Option gm_C) (c : gm_C) : Prop := ∃ c1 n, m = some c1 ∧ gm_to g kw n c1 c
def gm_NO (g : wk_g) (kw : Int → Bool) (m : Option gm_C) : Prop := m = none ∨ ∃ c1 n, m = some c1 ∧ gm_no g kw n c1
def gq_Q (g : wk_g) (kw : Int → Bool) (h0 : sm_H) (u : Int) (M : List wk_E → Option gm_C) (s : gm_S) (w : Option mi_V) (h' : sm_H) : Prop := w = none ∧ ab_Sh sx_sk h' ∧ ab_Fr gq_W h0 h' ∧ mi_f h' 13701 = u ∧ ((mi_f h' 13699 = 1 ∧ mi_f h' 13700 = 1 ∧ ∀ r, wk_ul r = u → gm_NO g kw (M r)) ∨ (mi_f h' 13699 = 0 ∧ mi_f h' 13700 = 0 ∧ ∃ s', gq_R h' s' ∧ (gm_D s' = gm_D s ∧ pq_A h0 s (gm_D s) h' s') ∧ ∀ r, wk_ul r = u → gm_RO g kw (M r) (r, s')))
/-- where it is called -/
def gq_in (h : sm_H) (u : Int) (s : gm_S) : Prop := ab_Sh sx_sk h ∧ mi_f h 13699 = 0 ∧ mi_f h 13700 = 0 ∧ mi_f h 13701 = u ∧ gq_R h s
theorem me_gleaf {zp u : Int} (hi : gq_in h u s) (hG : cg_G f it g Y kw h) (p0 : 0 ≤ zp) (p1 : zp < wk_u Y) (n9 : g 119 zp.toNat ≠ 9) (n10 : g 119 zp.toNat ≠ 10) : me_E (d + 3) 133 0 [some (.inr (.inr 107)), some (.inl zp), none] [] h (gq_Q g kw h u (fun r => gm_sg g kw zp r s) s) := by
  obtain ⟨hS, i1, i2, i3, hR⟩ := hi
  have hu60 := hG.1.1
  have hU := hG.2.2.1 zp p0 p1
  have e68 := hU.1
  have op : mi_in zp := ⟨by omega, by omega⟩
  have o68 : mi_in (mi_a h 68 zp.toNat) := mi_inT _
  have eM : (fun r => gm_sg g kw zp r s) = fun r => (gm_lf kw (g 119 zp.toNat) s).map (fun t => (r, t)) := funext fun r => gm_sg_lf n9 n10
  rw [eM]
  -- behind the node
  have fin : ∀ (kd v : Int) (s1 : gm_S) (h2 h3 h4 : sm_H) (w : Option mi_V), gm_lf kw (g 119 zp.toNat) s = gm_c kd v s1 → gm_D s1 = gm_D s → gm_P s1 = gm_P s → gm_T s1 = gm_T s → ab_Sh sx_sk h2 → ab_Fr [(13702, 13703)] h h2 → ab_Sh sx_sk h3 → ab_Fr gq_en h2 h3 → ((gm_c kd v s1 = none ∧ w = some (.inl (-1)) ∧ mi_f h3 13699 = 1 ∧ mi_f h3 13700 = 1) ∨ (∃ t, gm_c kd v s1 = some t ∧ w = some (.inl (gm_len s1)) ∧ mi_f h3 13699 = 0 ∧ mi_f h3 13700 = 0 ∧ gq_R h3 t ∧ ∀ i, mi_a h3 105 i = if i = (gm_T s1).length then 0 else mi_a h2 105 i)) → ab_Fr [] h3 h4 → gq_Q g kw h u (fun r => (gm_lf kw (g 119 zp.toNat) s).map (fun t => (r, t))) s none h4 := by
    intro kd v s1 h2 h3 h4 w e1 e2 e3 e4 g1 g2 q1 q2 q3 r2
    have e := me_nil r2
    subst e
    refine ⟨rfl, q1, (g2.wide (fun c hc => ab_swr_ok (by decide) hc)).trans (q2.wide (fun c hc => ab_swr_ok (by decide) hc)), ((me_f (c := 13701) q2 g1 rfl rfl).trans (me_f (c := 13701) g2 hS rfl rfl)).trans i3, ?_⟩
    rcases q3 with ⟨q3, -, q4, q5⟩ | ⟨t, q3, -, q4, q5, q6, q7⟩
    · refine Or.inl ⟨q4, q5, fun r _ => Or.inl ?_⟩
      rw [e1, q3]
      rfl
    · obtain ⟨-, -, t1, t2, t3⟩ := gm_c_t q3
      refine Or.inr ⟨q4, q5, t, q6, ⟨t2.trans e2, t3.trans e3, [(kd + 10 * ((gm_T s).length : Int), v, gm_D s)], by rw [t1, e4, e2], fo_one, ?_, fun k hk => ?_⟩, fun r _ => ⟨(r, t), 0, ?_, rfl⟩⟩
      · refine gz_cons fo_nil gz_nil ?_
        rw [q7, e4, if_pos rfl]
        rfl
      · rw [q7, e4, if_neg (by omega), me_a (k := 105) g2 hS rfl rfl]
      · rw [e1, q3]
        rfl
  refine mt_kgfA hS op (by intros; exfalso; omega) (by intros; exfalso; omega) ?_ ?_ ?_
  · intro c1 c2 c3 c4
    rw [e68] at c3 c4
    refine ⟨⟨by omega, by omega⟩, fun h1 g1 g2 => ?_⟩
    have e := me_nil g2
    subst e
    rw [gm_lf_o c3 c4]
    exact ⟨rfl, hS, ab_Fr.refl, i3, Or.inr ⟨i1, i2, s, hR, ⟨rfl, pq_A_refl⟩, fun r _ => ⟨(r, s), 0, rfl, rfl⟩⟩⟩
  · intro c1 c2 c3 c4
    refine ⟨⟨by omega, by omega⟩, fun h1 g1 g2 => ?_⟩
    have e := me_nil g2
    subst e
    refine ⟨_, me_gname (d := d) hS hG hR, ?_⟩
    intro w h2 hw hq
    obtain ⟨q1, q2, q3, rfl⟩ := hq
    have hl : gm_lf kw (g 119 zp.toNat) s = gm_c 3 (gm_nm kw (gm_X s)).1 ((gm_nm kw (gm_X s)).2, gm_F s, gm_T s, gm_D s, gm_P s) := by
      unfold gm_lf
      rw [if_neg (by rw [← e68]; exact c3), if_pos (by rw [← e68]; exact c4)]
    generalize hv : (gm_nm kw (gm_X s)).1 = v at hw hl ⊢
    generalize (gm_nm kw (gm_X s)).2 = y at q3 hl
    refine mt_kgfD q1 op o68 (hw _ rfl) ⟨by decide, by decide⟩ ?_
    intro h3 r1 r2
    have e := me_nil r2
    subst e
    refine ⟨_, me_genter (d := d) q1 ⟨by decide, by decide⟩ (hw _ rfl) ((me_f (c := 13699) q2 hS rfl rfl).trans i1) ((me_f (c := 13700) q2 hS rfl rfl).trans i2) q3, ?_⟩
    intro w3 h3' hw3 hq3
    obtain ⟨t1, t2, t3⟩ := hq3
    have hz : ∃ z, w3 = some (.inl z) := by
      rcases t3 with ⟨-, t3, -⟩ | ⟨-, -, t3, -⟩
      · exact ⟨_, t3⟩
      · exact ⟨_, t3⟩
    obtain ⟨z, rfl⟩ := hz
    refine mt_kgfE t1 op o68 (hw3 _ rfl) ?_
    intro h4 u1 u2
    exact fin 3 v _ _ h3' h4 _ hl (gm_D_mk _ _ _ _ _) (gm_P_mk _ _ _ _ _) (gm_T_mk _ _ _ _ _) q1 q2 t1 t2 t3 u2
  · intro c1 c2 c3
    refine ⟨⟨by omega, by omega⟩, fun h1 g1 g2 => ?_⟩
    have e := me_nil g2
    subst e
    obtain ⟨y, hy⟩ : ∃ y, gm_x (gm_X s) = y := ⟨_, rfl⟩
    obtain ⟨z, hz⟩ : ∃ z, gm_v y 10000 = z := ⟨_, rfl⟩
    have hl := gm_lf_1 (kw := kw) (e68.symm.trans c3) hy hz
    refine ⟨_, me_gdrawx (d := d + 1) hS hR (by decide) (by decide) hy hz, ?_⟩
    intro w h2 hw hq
    obtain ⟨q1, q2, q3, rfl⟩ := hq
    refine mt_kgfB q1 op o68 (hw _ rfl) ⟨by decide, by decide⟩ ?_
    intro h3 r1 r2
    have e := me_nil r2
    subst e
    refine ⟨_, me_genter (d := d) q1 ⟨by decide, by decide⟩ (hw _ rfl) ((me_f (c := 13699) q2 hS rfl rfl).trans i1) ((me_f (c := 13700) q2 hS rfl rfl).trans i2) q3, ?_⟩
    intro w3 h3' hw3 hq3
    obtain ⟨t1, t2, t3⟩ := hq3
    have hz : ∃ z, w3 = some (.inl z) := by
      rcases t3 with ⟨-, t3, -⟩ | ⟨-, -, t3, -⟩
      · exact ⟨_, t3⟩
      · exact ⟨_, t3⟩
    obtain ⟨z2, rfl⟩ := hz
    refine mt_kgfC t1 op o68 (hw3 _ rfl) ?_
    intro h4 u1 u2
    exact fin 2 z _ _ h3' h4 _ hl (gm_D_mk _ _ _ _ _) (gm_P_mk _ _ _ _ _) (gm_T_mk _ _ _ _ _) q1 q2 t1 t2 t3 u2
end CW2t
/-! the class's growing walk does the turns of the pure one: a use, a part, a unit -/
section CW3
variable {f : Int → Int} {it : Int → Prop} {g : wk_g} {Y : wk_Y} {kw : Int → Bool} {d : Nat}
theorem RO_refl {c : gm_C} : gm_RO g kw (some c) c := ⟨c, 0, rfl, rfl⟩
theorem RO_step {m : Option gm_C} {c : gm_C} {e : wk_E} {r : List wk_E} {s : gm_S} (h1 : gm_RO g kw m (e :: r, s)) (h2 : gm_RO g kw (gm_st g kw e r s) c) : gm_RO g kw m c := by
  obtain ⟨c1, n, a1, a2⟩ := h1
  obtain ⟨c2, k, b1, b2⟩ := h2
  exact ⟨c1, n + (1 + k), a1, gm_app (gm_app b2 1 _ (gm_one b1)) n _ a2⟩
theorem NO_step {m : Option gm_C} {e : wk_E} {r : List wk_E} {s : gm_S} (h1 : gm_RO g kw m (e :: r, s)) (h2 : gm_NO g kw (gm_st g kw e r s)) : gm_NO g kw m := by
  obtain ⟨c1, n, a1, a2⟩ := h1
  rcases h2 with h2 | ⟨c2, k, b1, b2⟩
  · exact Or.inr ⟨c1, n + 0, a1, gm_appn (gm_none h2) _ _ a2⟩
  · exact Or.inr ⟨c1, n + (1 + k), a1, gm_appn (gm_appn b2 1 _ (gm_one b1)) n _ a2⟩
/-- what is said of walkForm -/
def gq_F (f : Int → Int) (it : Int → Prop) (g : wk_g) (Y : wk_Y) (kw : Int → Bool) (D : Nat) (zd : Int) : Prop := ∀ (h : sm_H) (s : gm_S) (u F : Int), gq_in h u s → cg_G f it g Y kw h → 0 ≤ F → F < wk_f Y → 1 ≤ u → u ≤ 12 → zd ≤ 5 * (u - 1) + wk_d Y F → me_E D 120 0 [some (.inr (.inr 107)), some (.inl (f F)), some (.inl zd), none, none, none, none, none, none, none, none] [] h (gq_Q g kw h u (fun r => gm_fo g F r s) s)
theorem gq_F_deep {D D' : Nat} {zd : Int} (h : gq_F f it g Y kw D zd) (hd : D ≤ D') : gq_F f it g Y kw D' zd := fun h1 s u F a b c e k l m => (h h1 s u F a b c e k l m).deep hd
/-- once it has stopped -/
theorem me_gform0 {h : sm_H} {zf zd : Int} (hS : ab_Sh sx_sk h) (h1 : mi_f h 13699 = 1) (of : mi_in zf) (od : mi_in zd) : me_E (d + 2) 120 0 [some (.inr (.inr 107)), some (.inl zf), some (.inl zd), none, none, none, none, none, none, none, none] [] h (fun w h' => w = none ∧ ab_Sh sx_sk h' ∧ ab_Fr [(13699, 13700)] h h' ∧ mi_f h' 13699 = 1) := by
  refine mt_kgwA hS of od ?_ (by intros; exfalso; omega) (by intros; exfalso; omega) (by intros; exfalso; omega) (by intros; exfalso; omega) (by intros; exfalso; omega)
  intro b c h1' g1 g2 g3
  exact ⟨rfl, g1, g3, g2⟩
theorem cg_ok {h : sm_H} {F : Int} (hG : cg_G f it g Y kw h) (h0 : 0 ≤ F) (h1 : F < wk_f Y) : mi_in (f F) := by
  have := (hG.2.1 F h0 h1).1
  exact ⟨by omega, by omega⟩
theorem me_guse {h : sm_H} {s : gm_S} {u i zd : Int} (hWF : gq_F f it g Y kw (d + 2) zd) (hi : gq_in h u s) (hG : cg_G f it g Y kw h) (i0 : 0 ≤ i) (i1 : i < 10) (r0 : 0 ≤ g 114 i.toNat) (r1 : g 114 i.toNat < wk_f Y) (rf : f (g 114 i.toNat) = i) (u0 : 0 ≤ u) (z0 : -1 ≤ zd) (z1 : zd ≤ 5 * u) (z2 : zd ≤ 1000) : me_E (d + 3) 113 0 [some (.inr (.inr 107)), some (.inl i), some (.inl zd), none] [] h (gq_Q g kw h u (fun r => gm_en g i r s) s) := by
  obtain ⟨hS, j1, j2, j3, hR⟩ := hi
  have oi : mi_in i := ⟨by omega, by omega⟩
  have od : mi_in zd := ⟨by omega, by omega⟩
  have hd0 := (hG.1.2.2.2 _ r0 r1).1
  obtain ⟨-, -, c3, c4, c5, c6⟩ := id hR
  refine mt_kguA hS oi od ?_ ?_
  · intro b c1 h1 g1 g2
    have e := me_nil g2
    subst e
    refine ⟨_, me_genter (d := d) hS ⟨by decide, by decide⟩ oi j1 j2 hR, ?_⟩
    intro w h2 hw hq
    obtain ⟨q1, q2, q3⟩ := hq
    have e01 : mi_f h2 13701 = u := (me_f (c := 13701) q2 hS rfl rfl).trans j3
    have e03 : mi_f h2 13703 = gm_F s := (me_f (c := 13703) q2 hS rfl rfl).trans c3
    have tail : ∀ (zz : Int) (h4 : sm_H), mi_in zz → ab_Sh sx_sk h4 → mi_in (mi_f h4 13701 - 1) → ∀ Q : Option mi_V → sm_H → Prop, (∀ h5, ab_Sh sx_sk h5 → mi_f h5 13701 = mi_f h4 13701 - 1 → ab_Fr [(13440, 13441), (13701, 13702)] h4 h5 → Q none h5) → me_E (d + 3) 113 41 [some (.inr (.inr 107)), some (.inl i), some (.inl zd), some (.inl zz)] [] h4 Q := by
      intro zz h4 oz s4 o1 Q k
      refine mt_kguC s4 oi od oz ?_
      intro b
      refine ⟨⟨o1.1, o1.2⟩, fun h5 t1 t2 t3 => ⟨_, me_gleave (d := d) t1 oz, fun w h6 hw hq => ?_⟩⟩
      obtain ⟨rfl, v1, v2⟩ := hq
      refine mt_kguD v1 oi od oz ?_
      intro h7 x1 x2
      have e := me_nil x2
      subst e
      exact k h7 x1 ((me_f (c := 13701) v2 t1 rfl rfl).trans t2) ((t3.wide (fun c hc => ab_swr_ok (by decide) hc)).trans (v2.wide (fun c hc => ab_swr_ok (by decide) hc)))
    rcases q3 with ⟨q3, rfl, q4, q5⟩ | ⟨t, q3, rfl, q4, q5, q6, q7⟩
    · refine mt_kguB q1 oi od ⟨by decide, by decide⟩ ?_
      intro b1 b2
      refine ⟨⟨⟨by omega, by omega⟩, by omega, by omega⟩, fun h3 t1 t2 t3 t4 => ?_⟩
      refine ⟨_, me_gform0 (d := d) t1 ((me_f (c := 13699) t4 q1 rfl rfl).trans q4) oi od, fun w h4 hw hq => ?_⟩
      obtain ⟨rfl, v1, v2, v3⟩ := hq
      have n01 : mi_f h4 13701 = u + 1 := by rw [me_f (c := 13701) v2 t1 rfl rfl, t2, e01]
      refine tail (-1) h4 ⟨by decide, by decide⟩ v1 ⟨by omega, by omega⟩ _ (fun h5 x1 x2 x3 => ?_)
      refine ⟨rfl, x1, (((q2.wide (fun c hc => ab_swr_ok (by decide) hc)).trans (t4.wide (fun c hc => ab_swr_ok (by decide) hc))).trans (v2.wide (fun c hc => ab_swr_ok (by decide) hc))).trans (x3.wide (fun c hc => ab_swr_ok (by decide) hc)), by omega, Or.inl ⟨(me_f (c := 13699) x3 v1 rfl rfl).trans v3, ?_, fun r hr => Or.inl ?_⟩⟩
      · rw [me_f (c := 13700) x3 v1 rfl rfl, me_f (c := 13700) v2 t1 rfl rfl, me_f (c := 13700) t4 q1 rfl rfl]
        exact q5
      · have hc : ¬ (gm_T s).length < 100 := fun q => by
          unfold gm_c at q3
          rw [if_neg (by omega)] at q3
          cases q3
        show gm_en g i r s = none
        unfold gm_en
        rw [if_neg (by omega)]
        unfold gm_c
        rw [gm_T_mk, if_pos (by omega)]
        rfl
    · obtain ⟨t1', t2', t3', t4', t5'⟩ := gm_c_t q3
      have hlen := gm_c_len q3
      have ln : gm_len s = ((gm_T s).length : Int) := rfl
      have on : mi_in (gm_len s) := ⟨by omega, by omega⟩
      refine mt_kguB q1 oi od on ?_
      intro b1 b2
      refine ⟨⟨⟨by omega, by omega⟩, by omega, by omega⟩, fun h3 t1 t2 t3 t4 => ?_⟩
      -- the state in the rule
      obtain ⟨s2, hs2⟩ : ∃ s2, s2 = gm_d (gm_X s, gm_F s - 1, gm_T s ++ [(1 + 10 * ((gm_T s).length : Int), i, gm_D s)], gm_D s, gm_P s) := ⟨_, rfl⟩
      have sX : gm_X s2 = gm_X s := by rw [hs2]; unfold gm_d; rw [gm_X_mk, gm_X_mk]
      have sF : gm_F s2 = gm_F s - 1 := by rw [hs2]; unfold gm_d; rw [gm_F_mk, gm_F_mk]
      have sT : gm_T s2 = gm_T s ++ [(1 + 10 * ((gm_T s).length : Int), i, gm_D s)] := by rw [hs2]; unfold gm_d; rw [gm_T_mk, gm_T_mk]
      have sD : gm_D s2 = gm_D s + 1 := by rw [hs2]; unfold gm_d; rw [gm_D_mk, gm_D_mk]
      have sP : gm_P s2 = gm_P s := by rw [hs2]; unfold gm_d; rw [gm_P_mk, gm_P_mk]
      have sl : gm_len s2 = gm_len s + 1 := by
        unfold gm_len
        rw [sT, List.length_append]
        rfl
      have hR3 : gq_R h3 s2 := by
        obtain ⟨x1, x2, x3, x4, x5, x6⟩ := q6
        refine ⟨?_, ?_, ?_, by omega, by omega, by omega⟩
        · rw [sT, ← t3']
          exact gq_T_fr x1 t4 q1 rfl
        · rw [me_l (c := 13702) t4 q1 rfl rfl, x2, t1', sX]
        · rw [t3, e03, sF]
      have hG3 : cg_G f it g Y kw h3 := cg_G_fr (cg_G_fr hG q2 hS rfl) t4 q1 rfl
      have key := hWF h3 s2 (u + 1) (g 114 i.toNat) ⟨t1, (me_f (c := 13699) t4 q1 rfl rfl).trans q4, (me_f (c := 13700) t4 q1 rfl rfl).trans q5, by rw [t2, e01], hR3⟩ hG3 r0 r1 (by omega) (by omega) (by omega)
      rw [rf] at key
      have een : ∀ r, wk_ul r = u → gm_en g i r s = some ((1, g 114 i.toNat, 0) :: (2, 1, 0) :: r, s2) := fun r hr => by
        unfold gm_en
        rw [if_neg (by omega)]
        unfold gm_c
        rw [gm_T_mk, if_neg (by omega), gm_X_mk, gm_F_mk, gm_D_mk, gm_P_mk, hs2]
        rfl
      have hul : ∀ r, wk_ul r = u → wk_ul ((2, 1, 0) :: r) = u + 1 := fun r hr => by rw [wk_ul_o, hr]; omega
      refine ⟨_, key, fun w h4 hw hq => ?_⟩
      obtain ⟨rfl, v1, v2, v01, v3⟩ := hq
      have Fa : ab_Fr gq_W _ h4 := ((q2.wide (fun c hc => ab_swr_ok (by decide) hc)).trans (t4.wide (fun c hc => ab_swr_ok (by decide) hc))).trans v2
      rcases v3 with ⟨v3, v4, v5⟩ | ⟨v3, v4, s3, v6, ⟨v7, v8⟩, v10⟩
      · refine tail _ h4 on v1 ⟨by omega, by omega⟩ _ (fun h5 x1 x2 x3 => ?_)
        refine ⟨rfl, x1, Fa.trans (x3.wide (fun c hc => ab_swr_ok (by decide) hc)), by omega, Or.inl ⟨(me_f (c := 13699) x3 v1 rfl rfl).trans v3, (me_f (c := 13700) x3 v1 rfl rfl).trans v4, fun r hr => ?_⟩⟩
        show gm_NO g kw (gm_en g i r s)
        rw [een r hr]
        exact NO_step (e := (1, g 114 i.toNat, 0)) (r := (2, 1, 0) :: r) (s := s2) RO_refl (by rw [gm_st_1]; exact v5 _ (hul r hr))
      · have on1 : mi_in (mi_f h4 13701 - 1) := ⟨by omega, by omega⟩
        refine mt_kguC v1 oi od on ?_
        intro b2
        refine ⟨⟨on1.1, on1.2⟩, fun h5 x1 x2 x3 => ?_⟩
        have R5 : gq_R h5 s3 := gq_R_fr v6 x3 v1 rfl rfl rfl
        have c1' := R5.1.1
        have c2' := R5.2.2.2.1
        unfold gm_len at c2'
        obtain ⟨-, B, a2, a3, a4, a5⟩ := id v8
        rw [sT] at a2 a4 a5
        rw [sD] at a3
        have eT3 : gm_T s3 = gm_T s ++ (1 + 10 * ((gm_T s).length : Int), i, gm_D s) :: B := by rw [a2, List.append_assoc]; rfl
        have lB : (gm_T s3).length = (gm_T s).length + 1 + B.length := by rw [eT3, List.length_append, List.length_cons]; omega
        have l1' : (gm_T s ++ [(1 + 10 * ((gm_T s).length : Int), i, gm_D s)]).length = (gm_T s).length + 1 := by rw [List.length_append]; rfl
        rw [l1'] at a4 a5
        refine ⟨_, by rw [ln]; exact me_gleavex (d := d) (n := (gm_T s).length) x1 (by omega) (by omega) (by omega), fun w h6 hw hq => ?_⟩
        obtain ⟨rfl, y1, y2, y3⟩ := hq
        refine mt_kguD y1 oi od on ?_
        intro h7 l1 l2
        have e := me_nil l2
        subst e
        have f5 : ∀ k, mi_a h5 105 k = mi_a h4 105 k := fun k => me_a (k := 105) x3 v1 rfl rfl
        have f3 : ∀ k, mi_a h3 105 k = mi_a h2 105 k := fun k => me_a (k := 105) t4 q1 rfl rfl
        refine ⟨rfl, y1, (Fa.trans (x3.wide (fun c hc => ab_swr_ok (by decide) hc))).trans (y2.wide (fun c hc => ab_swr_ok (by decide) hc)), by rw [me_f (c := 13701) y2 x1 rfl rfl, x2, v01]; omega, Or.inr ⟨by rw [me_f (c := 13699) y2 x1 rfl rfl, me_f (c := 13699) x3 v1 rfl rfl]; exact v3, by rw [me_f (c := 13700) y2 x1 rfl rfl, me_f (c := 13700) x3 v1 rfl rfl]; exact v4, (gm_X s3, gm_F s3, gm_T s3, gm_D s3 - 1, gm_P s3), gq_R_D (gq_R_fr R5 y2 x1 rfl rfl rfl) (gm_T_mk _ _ _ _ _) (gm_X_mk _ _ _ _ _) (gm_F_mk _ _ _ _ _), ⟨by rw [gm_D_mk]; omega, ?_⟩, fun r hr => ?_⟩⟩
        · refine pq_close (h := h5) (B := B) (by rw [gm_P_mk, v8.1, sP]) (gm_T_mk _ _ _ _ _) eT3 a3 (gz_eq a4 (fun k _ _ => f5 k)) (fun k hk => ?_) (fun k => ?_)
          · rw [f5, a5 k (by omega), f3, q7, if_neg (by omega)]
          · rw [y3, c1', lB]
            by_cases ck : k = (gm_T s).length
            · rw [if_pos ck, if_pos ck]
              omega
            · rw [if_neg ck, if_neg ck]
        · show gm_RO g kw (gm_en g i r s) _
          rw [een r hr]
          exact RO_step (e := (2, 1, 0)) (r := r) (s := s3) (RO_step (e := (1, g 114 i.toNat, 0)) (r := (2, 1, 0) :: r) (s := s2) RO_refl (by rw [gm_st_1]; exact v10 _ (hul r hr))) (by rw [gm_st_2]; exact RO_refl)
  · intro b c1 h1 g1 g2 g3 g4
    refine ⟨rfl, g1, g4.wide (fun c hc => ab_swr_ok (by decide) hc), (me_f (c := 13701) g4 hS rfl rfl).trans j3, Or.inl ⟨g2, g3, fun r hr => Or.inl ?_⟩⟩
    show gm_en g i r s = none
    unfold gm_en
    rw [if_pos (by omega)]
theorem me_gpart {h : sm_H} {s : gm_S} {u zp zd : Int} (hWF : gq_F f it g Y kw (d + 2) (zd + 1)) (hi : gq_in h u s) (hG : cg_G f it g Y kw h) (p0 : 0 ≤ zp) (p1 : zp < wk_u Y) (u0 : 1 ≤ u) (u1 : u ≤ 12) (z0 : 0 ≤ zd) (z1 : zd ≤ 5 * (u - 1) + wk_d Y (wk_c Y zp)) : me_E (d + 4) 132 0 [some (.inr (.inr 107)), some (.inl zp), some (.inl zd), none] [] h (gq_Q g kw h u (fun r => gm_sg g kw zp r s) s) := by
  have hS := hi.1
  have hu60 := hG.1.1
  obtain ⟨e68, e9, e10, -⟩ := hG.2.2.1 zp p0 p1
  obtain ⟨⟨-, -, -, w1, w2⟩, -, -, l9, l10, -⟩ := hG.1.2.2.1 zp p0 p1
  have wd := (hG.1.2.2.2 _ w1 w2).2.1
  have op : mi_in zp := ⟨by omega, by omega⟩
  have od : mi_in zd := ⟨by omega, by omega⟩
  have o68 : mi_in (mi_a h 68 zp.toNat) := mi_inT _
  refine mt_kgzA hS op od (by intros; exfalso; omega) (by intros; exfalso; omega) ?_ ?_ ?_
  · intro c1 c2 c3 c4
    refine ⟨⟨by omega, by omega⟩, fun h1 g1 g2 => ?_⟩
    have e := me_nil g2
    subst e
    refine ⟨_, me_gleaf (d := d) hi hG p0 p1 (by rw [← e68]; exact c3) (by rw [← e68]; exact c4), fun w h2 hw hq => ?_⟩
    have e := hq.1
    subst e
    refine mt_kgzD hq.2.1 op od o68 ?_
    intro h3 r1 r2
    have e := me_nil r2
    subst e
    exact hq
  · intro c1 c2 c3 c4
    rw [e68] at c4
    obtain ⟨x1, x2, x3, x4⟩ := l10 c4
    have hf := cg_ok hG x1 x2
    refine ⟨⟨⟨by omega, by omega⟩, by omega, by omega⟩, fun h1 g1 g2 => ?_⟩
    have e := me_nil g2
    subst e
    rw [e10 c4]
    refine ⟨_, (gq_F_deep hWF (by omega : d + 2 ≤ d + 3)) h1 s u (g 120 zp.toNat) hi hG x1 x2 u0 u1 (by omega), fun w h2 hw hq => ?_⟩
    have e := hq.1
    subst e
    refine mt_kgzC hq.2.1 op od o68 ?_
    intro h3 r1 r2
    have e := me_nil r2
    subst e
    have eM : ∀ r, gm_sg g kw zp r s = some ((1, g 120 zp.toNat, 0) :: r, s) := fun r => by
      unfold gm_sg
      rw [if_neg (by omega), if_pos c4]
    obtain ⟨-, q1, q2, q3, q4⟩ := hq
    refine ⟨rfl, q1, q2, q3, ?_⟩
    rcases q4 with ⟨q4, q5, q6⟩ | ⟨q4, q5, s3, q6, q7, q8⟩
    · refine Or.inl ⟨q4, q5, fun r hr => ?_⟩
      dsimp only
      rw [eM]
      exact NO_step (e := (1, g 120 zp.toNat, 0)) (r := r) (s := s) RO_refl (by rw [gm_st_1]; exact q6 r hr)
    · refine Or.inr ⟨q4, q5, s3, q6, q7, fun r hr => ?_⟩
      dsimp only
      rw [eM]
      exact RO_step (e := (1, g 120 zp.toNat, 0)) (r := r) (s := s) RO_refl (by rw [gm_st_1]; exact q8 r hr)
  · intro c1 c2 c3
    rw [e68] at c3
    obtain ⟨x1, x2, x3, x4, x5, x6, x7⟩ := l9 c3
    obtain ⟨y1, y2⟩ := e9 c3
    refine ⟨⟨⟨by omega, by omega⟩, by omega, by omega⟩, fun h1 g1 g2 => ?_⟩
    have e := me_nil g2
    subst e
    rw [y1]
    refine ⟨_, me_guse (d := d) hWF hi hG x3 x4 x5 x6 y2 (by omega) (by omega) (by omega) (by omega), fun w h2 hw hq => ?_⟩
    have e := hq.1
    subst e
    refine mt_kgzB hq.2.1 op od o68 ?_
    intro h3 r1 r2
    have e := me_nil r2
    subst e
    have eM : ∀ r, gm_sg g kw zp r s = gm_en g (g 115 (g 120 zp.toNat).toNat) r s := fun r => by
      unfold gm_sg
      rw [if_pos c3]
    have eM2 : (fun r => gm_sg g kw zp r s) = fun r => gm_en g (g 115 (g 120 zp.toNat).toNat) r s := funext eM
    rw [eM2]
    exact hq
end CW3
/-! the class's growing walk: a unit -/
section CW4
variable {f : Int → Int} {it : Int → Prop} {g : wk_g} {Y : wk_Y} {kw : Int → Bool} {d : Nat}
/-- a value in its row -/
theorem gq_val {h : sm_H} {s : gm_S} {T A : List (Int × Int × Int)} {k v l : Int} (hR : gq_R h s) (e : gm_T s = T ++ (k, v, l) :: A) : mi_a h 104 T.length = v ∧ (T.length : Int) < 100 := by
  obtain ⟨⟨r1, r2⟩, -, -, r4, -⟩ := hR
  have hl : T.length < (gm_T s).length := by rw [e, List.length_append, List.length_cons]; omega
  obtain ⟨l', q, hl', -⟩ := r2 T.length hl
  rw [e, List.getElem?_append_right (Nat.le_refl _), Nat.sub_self] at hl'
  have hl' : some (k, v, l) = some (mi_a h 103 T.length + 10 * q, mi_a h 104 T.length, l') := hl'
  injection hl' with h1
  injection h1 with h2 h3
  injection h3 with h4 h5
  unfold gm_len at r4
  exact ⟨h4.symm, by omega⟩
/-- it is left -/
def gq_X (g : wk_g) (kw : Int → Bool) (h0 : sm_H) (u : Int) (M : List wk_E → Option gm_C) (s : gm_S) (h : sm_H) : Prop := ab_Sh sx_sk h ∧ ab_Fr gq_W h0 h ∧ mi_f h 13701 = u ∧ ((mi_f h 13699 = 1 ∧ mi_f h 13700 = 1 ∧ ∀ r, wk_ul r = u → gm_NO g kw (M r)) ∨ (mi_f h 13699 = 0 ∧ mi_f h 13700 = 0 ∧ ∃ se, gq_R h se ∧ (gm_D se = gm_D s + 1 ∧ gm_P se = gm_P s ∧ ∃ k v B, gm_T se = gm_T s ++ (k, v, gm_D s) :: B ∧ fo (gm_D s + 1) B ∧ gz h ((gm_T s).length + 1) B ∧ ∀ i, i < (gm_T s).length → mi_a h 105 i = mi_a h0 105 i) ∧ ∀ r, wk_ul r = u → gm_RO g kw (M r) ((2, 0, 0) :: r, se)))
/-- a node is left, of what is known of it -/
theorem me_gleavey {hb h : sm_H} {u zo : Int} {M : List wk_E → Option gm_C} {s : gm_S} (oo : mi_in zo) (hz : mi_f h 13699 = 0 → zo = gm_len s) (hx : gq_X g kw hb u M s h) : me_E (d + 2) 147 0 [some (.inr (.inr 107)), some (.inl zo)] [] h (fun w h' => gq_Q g kw hb u M s w h') := by
  obtain ⟨hS, x2, x3, x4⟩ := hx
  rcases x4 with ⟨a, b, c⟩ | ⟨a, b, se, c1, ⟨c2, c3, k, v, B, c4, c5, c6, c7⟩, c8⟩
  · refine (me_gleave (d := d) hS oo).imp (fun w h' hq => ?_)
    obtain ⟨rfl, v1, v2⟩ := hq
    exact ⟨rfl, v1, x2.trans (v2.wide (fun c hc => ab_swr_ok (by decide) hc)), (me_f (c := 13701) v2 hS rfl rfl).trans x3, Or.inl ⟨(me_f (c := 13699) v2 hS rfl rfl).trans a, (me_f (c := 13700) v2 hS rfl rfl).trans b, c⟩⟩
  · have e := hz a
    subst e
    have l1 := c1.1.1
    have l2 := c1.2.2.2.1
    unfold gm_len at l2
    have ln : gm_len s = ((gm_T s).length : Int) := rfl
    have lB : (gm_T se).length = (gm_T s).length + 1 + B.length := by rw [c4, List.length_append, List.length_cons]; omega
    rw [ln]
    refine (me_gleavex (d := d) (n := (gm_T s).length) hS (by omega) (by omega) (by omega)).imp (fun w h' hq => ?_)
    obtain ⟨rfl, v1, v2, v3⟩ := hq
    refine ⟨rfl, v1, x2.trans (v2.wide (fun c hc => ab_swr_ok (by decide) hc)), (me_f (c := 13701) v2 hS rfl rfl).trans x3, Or.inr ⟨(me_f (c := 13699) v2 hS rfl rfl).trans a, (me_f (c := 13700) v2 hS rfl rfl).trans b, (gm_X se, gm_F se, gm_T se, gm_D se - 1, gm_P se), gq_R_D (gq_R_fr c1 v2 hS rfl rfl rfl) (gm_T_mk _ _ _ _ _) (gm_X_mk _ _ _ _ _) (gm_F_mk _ _ _ _ _), ⟨by rw [gm_D_mk]; omega, pq_close (h := h) (by rw [gm_P_mk, c3]) (gm_T_mk _ _ _ _ _) c4 c5 c6 c7 (fun i => ?_)⟩, fun r hr => RO_step (e := (2, 0, 0)) (r := r) (s := se) (c8 r hr) (by rw [gm_st_2]; exact RO_refl)⟩⟩
    rw [v3, l1, lB]
    by_cases ck : i = (gm_T s).length
    · rw [if_pos ck, if_pos ck]
      omega
    · rw [if_neg ck, if_neg ck]
theorem gy98 {h0 h : sm_H} {u zp zd zr zo zm zt : Int} {M : List wk_E → Option gm_C} {s : gm_S} (op : mi_in zp) (od : mi_in zd) (or_ : mi_in zr) (oo : mi_in zo) (om : mi_in zm) (ot : mi_in zt) (hz : mi_f h 13699 = 0 → zo = gm_len s) (hx : gq_X g kw h0 u M s h) : me_E (d + 5) 131 98 [some (.inr (.inr 107)), some (.inl zp), some (.inl zd), some (.inl zr), some (.inl zo), some (.inl zm), some (.inl zt)] [] h (gq_Q g kw h0 u M s) := by
  refine mt_kgyG hx.1 op od or_ oo om ot ?_
  intro h1 g1 g2
  have e := me_nil g2
  subst e
  refine ⟨_, me_gleavey (d := d + 2) oo hz hx, fun w h2 hw hq => ?_⟩
  have e := hq.1
  subst e
  refine mt_kgyH hq.2.1 op od or_ oo om ot ?_
  intro h3 r1 r2
  have e := me_nil r2
  subst e
  exact hq
/-- the turns of a many -/
theorem gy60 {h0 : sm_H} {s : gm_S} {u zp zd c : Int} {M : List wk_E → Option gm_C} (hS0 : ab_Sh sx_sk h0) (hWF : gq_F f it g Y kw (d + 2) (zd + 1)) (hG0 : cg_G f it g Y kw h0) (p0 : 0 ≤ zp) (p1 : zp < wk_u Y) (u0 : 1 ≤ u) (u1 : u ≤ 12) (z0 : 0 ≤ zd) (z1 : zd ≤ 5 * (u - 1) + wk_d Y (wk_c Y zp)) (z2 : zd ≤ 1000) (c1 : c ≤ 2) : ∀ (N : Nat) (zt : Int) (h : sm_H) (sj : gm_S), c - zt = N → 0 ≤ zt → gq_in h u sj → ab_Fr gq_W h0 h → gm_D sj = gm_D s + 1 → gm_P sj = gm_P s → (∃ A, gm_T sj = gm_T s ++ (5 + 10 * ((gm_T s).length : Int), c, gm_D s) :: A ∧ fo (gm_D s + 1) A ∧ gz h ((gm_T s).length + 1) A ∧ ∀ i, i < (gm_T s).length → mi_a h 105 i = mi_a h0 105 i) → (∀ r, wk_ul r = u → gm_RO g kw (M r) ((5, zp, c - zt) :: (2, 0, 0) :: r, sj)) → me_E (d + 5) 131 60 [some (.inr (.inr 107)), some (.inl zp), some (.inl zd), some (.inl (5 : Int)), some (.inl (gm_len s)), some (.inl (161 : Int)), some (.inl zt)] [] h (gq_Q g kw h0 u M s) := by
  have hu60 := hG0.1.1
  have op : mi_in zp := ⟨by omega, by omega⟩
  have od : mi_in zd := ⟨by omega, by omega⟩
  intro N
  induction N with
  | zero =>
    intro zt h sj hN t0 hi hF eD eP eT hM
    obtain ⟨A, eA, fA, zA, lo⟩ := eT
    obtain ⟨hS, i1, i2, i3, hR⟩ := id hi
    obtain ⟨v1, v2⟩ := gq_val hR eA
    have ot : mi_in zt := ⟨by omega, by omega⟩
    have ln : gm_len s = ((gm_T s).length : Int) := rfl
    have oo : mi_in (gm_len s) := ⟨by omega, by omega⟩
    have hx : gq_X g kw h0 u M s h := ⟨hS, hF, i3, Or.inr ⟨i1, i2, sj, hR, ⟨eD, eP, _, _, A, eA, fA, zA, lo⟩, fun r hr => RO_step (e := (5, zp, c - zt)) (r := (2, 0, 0) :: r) (s := sj) (hM r hr) (by
      rw [gm_st_5]
      unfold gm_ag
      rw [if_neg (by omega)]
      exact RO_refl)⟩⟩
    have ev : mi_a h 104 (Int.toNat (gm_len s)) = c := by
      have : Int.toNat (gm_len s) = (gm_T s).length := by omega
      rw [this]
      exact v1
    refine mt_kgyE hS op od ⟨by decide, by decide⟩ oo ⟨by decide, by decide⟩ ot (by intros; exfalso; omega) (by intros; exfalso; omega) (by intros; exfalso; omega) (by intros; exfalso; omega) (by intros; exfalso; omega) (by intros; exfalso; omega) ?_ ?_
    · intro b c1 c2 c3 c4 c5
      refine ⟨⟨by omega, by omega⟩, fun h1 g1 g2 => ?_⟩
      have e := me_nil g2
      subst e
      exact gy98 op od ⟨by decide, by decide⟩ oo ⟨by decide, by decide⟩ ot (fun _ => rfl) hx
    · intro b c1 c2 c3 c4 c5
      rw [ev] at c5
      exfalso; omega
  | succ N ih =>
    intro zt h sj hN t0 hi hF eD eP eT hM
    obtain ⟨A, eA, fA, zA, lo⟩ := id eT
    obtain ⟨hS, i1, i2, i3, hR⟩ := id hi
    obtain ⟨v1, v2⟩ := gq_val hR eA
    have ot : mi_in zt := ⟨by omega, by omega⟩
    have ln : gm_len s = ((gm_T s).length : Int) := rfl
    have oo : mi_in (gm_len s) := ⟨by omega, by omega⟩
    have ev : mi_a h 104 (Int.toNat (gm_len s)) = c := by
      have : Int.toNat (gm_len s) = (gm_T s).length := by omega
      rw [this]
      exact v1
    have hst : ∀ r, gm_st g kw (5, zp, c - zt) ((2, 0, 0) :: r) sj = gm_sg g kw zp ((5, zp, c - (zt + 1)) :: (2, 0, 0) :: r) sj := fun r => by
      rw [gm_st_5]
      unfold gm_ag
      rw [if_pos (by omega)]
      have e : c - zt - 1 = c - (zt + 1) := by omega
      rw [e]
    have hul : ∀ r, wk_ul r = u → wk_ul ((5, zp, c - (zt + 1)) :: (2, 0, 0) :: r) = u := fun r hr => by rw [wk_ul_c (by decide), wk_ul_o, hr, Int.zero_add]
    refine mt_kgyE hS op od ⟨by decide, by decide⟩ oo ⟨by decide, by decide⟩ ot (by intros; exfalso; omega) (by intros; exfalso; omega) (by intros; exfalso; omega) (by intros; exfalso; omega) (by intros; exfalso; omega) (by intros; exfalso; omega) ?_ ?_
    · intro b c1 c2 c3 c4 c5
      rw [ev] at c5
      exfalso; omega
    · intro b c1 c2 c3 c4 c5
      refine ⟨⟨by omega, by omega⟩, fun h1 g1 g2 => ?_⟩
      have e := me_nil g2
      subst e
      refine ⟨_, me_gpart (d := d) hWF hi (cg_G_fr hG0 hF hS0 rfl) p0 p1 u0 u1 z0 z1, fun w h2 hw hq => ?_⟩
      obtain ⟨rfl, q1, q2, q3, q4⟩ := hq
      refine mt_kgyF q1 op od ⟨by decide, by decide⟩ oo ⟨by decide, by decide⟩ ot ?_
      refine ⟨⟨by omega, by omega⟩, fun h3 r1 r2 => ?_⟩
      have e := me_nil r2
      subst e
      rcases q4 with ⟨q4, q5, q6⟩ | ⟨q4, q5, s2, q6, ⟨q7, q8, B, q9⟩, q10⟩
      · have hx : gq_X g kw h0 u M s h3 := ⟨q1, hF.trans q2, q3, Or.inl ⟨q4, q5, fun r hr => NO_step (e := (5, zp, c - zt)) (r := (2, 0, 0) :: r) (s := sj) (hM r hr) (by rw [hst]; exact q6 _ (hul r hr))⟩⟩
        refine mt_kgyE q1 op od ⟨by decide, by decide⟩ oo ⟨by decide, by decide⟩ ⟨by omega, by omega⟩ ?_ (by intros; exfalso; omega) (by intros; exfalso; omega) (by intros; exfalso; omega) (by intros; exfalso; omega) (by intros; exfalso; omega) (by intros; exfalso; omega) (by intros; exfalso; omega)
        intro b c1 h4 s1 s2
        have e := me_nil s2
        subst e
        exact gy98 op od ⟨by decide, by decide⟩ oo ⟨by decide, by decide⟩ ⟨by omega, by omega⟩ (fun _ => rfl) hx
      · obtain ⟨w2, w3, w4, w5⟩ := q9
        rw [eA] at w2 w4 w5
        rw [eD] at w3
        have l1' : (gm_T s ++ (5 + 10 * ((gm_T s).length : Int), c, gm_D s) :: A).length = (gm_T s).length + 1 + A.length := by rw [List.length_append, List.length_cons]; omega
        rw [l1'] at w4 w5
        exact ih (zt + 1) h3 s2 (by omega) (by omega) ⟨q1, q4, q5, q3, q6⟩ (hF.trans q2) (by omega) (q8.trans eP) ⟨A ++ B, by rw [w2, List.append_assoc]; rfl, fo_app fA w3, gz_app fA w3 (gz_eq zA (fun i i1 i2 => w5 i (by omega))) w4, fun i hi2 => (w5 i (by omega)).trans (lo i hi2)⟩ (fun r hr => RO_step (e := (5, zp, c - zt)) (r := (2, 0, 0) :: r) (s := sj) (hM r hr) (by rw [hst]; exact q10 _ (hul r hr)))
theorem me_gunit0 {h : sm_H} {zp zd : Int} (hS : ab_Sh sx_sk h) (h1 : mi_f h 13699 = 1) (op : mi_in zp) (od : mi_in zd) : me_E (d + 5) 131 0 [some (.inr (.inr 107)), some (.inl zp), some (.inl zd), none, none, none, none] [] h (fun w h' => w = none ∧ h' = h) := by
  refine mt_kgyA hS op od (by intros; exfalso; omega) ?_ (by intros; exfalso; omega) ?_ (by intros; exfalso; omega) (by intros; exfalso; omega) ?_
  · intro b c1 c2 h2 g1 g2
    exact ⟨rfl, me_nil g2⟩
  · intro b c1 c2 c3 h2 g1 g2
    exact ⟨rfl, me_nil g2⟩
  · intro b c1 c2 c3
    exact ⟨⟨by omega, by omega⟩, fun h2 g1 g2 => ⟨rfl, me_nil g2⟩⟩
theorem me_gunit {h : sm_H} {s : gm_S} {u zp zd : Int} (hWF : gq_F f it g Y kw (d + 2) (zd + 1)) (hi : gq_in h u s) (hG : cg_G f it g Y kw h) (p0 : 0 ≤ zp) (p1 : zp < wk_u Y) (u0 : 1 ≤ u) (u1 : u ≤ 12) (z0 : 0 ≤ zd) (z1 : zd ≤ 5 * (u - 1) + wk_d Y (wk_c Y zp)) : me_E (d + 5) 131 0 [some (.inr (.inr 107)), some (.inl zp), some (.inl zd), none, none, none, none] [] h (gq_Q g kw h u (fun r => gm_u g kw zp r s) s) := by
  obtain ⟨hS, i1, i2, i3, hR⟩ := id hi
  have hu60 := hG.1.1
  obtain ⟨e68, -, -, e72, e122, -⟩ := hG.2.2.1 zp p0 p1
  obtain ⟨⟨-, -, -, w1, w2⟩, -⟩ := hG.1.2.2.1 zp p0 p1
  have wd := (hG.1.2.2.2 _ w1 w2).2.1
  have op : mi_in zp := ⟨by omega, by omega⟩
  have od : mi_in zd := ⟨by omega, by omega⟩
  have o72 : mi_in (mi_a h 72 zp.toNat) := mi_inT _
  refine mt_kgyA hS op od (by intros; exfalso; omega) (by intros; exfalso; omega) (by intros; exfalso; omega) (by intros; exfalso; omega) ?_ ?_ (by intros; exfalso; omega)
  · intro b c1 c2 c3 c4
    have n0 : ¬ g 122 zp.toNat = 0 := fun q => by rw [e72, if_pos q] at c4; exact c4 rfl
    rw [if_neg n0] at e72
    -- which kind, how many at most
    obtain ⟨zn, hz, hn⟩ : ∃ zn : Int, ((g 122 zp.toNat + 4 = 5 ∧ zn = 3) ∨ (g 122 zp.toNat + 4 = 6 ∧ zn = 2)) ∧ 0 < zn ∧ zn ≤ 3 := by
      by_cases q : g 122 zp.toNat = 1
      · exact ⟨3, Or.inl ⟨by omega, rfl⟩, by decide, by decide⟩
      · exact ⟨2, Or.inr ⟨by omega, rfl⟩, by decide, by decide⟩
    have cb := gm_n_b gm_vbt zn hn.1 (by omega) s
    refine ⟨⟨by omega, by omega⟩, fun h1 g1 g2 => ?_⟩
    have e := me_nil g2
    subst e
    rw [e72] at o72 ⊢
    refine ⟨_, me_gtimes (d := d + 2) hS hR hz, fun w h2 hw hq => ?_⟩
    obtain ⟨q1, q2, q3, rfl⟩ := hq
    obtain ⟨y1, y2, y3, y4⟩ := gm_y_e (s := s)
    have yT : gm_T (gm_y s) = gm_T s := by unfold gm_y; rw [gm_T_mk]
    refine mt_kgyC q1 op od o72 (hw _ rfl) o72 ?_
    intro h3 r1 r2
    have e := me_nil r2
    subst e
    refine ⟨_, me_genter (d := d + 2) q1 ⟨by omega, by omega⟩ (hw _ rfl) ((me_f (c := 13699) q2 hS rfl rfl).trans i1) ((me_f (c := 13700) q2 hS rfl rfl).trans i2) q3, fun w3 h4 hw3 hq3 => ?_⟩
    obtain ⟨t1, t2, t3⟩ := hq3
    have e01 : mi_f h4 13701 = u := ((me_f (c := 13701) t2 q1 rfl rfl).trans (me_f (c := 13701) q2 hS rfl rfl)).trans i3
    have F4 : ab_Fr gq_W h1 h4 := (q2.wide (fun c hc => ab_swr_ok (by decide) hc)).trans (t2.wide (fun c hc => ab_swr_ok (by decide) hc))
    have ln : gm_len s = ((gm_T s).length : Int) := rfl
    have hl100 := q3.2.2.2.1
    rw [y1] at hl100
    have oo : mi_in (gm_len s) := ⟨by omega, by omega⟩
    -- the end, once it has stopped
    have stp : ∀ zo zm : Int, mi_in zo → mi_in zm → gq_X g kw h1 u (fun r => gm_u g kw zp r s) s h4 → mi_f h4 13699 = 1 → me_E (d + 5) 131 60 [some (.inr (.inr 107)), some (.inl zp), some (.inl zd), some (.inl (g 122 zp.toNat + 4)), some (.inl zo), some (.inl zm), some (.inl (0 : Int))] [] h4 (gq_Q g kw h1 u (fun r => gm_u g kw zp r s) s) := by
      intro zo zm oo' om' hx hs
      refine mt_kgyE t1 op od o72 oo' om' ⟨by decide, by decide⟩ ?_ (by intros; exfalso; omega) (by intros; exfalso; omega) (by intros; exfalso; omega) (by intros; exfalso; omega) (by intros; exfalso; omega) (by intros; exfalso; omega) (by intros; exfalso; omega)
      intro b c1 h5 s1 s2
      have e := me_nil s2
      subst e
      exact gy98 op od o72 oo' om' ⟨by decide, by decide⟩ (fun q => by omega) hx
    by_cases k1 : g 122 zp.toNat = 1
    · -- a many
      have ezn : zn = 3 := by omega
      subst ezn
      have e5 : g 122 zp.toNat + 4 = 5 := by omega
      rw [e5] at t3 o72 stp ⊢
      have eM : ∀ r, gm_u g kw zp r s = (gm_c 5 (gm_n 3 s) (gm_y s)).map (fun t => ((5, zp, gm_n 3 s) :: (2, 0, 0) :: r, gm_d t)) := fun r => by
        unfold gm_u
        rw [if_pos k1]
      rcases t3 with ⟨t3, rfl, t4, t5⟩ | ⟨t, t3, rfl, t4, t5, t6, t7⟩
      · refine mt_kgyD t1 op od o72 ⟨by decide, by decide⟩ (by intros; exfalso; omega) ?_
        intro c5 h5 s1 s2
        have e := me_nil s2
        subst e
        refine stp (-1) 161 ⟨by decide, by decide⟩ ⟨by decide, by decide⟩ ⟨t1, F4, e01, Or.inl ⟨t4, t5, fun r _ => Or.inl ?_⟩⟩ t4
        dsimp only
        rw [eM, t3]
        rfl
      · obtain ⟨x1, x2, x3, x4, x5⟩ := gm_c_t t3
        obtain ⟨d1, d2, d3, d4⟩ := gm_d_e (t := t)
        have dT : gm_T (gm_d t) = gm_T t := by unfold gm_d; rw [gm_T_mk]
        have dX : gm_X (gm_d t) = gm_X t := by unfold gm_d; rw [gm_X_mk]
        rw [y1] at hw3 ⊢
        refine mt_kgyD t1 op od o72 oo (by intros; exfalso; omega) ?_
        intro c5 h5 s1 s2
        have e := me_nil s2
        subst e
        have key := gy60 (d := d) (M := fun r => gm_u g kw zp r s) (s := s) hS hWF hG p0 p1 u0 u1 z0 z1 (by omega) (c := gm_n 3 s) (by omega) (gm_n 3 s).toNat 0 h5 (gm_d t) (by omega) (by decide) ⟨t1, t4, t5, e01, gq_R_D t6 dT dX d2⟩ F4 (by omega) (by rw [d4, x5, y4]) ⟨[], by rw [dT, x3, yT, y3], fo_nil, gz_nil, fun i hi2 => by rw [t7, yT, if_neg (by omega), me_a (k := 105) q2 hS rfl rfl]⟩ (fun r _ => by
          rw [eM, t3, Int.sub_zero]
          exact RO_refl)
        exact key
    · -- a maybe
      have k2 : g 122 zp.toNat = 2 := by omega
      have ezn : zn = 2 := by omega
      subst ezn
      have e6 : g 122 zp.toNat + 4 = 6 := by omega
      rw [e6] at t3 o72 stp ⊢
      have eM : ∀ r, gm_u g kw zp r s = (gm_c 6 (gm_n 2 s) (gm_y s)).bind (fun t => if 0 < gm_n 2 s then gm_sg g kw zp ((2, 0, 0) :: r) (gm_d t) else some ((2, 0, 0) :: r, gm_d t)) := fun r => by
        unfold gm_u
        rw [if_neg k1, if_pos k2]
      rcases t3 with ⟨t3, rfl, t4, t5⟩ | ⟨t, t3, rfl, t4, t5, t6, t7⟩
      · refine mt_kgyD t1 op od o72 ⟨by decide, by decide⟩ ?_ (by intros; exfalso; omega)
        intro c5 h5 s1 s2
        have e := me_nil s2
        subst e
        refine stp (-1) 1 ⟨by decide, by decide⟩ ⟨by decide, by decide⟩ ⟨t1, F4, e01, Or.inl ⟨t4, t5, fun r _ => Or.inl ?_⟩⟩ t4
        dsimp only
        rw [eM, t3]
        rfl
      · obtain ⟨x1, x2, x3, x4, x5⟩ := gm_c_t t3
        obtain ⟨d1, d2, d3, d4⟩ := gm_d_e (t := t)
        have dT : gm_T (gm_d t) = gm_T t := by unfold gm_d; rw [gm_T_mk]
        have dX : gm_X (gm_d t) = gm_X t := by unfold gm_d; rw [gm_X_mk]
        have eTd : gm_T (gm_d t) = gm_T s ++ [(6 + 10 * ((gm_T s).length : Int), gm_n 2 s, gm_D s)] := by rw [dT, x3, yT, y3]
        have hRd : gq_R h4 (gm_d t) := gq_R_D t6 dT dX d2
        have lo4 : ∀ i, i < (gm_T s).length → mi_a h4 105 i = mi_a h1 105 i := fun i hi2 => by rw [t7, yT, if_neg (by omega), me_a (k := 105) q2 hS rfl rfl]
        obtain ⟨v1, v2⟩ := gq_val hRd eTd
        have ev : mi_a h4 104 (Int.toNat (gm_len s)) = gm_n 2 s := by
          have : Int.toNat (gm_len s) = (gm_T s).length := by omega
          rw [this]
          exact v1
        rw [y1] at hw3 ⊢
        refine mt_kgyD t1 op od o72 oo ?_ (by intros; exfalso; omega)
        intro c5 h5 s1 s2
        have e := me_nil s2
        subst e
        refine mt_kgyE t1 op od o72 oo ⟨by decide, by decide⟩ ⟨by decide, by decide⟩ (by intros; exfalso; omega) (by intros; exfalso; omega) (by intros; exfalso; omega) (by intros; exfalso; omega) (by intros; exfalso; omega) (by intros; exfalso; omega) ?_ ?_
        · intro b a1 a2 a3 a4 a5
          rw [ev] at a5
          refine ⟨⟨by omega, by omega⟩, fun h6 l1 l2 => ?_⟩
          have e := me_nil l2
          subst e
          refine gy98 op od o72 oo ⟨by decide, by decide⟩ ⟨by decide, by decide⟩ (fun _ => rfl) ⟨t1, F4, e01, Or.inr ⟨t4, t5, gm_d t, hRd, ⟨by omega, by rw [d4, x5, y4], _, _, [], eTd, fo_nil, gz_nil, lo4⟩, fun r _ => ?_⟩⟩
          dsimp only
          rw [eM, t3, Option.bind_some, if_neg (by omega)]
          exact RO_refl
        · intro b a1 a2 a3 a4 a5
          rw [ev] at a5
          refine ⟨⟨by omega, by omega⟩, fun h6 l1 l2 => ?_⟩
          have e := me_nil l2
          subst e
          refine ⟨_, me_gpart (d := d) (s := gm_d t) hWF ⟨t1, t4, t5, e01, hRd⟩ (cg_G_fr hG F4 hS rfl) p0 p1 u0 u1 z0 z1, fun w h7 hw hq => ?_⟩
          obtain ⟨rfl, q1', q2', q3', q4'⟩ := hq
          have hul : ∀ r, wk_ul r = u → wk_ul ((2, 0, 0) :: r) = u := fun r hr => by rw [wk_ul_o, hr, Int.zero_add]
          have eM2 : ∀ r, gm_u g kw zp r s = gm_sg g kw zp ((2, 0, 0) :: r) (gm_d t) := fun r => by rw [eM, t3, Option.bind_some, if_pos (by omega)]
          have hx : gq_X g kw h1 u (fun r => gm_u g kw zp r s) s h7 := by
            refine ⟨q1', F4.trans q2', q3', ?_⟩
            rcases q4' with ⟨a, b, c⟩ | ⟨a, b, s2, c, ⟨m1, m2, B, m3⟩, m4⟩
            · refine Or.inl ⟨a, b, fun r hr => ?_⟩
              dsimp only
              rw [eM2]
              exact c _ (hul r hr)
            · obtain ⟨w2, w3, w4, w5⟩ := m3
              rw [eTd] at w2 w4 w5
              rw [d3, x4, y3] at w3
              have l1' : (gm_T s ++ [(6 + 10 * ((gm_T s).length : Int), gm_n 2 s, gm_D s)]).length = (gm_T s).length + 1 := by rw [List.length_append]; rfl
              rw [l1'] at w4 w5
              refine Or.inr ⟨a, b, s2, c, ⟨by omega, by rw [m2, d4, x5, y4], _, _, B, by rw [w2, List.append_assoc]; rfl, w3, w4, fun i hi2 => (w5 i (by omega)).trans (lo4 i hi2)⟩, fun r hr => ?_⟩
              dsimp only
              rw [eM2]
              exact m4 _ (hul r hr)
          refine mt_kgyF q1' op od o72 oo ⟨by decide, by decide⟩ ⟨by decide, by decide⟩ ?_
          refine ⟨⟨by decide, by decide⟩, fun h8 k1' k2' => ?_⟩
          have e := me_nil k2'
          subst e
          refine mt_kgyE q1' op od o72 oo ⟨by decide, by decide⟩ ⟨by decide, by decide⟩ ?_ ?_ (by intros; exfalso; omega) (by intros; exfalso; omega) (by intros; exfalso; omega) (by intros; exfalso; omega) (by intros; exfalso; omega) (by intros; exfalso; omega)
          · intro b c h9 n1 n2
            have e := me_nil n2
            subst e
            exact gy98 op od o72 oo ⟨by decide, by decide⟩ ⟨by decide, by decide⟩ (fun _ => rfl) hx
          · intro b c c' h9 n1 n2
            have e := me_nil n2
            subst e
            exact gy98 op od o72 oo ⟨by decide, by decide⟩ ⟨by decide, by decide⟩ (fun _ => rfl) hx
  · intro b c1 c2 c3 c4
    have n0 : g 122 zp.toNat = 0 := by
      by_cases q : g 122 zp.toNat = 0
      · exact q
      · rw [e72, if_neg q] at c4
        omega
    refine ⟨⟨by omega, by omega⟩, fun h1 g1 g2 => ?_⟩
    have e := me_nil g2
    subst e
    refine ⟨_, me_gpart (d := d) hWF hi hG p0 p1 u0 u1 z0 z1, fun w h2 hw hq => ?_⟩
    have e := hq.1
    subst e
    refine mt_kgyB hq.2.1 op od o72 ?_
    intro h3 r1 r2
    have e := me_nil r2
    subst e
    have eM : (fun r => gm_u g kw zp r s) = fun r => gm_sg g kw zp r s := funext fun r => by
      unfold gm_u
      rw [if_neg (by omega), if_neg (by omega)]
    rw [eM]
    exact hq
end CW4
/-! the class's growing walk: a form, and so all of it -/
section CW5
variable {f : Int → Int} {it : Int → Prop} {g : wk_g} {Y : wk_Y} {kw : Int → Bool} {d : Nat}
/-- what is done at the end of a form -/
def gq_Z (g : wk_g) (kw : Int → Bool) (h0 : sm_H) (u : Int) (M : List wk_E → Option gm_C) (s : gm_S) (zo : Int) (h : sm_H) : Prop := (mi_f h 13699 = 1 ∧ ab_Sh sx_sk h ∧ ab_Fr gq_W h0 h ∧ mi_f h 13701 = u ∧ mi_f h 13700 = 1 ∧ ∀ r, wk_ul r = u → gm_NO g kw (M r)) ∨ (zo = -1 ∧ gq_Q g kw h0 u M s none h) ∨ (zo ≠ -1 ∧ zo = gm_len s ∧ gq_X g kw h0 u M s h)
theorem gw226 {h0 h : sm_H} {u F zd zi zw zo zp zn : Int} {q8 q9 qa : Option mi_V} {M : List wk_E → Option gm_C} {s : gm_S} (of : mi_in (f F)) (od : mi_in zd) (oi : mi_in zi) (ow : mi_in zw) (oo : mi_in zo) (op : mi_in zp) (on : mi_in zn) (o8 : ∀ v, q8 = some v → mi_ok v) (o9 : ∀ v, q9 = some v → mi_ok v) (oa : ∀ v, qa = some v → mi_ok v) (hz : gq_Z g kw h0 u M s zo h) : me_E (d + 6) 120 226 [some (.inr (.inr 107)), some (.inl (f F)), some (.inl zd), some (.inl zi), some (.inl zw), some (.inl zo), some (.inl zp), some (.inl zn), q8, q9, qa] [] h (gq_Q g kw h0 u M s) := by
  have hS : ab_Sh sx_sk h := by
    rcases hz with hz | hz | hz
    · exact hz.2.1
    · exact hz.2.2.1
    · exact hz.2.2.1
  refine mt_kgwL hS of od oi ow oo op on o8 o9 oa ?_ ?_
  · intro c h1 g1 g2
    have e := me_nil g2
    subst e
    rcases hz with ⟨z1, z2, z3, z4, z5, z6⟩ | hz | hz
    · exact ⟨rfl, z2, z3, z4, Or.inl ⟨z1, z5, z6⟩⟩
    · exact hz.2
    · exact absurd c hz.1
  · intro c h1 g1 g2
    have e := me_nil g2
    subst e
    have hx : gq_X g kw h0 u M s h1 ∧ (mi_f h1 13699 = 0 → zo = gm_len s) := by
      rcases hz with ⟨z1, z2, z3, z4, z5, z6⟩ | hz | hz
      · exact ⟨⟨z2, z3, z4, Or.inl ⟨z1, z5, z6⟩⟩, fun q => by omega⟩
      · exact absurd hz.1 c
      · exact ⟨hz.2.2, fun _ => hz.2.1⟩
    refine ⟨_, me_gleavey (d := d + 3) oo hx.2 hx.1, fun w h2 hw hq => ?_⟩
    have e := hq.1
    subst e
    refine mt_kgwM hq.2.1 of od oi ow oo op on o8 o9 oa ?_
    intro h3 r1 r2
    have e := me_nil r2
    subst e
    exact hq
/-- once it has stopped -/
theorem gw104s {h0 h : sm_H} {u F zd zi zw zo zp zn : Int} {q8 q9 qa : Option mi_V} {M : List wk_E → Option gm_C} {s : gm_S} (of : mi_in (f F)) (od : mi_in zd) (oi : mi_in zi) (ow : mi_in zw) (oo : mi_in zo) (op : mi_in zp) (on : mi_in zn) (o8 : ∀ v, q8 = some v → mi_ok v) (o9 : ∀ v, q9 = some v → mi_ok v) (oa : ∀ v, qa = some v → mi_ok v) (h1 : mi_f h 13699 = 1) (hS : ab_Sh sx_sk h) (hz : gq_Z g kw h0 u M s zo h) : me_E (d + 6) 120 104 [some (.inr (.inr 107)), some (.inl (f F)), some (.inl zd), some (.inl zi), some (.inl zw), some (.inl zo), some (.inl zp), some (.inl zn), q8, q9, qa] [] h (gq_Q g kw h0 u M s) := by
  refine mt_kgwG hS of od oi ow oo op on o8 o9 oa ?_ (by intros; exfalso; omega) (by intros; exfalso; omega) (by intros; exfalso; omega) (by intros; exfalso; omega) (by intros; exfalso; omega) (by intros; exfalso; omega)
  intro b c h2 g1 g2
  have e := me_nil g2
  subst e
  exact gw226 of od oi ow oo op on o8 o9 oa hz
theorem gw206s {h0 h : sm_H} {u F zd zi zw zo zp zn zl : Int} {q9 qa : Option mi_V} {M : List wk_E → Option gm_C} {s : gm_S} (of : mi_in (f F)) (od : mi_in zd) (oi : mi_in zi) (ow : mi_in zw) (oo : mi_in zo) (op : mi_in zp) (n0 : 0 ≤ zn) (n1 : zn ≤ 60) (ol : mi_in zl) (o9 : ∀ v, q9 = some v → mi_ok v) (oa : ∀ v, qa = some v → mi_ok v) (h1 : mi_f h 13699 = 1) (hS : ab_Sh sx_sk h) (hz : gq_Z g kw h0 u M s zo h) : me_E (d + 6) 120 206 [some (.inr (.inr 107)), some (.inl (f F)), some (.inl zd), some (.inl zi), some (.inl zw), some (.inl zo), some (.inl zp), some (.inl zn), some (.inl zl), q9, qa] [] h (gq_Q g kw h0 u M s) := by
  have on : mi_in zn := ⟨by omega, by omega⟩
  have on1 : mi_in (zn + 1) := ⟨by omega, by omega⟩
  have o8 : ∀ v, some (Sum.inl zl : mi_V) = some v → mi_ok v := fun v e => by cases e; exact ol
  refine mt_kgwH hS of od oi ow oo op on ol o9 oa ?_ ?_ ?_
  · intro c
    refine ⟨⟨by omega, by omega⟩, fun h2 g1 g2 => ?_⟩
    have e := me_nil g2
    subst e
    exact gw104s of od oi ow oo ⟨by decide, by decide⟩ on1 o8 o9 oa h1 hS hz
  · intro c1 c2
    refine ⟨⟨by omega, by omega⟩, fun h2 g1 g2 => ?_⟩
    have e := me_nil g2
    subst e
    exact gw104s of od oi ow oo ⟨by decide, by decide⟩ on1 o8 o9 oa h1 hS hz
  · intro c1 c2
    refine ⟨⟨⟨by omega, by omega⟩, by omega, by omega⟩, fun h2 g1 g2 => ?_⟩
    have e := me_nil g2
    subst e
    exact gw104s of od oi ow oo (mi_inT _) on1 o8 o9 oa h1 hS hz
theorem gm_rot_pre {T A B : List (Int × Int × Int)} : gm_rot T.length (T ++ A).length (T ++ A ++ B) = T ++ (B ++ A) := by
  unfold gm_rot
  rw [if_pos ⟨by rw [List.length_append]; omega, by rw [List.length_append, List.length_append, List.length_append]; omega⟩]
  rw [List.drop_left, List.append_assoc T A B, List.take_left, ← List.append_assoc T A B, List.take_left, List.drop_left, List.append_assoc]
theorem gw104 {h0 hm : sm_H} {s sb : gm_S} {u F zd zi zw zo : Int} {M : List wk_E → Option gm_C} {rest : List wk_E → List wk_E} (hS0 : ab_Sh sx_sk h0) (hWF : gq_F f it g Y kw (d + 2) (zd + 1)) (hG0 : cg_G f it g Y kw h0) (F0 : 0 ≤ F) (F1 : F < wk_f Y) (u0 : 1 ≤ u) (u1 : u ≤ 12) (z0 : 0 ≤ zd) (z1 : zd ≤ 5 * (u - 1) + wk_d Y F) (oi : mi_in zi) (ow : mi_in zw) (oo : mi_in zo) (hre : pq_b h0 hm s sb zo rest) : ∀ (N : Nat) (zn zp : Int) (q8 q9 qa : Option mi_V) (h : sm_H) (sj : gm_S), 60 - zn = N → 0 ≤ zn → (zp = -1 ∨ (zn ≤ zp ∧ zp < wk_u Y ∧ it zp ∧ wk_c Y zp = F)) → (∀ v, q8 = some v → mi_ok v) → (∀ v, q9 = some v → mi_ok v) → (∀ v, qa = some v → mi_ok v) → gq_in h u sj → ab_Fr gq_W h0 h → gm_D sj = gm_D sb → pq_A hm sb (gm_D sb) h sj → (∀ r, wk_ul r = u → gm_RO g kw (M r) (wk_it g (N + 1) zp ++ rest r, sj)) → me_E (d + 6) 120 104 [some (.inr (.inr 107)), some (.inl (f F)), some (.inl zd), some (.inl zi), some (.inl zw), some (.inl zo), some (.inl zp), some (.inl zn), q8, q9, qa] [] h (gq_Q g kw h0 u M s) := by
  have hu60 := hG0.1.1
  have of := cg_ok hG0 F0 F1
  have wd := (hG0.1.2.2.2 F F0 F1).2.1
  have od : mi_in zd := ⟨by omega, by omega⟩
  have hru : ∀ r, wk_ul r = u → wk_ul (rest r) = u := fun r hr => by
    rcases hre with ⟨-, e, -⟩ | ⟨-, -, e, -⟩
    · rw [e, hr]
    · rw [e, wk_ul_o, hr, Int.zero_add]
  -- nothing more comes
  have fin : ∀ (zn : Int) (q8 q9 qa : Option mi_V) (h : sm_H) (sj : gm_S) (K : Nat), mi_in zn → (∀ v, q8 = some v → mi_ok v) → (∀ v, q9 = some v → mi_ok v) → (∀ v, qa = some v → mi_ok v) → gq_in h u sj → ab_Fr gq_W h0 h → gm_D sj = gm_D sb → pq_A hm sb (gm_D sb) h sj → (∀ r, wk_ul r = u → gm_RO g kw (M r) (wk_it g (K + 1) (-1) ++ rest r, sj)) → me_E (d + 6) 120 104 [some (.inr (.inr 107)), some (.inl (f F)), some (.inl zd), some (.inl zi), some (.inl zw), some (.inl zo), some (.inl (-1 : Int)), some (.inl zn), q8, q9, qa] [] h (gq_Q g kw h0 u M s) := by
    intro zn q8 q9 qa h sj K on o8 o9 oa hi hF eD hA hM
    obtain ⟨hS, i1, i2, i3, hR⟩ := hi
    have eit : wk_it g (K + 1) (-1) = [] := by rw [wk_it, if_pos (by decide)]
    rw [eit] at hM
    refine mt_kgwG hS of od oi ow oo ⟨by decide, by decide⟩ on o8 o9 oa (by intros; exfalso; omega) ?_ (by intros; exfalso; omega) (by intros; exfalso; omega) (by intros; exfalso; omega) (by intros; exfalso; omega) (by intros; exfalso; omega)
    intro b c1 c2 h1 g1 g2
    have e := me_nil g2
    subst e
    refine gw226 of od oi ow oo ⟨by decide, by decide⟩ on o8 o9 oa (Or.inr ?_)
    rcases hre with ⟨k1, k2, k3, k4⟩ | ⟨k1, k2, k3, k4, k5, ⟨v, k6⟩, k7⟩
    · subst k3
      subst k4
      refine Or.inl ⟨k1, rfl, hS, hF, i3, Or.inr ⟨i1, i2, sj, hR, ⟨eD, hA⟩, fun r hr => ?_⟩⟩
      have := hM r hr
      rw [k2] at this
      exact this
    · obtain ⟨a1, B, a2, a3, a4, a5⟩ := hA
      rw [k6] at a2 a4 a5
      rw [k4] at a3
      have l1' : (gm_T s ++ [(4 + 10 * ((gm_T s).length : Int), v, gm_D s)]).length = (gm_T s).length + 1 := by rw [List.length_append]; rfl
      rw [l1'] at a4 a5
      refine Or.inr ⟨k1, k2, hS, hF, i3, Or.inr ⟨i1, i2, sj, hR, ⟨by rw [eD, k4], by rw [a1, k5], _, v, B, by rw [a2, List.append_assoc]; rfl, a3, a4, fun i hi2 => (a5 i (by omega)).trans (k7 i hi2)⟩, fun r hr => ?_⟩⟩
      have := hM r hr
      rw [k3] at this
      exact this
  intro N
  induction N with
  | zero =>
    intro zn zp q8 q9 qa h sj hN n0 hp o8 o9 oa hi hF eD hA hM
    have e : zp = -1 := by
      rcases hp with e | ⟨e1, e2, -⟩
      · exact e
      · omega
    subst e
    exact fin zn q8 q9 qa h sj 0 ⟨by omega, by omega⟩ o8 o9 oa hi hF eD hA hM
  | succ N ih =>
    intro zn zp q8 q9 qa h sj hN n0 hp o8 o9 oa hi hF eD hA hM
    have on : mi_in zn := ⟨by omega, by omega⟩
    rcases hp with e | ⟨p2, p3, pit, pc⟩
    · subst e
      exact fin zn q8 q9 qa h sj (N + 1) on o8 o9 oa hi hF eD hA hM
    obtain ⟨hS, i1, i2, i3, hR⟩ := id hi
    have p0 : 0 ≤ zp := by omega
    have op : mi_in zp := ⟨by omega, by omega⟩
    have hG : cg_G f it g Y kw h := cg_G_fr hG0 hF hS0 rfl
    obtain ⟨-, -, -, -, -, hU⟩ := hG.2.2.1 zp p0 p3
    obtain ⟨e74, x125, it125, pairs, plain⟩ := hU pit
    obtain ⟨⟨l1, -⟩, lm, ln, -, -, -⟩ := hG.1.2.2.1 zp p0 p3
    have nxt : g 125 zp.toNat = -1 ∨ (zn + 1 ≤ g 125 zp.toNat ∧ g 125 zp.toNat < wk_u Y ∧ it (g 125 zp.toNat) ∧ wk_c Y (g 125 zp.toNat) = F) := by
      by_cases c : 0 ≤ g 125 zp.toNat
      · obtain ⟨a1, a2, a3, -⟩ := ln c
        exact Or.inr ⟨by omega, a1, it125 c, a2.trans pc⟩
      · exact Or.inl (by omega)
    refine mt_kgwG hS of od oi ow oo op on o8 o9 oa (by intros; exfalso; omega) (by intros; exfalso; omega) (by intros; exfalso; omega) (by intros; exfalso; omega) (by intros; exfalso; omega) ?_ ?_
    · intro b c1 c2 c3 c4 c5 c6
      have nm : ¬ 0 ≤ g 124 zp.toNat := fun q => c6 (e74.mpr q)
      have eit : wk_it g (N + 1 + 1) zp = (0, zp, 0) :: wk_it g (N + 1) (g 125 zp.toNat) := by rw [wk_it, if_neg (by omega), if_neg nm]
      rw [eit] at hM
      refine ⟨⟨by omega, by omega⟩, fun h1 g1 g2 => ?_⟩
      have e := me_nil g2
      subst e
      refine ⟨_, me_gunit (d := d) hWF hi hG p0 p3 u0 u1 z0 (by rw [pc]; exact z1), fun w h2 hw hq => ?_⟩
      obtain ⟨rfl, q1, q2, q3, q4⟩ := hq
      have hst : ∀ r, gm_st g kw (0, zp, 0) r sj = gm_u g kw zp r sj := fun r => by
        rw [gm_st_0]
        unfold gm_op
        rw [if_neg (by decide)]
      have hul : ∀ r, wk_ul r = u → wk_ul (wk_it g (N + 1) (g 125 zp.toNat) ++ rest r) = u := fun r hr => by rw [wk_ul_it]; exact hru r hr
      rcases q4 with ⟨q4, q5, q6⟩ | ⟨q4, q5, s2, q6, ⟨q7, q9'⟩, q10⟩
      · refine gw206s of od oi ow oo op n0 (by omega) op o9 oa q4 q1 (Or.inl ⟨q4, q1, hF.trans q2, q3, q5, fun r hr => ?_⟩)
        exact NO_step (e := (0, zp, 0)) (r := wk_it g (N + 1) (g 125 zp.toNat) ++ rest r) (s := sj) (hM r hr) (by rw [hst]; exact q6 _ (hul r hr))
      · have a71 : mi_a h2 71 (Int.toNat zp) = g 125 zp.toNat := (me_a (k := 71) q2 hS rfl rfl).trans (plain nm)
        refine mt_kgwH q1 of od oi ow oo op on op o9 oa (by intros; exfalso; omega) (by intros; exfalso; omega) ?_
        intro b1 b2
        refine ⟨⟨⟨by omega, by omega⟩, by omega, by omega⟩, fun h3 r1 r2 => ?_⟩
        have e := me_nil r2
        subst e
        rw [a71]
        rw [eD] at q9'
        refine ih (zn + 1) (g 125 zp.toNat) _ q9 qa h3 s2 (by omega) (by omega) nxt (fun v e => by cases e; exact op) o9 oa ⟨q1, q4, q5, q3, q6⟩ (hF.trans q2) (q7.trans eD) (pq_A_trans hA q9') (fun r hr => ?_)
        exact RO_step (e := (0, zp, 0)) (r := wk_it g (N + 1) (g 125 zp.toNat) ++ rest r) (s := sj) (hM r hr) (by rw [hst]; exact q10 _ (hul r hr))
    · intro b c1 c2 c3 c4 c5 c6
      have hm := e74.mp c6
      obtain ⟨a71, b71⟩ := pairs hm
      obtain ⟨m1, m2, m3, m4⟩ := lm hm
      have om : mi_in (g 124 zp.toNat) := ⟨by omega, by omega⟩
      have eit : wk_it g (N + 1 + 1) zp = (0, zp, 1) :: (3, 0, 0) :: (0, g 124 zp.toNat, 0) :: (4, 0, 0) :: wk_it g (N + 1) (g 125 zp.toNat) := by rw [wk_it, if_neg (by omega), if_pos hm]
      rw [eit] at hM
      have n56 : mi_f h 13056 = ((gm_T sj).length : Int) := hR.1.1
      have hl100 : gm_len sj ≤ 100 := hR.2.2.2.1
      have lj : gm_len sj = ((gm_T sj).length : Int) := rfl
      refine ⟨⟨by omega, by omega⟩, fun h1 g1 g2 => ?_⟩
      have e := me_nil g2
      subst e
      rw [a71, n56]
      have os : mi_in ((gm_T sj).length : Int) := ⟨by omega, by omega⟩
      -- the pair is open
      have oT : gm_T (gm_op 1 sj) = gm_T sj := by unfold gm_op; rw [if_pos rfl, gm_T_mk]
      have oX : gm_X (gm_op 1 sj) = gm_X sj := by unfold gm_op; rw [if_pos rfl, gm_X_mk]
      have oF : gm_F (gm_op 1 sj) = gm_F sj := by unfold gm_op; rw [if_pos rfl, gm_F_mk]
      have oD : gm_D (gm_op 1 sj) = gm_D sj := by unfold gm_op; rw [if_pos rfl, gm_D_mk]
      have oP : gm_P (gm_op 1 sj) = ((gm_T sj).length, 0) :: gm_P sj := by unfold gm_op; rw [if_pos rfl, gm_P_mk]
      refine ⟨_, me_gunit (d := d) (s := gm_op 1 sj) hWF ⟨hS, i1, i2, i3, gq_R_D hR oT oX oF⟩ hG p0 p3 u0 u1 z0 (by rw [pc]; exact z1), fun w h2 hw hq => ?_⟩
      obtain ⟨rfl, q1, q2, q3, q4⟩ := hq
      have hul : ∀ r, wk_ul r = u → wk_ul (wk_it g (N + 1) (g 125 zp.toNat) ++ rest r) = u := fun r hr => by rw [wk_ul_it]; exact hru r hr
      have hul3 : ∀ r, wk_ul r = u → wk_ul ((3, 0, 0) :: (0, g 124 zp.toNat, 0) :: (4, 0, 0) :: (wk_it g (N + 1) (g 125 zp.toNat) ++ rest r)) = u := fun r hr => by rw [wk_ul_c (by decide), wk_ul_c (by decide), wk_ul_c (by decide)]; exact hul r hr
      have hul4 : ∀ r, wk_ul r = u → wk_ul ((4, 0, 0) :: (wk_it g (N + 1) (g 125 zp.toNat) ++ rest r)) = u := fun r hr => by rw [wk_ul_c (by decide)]; exact hul r hr
      -- the rest of the way, once it has stopped
      have stp : ∀ (h3 : sm_H) (zm : Int), mi_in zm → ab_Sh sx_sk h3 → ab_Fr gq_W h0 h3 → mi_f h3 13699 = 1 → mi_f h3 13700 = 1 → mi_f h3 13701 = u → (∀ r, wk_ul r = u → gm_NO g kw (M r)) → me_E (d + 6) 120 188 [some (.inr (.inr 107)), some (.inl (f F)), some (.inl zd), some (.inl zi), some (.inl zw), some (.inl zo), some (.inl zp), some (.inl zn), some (.inl (g 124 zp.toNat)), some (.inl ((gm_T sj).length : Int)), some (.inl zm)] [] h3 (gq_Q g kw h0 u M s) := by
        intro h3 zm ozm s1 s2 s3 s4 s5 s6
        refine mt_kgwJ s1 of od oi ow oo op on om os ozm ?_
        intro h4 t1 t2
        have e := me_nil t2
        subst e
        refine ⟨_, me_gpairEnds (d := d + 1) s1 os ozm, fun w h5 hw hq => ?_⟩
        obtain ⟨rfl, v1, v2⟩ := hq
        refine mt_kgwK v1 of od oi ow oo op on om os ozm ?_
        intro h6 x1 x2
        have e := me_nil x2
        subst e
        exact gw206s of od oi ow oo op n0 (by omega) om (fun v e => by cases e; exact os) (fun v e => by cases e; exact ozm) ((me_f (c := 13699) v2 s1 rfl rfl).trans s3) v1 (Or.inl ⟨(me_f (c := 13699) v2 s1 rfl rfl).trans s3, v1, s2.trans (v2.wide (fun c hc => ab_swr_ok (by decide) hc)), (me_f (c := 13701) v2 s1 rfl rfl).trans s5, (me_f (c := 13700) v2 s1 rfl rfl).trans s4, s6⟩)
      have hst1 : ∀ r, gm_st g kw (0, zp, 1) r sj = gm_u g kw zp r (gm_op 1 sj) := fun r => gm_st_0
      rcases q4 with ⟨q4, q5, q6⟩ | ⟨q4, q5, s2, q6, ⟨q7, q8', B, q9', fB, zB, loB⟩, q10⟩
      · refine mt_kgwI q1 of od oi ow oo op on om os oa ?_
        intro h3 r1 r2
        have e := me_nil r2
        subst e
        refine ⟨_, me_gunit0 (d := d) q1 q4 om od, fun w h4 hw hq => ?_⟩
        obtain ⟨rfl, rfl⟩ := hq
        refine stp _ _ (mi_inT _) q1 (hF.trans q2) q4 q5 q3 (fun r hr => ?_)
        exact NO_step (e := (0, zp, 1)) (r := (3, 0, 0) :: (0, g 124 zp.toNat, 0) :: (4, 0, 0) :: (wk_it g (N + 1) (g 125 zp.toNat) ++ rest r)) (s := sj) (hM r hr) (by rw [hst1]; exact q6 _ (hul3 r hr))
      · -- the middle
        rw [oP] at q8'
        rw [oD] at q7 fB
        rw [oT] at q9' zB loB
        have m56 : mi_f h2 13056 = ((gm_T s2).length : Int) := q6.1.1
        have l2 : gm_len s2 = ((gm_T s2).length : Int) := rfl
        have l2b : gm_len s2 ≤ 100 := q6.2.2.2.1
        have omd : mi_in ((gm_T s2).length : Int) := ⟨by omega, by omega⟩
        have mT : gm_T (gm_mid s2) = gm_T s2 := by unfold gm_mid; rw [gm_T_mk]
        have mX : gm_X (gm_mid s2) = gm_X s2 := by unfold gm_mid; rw [gm_X_mk]
        have mF : gm_F (gm_mid s2) = gm_F s2 := by unfold gm_mid; rw [gm_F_mk]
        have mD : gm_D (gm_mid s2) = gm_D s2 := by unfold gm_mid; rw [gm_D_mk]
        have mP : gm_P (gm_mid s2) = ((gm_T sj).length, (gm_T s2).length) :: gm_P sj := by unfold gm_mid; rw [gm_P_mk, q8']
        have hM2 : ∀ r, wk_ul r = u → gm_RO g kw (M r) ((0, g 124 zp.toNat, 0) :: (4, 0, 0) :: (wk_it g (N + 1) (g 125 zp.toNat) ++ rest r), gm_mid s2) := fun r hr => RO_step (e := (3, 0, 0)) (r := (0, g 124 zp.toNat, 0) :: (4, 0, 0) :: (wk_it g (N + 1) (g 125 zp.toNat) ++ rest r)) (s := s2) (RO_step (e := (0, zp, 1)) (r := (3, 0, 0) :: (0, g 124 zp.toNat, 0) :: (4, 0, 0) :: (wk_it g (N + 1) (g 125 zp.toNat) ++ rest r)) (s := sj) (hM r hr) (by rw [hst1]; exact q10 _ (hul3 r hr))) (by rw [gm_st_3]; exact RO_refl)
        have hst2 : ∀ r, gm_st g kw (0, g 124 zp.toNat, 0) r (gm_mid s2) = gm_u g kw (g 124 zp.toNat) r (gm_mid s2) := fun r => by
          rw [gm_st_0]
          unfold gm_op
          rw [if_neg (by decide)]
        refine mt_kgwI q1 of od oi ow oo op on om os oa ?_
        intro h3 r1 r2
        have e := me_nil r2
        subst e
        rw [m56]
        refine ⟨_, me_gunit (d := d) (s := gm_mid s2) hWF ⟨q1, q4, q5, q3, gq_R_D q6 mT mX mF⟩ (cg_G_fr hG q2 hS rfl) hm m1 u0 u1 z0 (by rw [m2, pc]; exact z1), fun w h4 hw hq => ?_⟩
        obtain ⟨rfl, v1, v2, v3, v4⟩ := hq
        rcases v4 with ⟨v4, v5, v6⟩ | ⟨v4, v5, s3, v6, ⟨v7, v8, C, v9, fC, zC, loC⟩, v10⟩
        · refine stp h4 _ omd v1 ((hF.trans q2).trans v2) v4 v5 v3 (fun r hr => ?_)
          exact NO_step (e := (0, g 124 zp.toNat, 0)) (r := (4, 0, 0) :: (wk_it g (N + 1) (g 125 zp.toNat) ++ rest r)) (s := gm_mid s2) (hM2 r hr) (by rw [hst2]; exact v6 _ (hul4 r hr))
        · rw [mP] at v8
          rw [mD] at v7 fC
          rw [mT] at v9 zC loC
          rw [q7] at fC
          have hM3 : ∀ r, wk_ul r = u → gm_RO g kw (M r) (wk_it g (N + 1) (g 125 zp.toNat) ++ rest r, gm_tu s3) := fun r hr => RO_step (e := (4, 0, 0)) (r := wk_it g (N + 1) (g 125 zp.toNat) ++ rest r) (s := s3) (RO_step (e := (0, g 124 zp.toNat, 0)) (r := (4, 0, 0) :: (wk_it g (N + 1) (g 125 zp.toNat) ++ rest r)) (s := gm_mid s2) (hM2 r hr) (by rw [hst2]; exact v10 _ (hul4 r hr))) (by rw [gm_st_4]; exact RO_refl)
          have etu : gm_tu s3 = (gm_X s3, gm_F s3, gm_rot (gm_T sj).length (gm_T s2).length (gm_T s3), gm_D s3, gm_P sj) := by
            unfold gm_tu
            rw [v8]
          have eT3 : gm_T s3 = gm_T sj ++ B ++ C := by rw [v9, q9']
          have l3b : gm_len s3 ≤ 100 := v6.2.2.2.1
          have l3 : gm_len s3 = ((gm_T s3).length : Int) := rfl
          have lens : (gm_T s2).length = (gm_T sj).length + B.length := by rw [q9', List.length_append]
          have lens3 : (gm_T s3).length = (gm_T s2).length + C.length := by rw [v9, List.length_append]
          refine mt_kgwJ v1 of od oi ow oo op on om os omd ?_
          intro h5 t1 t2
          have e := me_nil t2
          subst e
          refine ⟨_, me_gexchs (d := d + 1) v1 v6.1 (by omega) (by omega) (by omega), fun w h6 hw hq => ?_⟩
          obtain ⟨rfl, y1, y2, y3, y4⟩ := hq
          refine mt_kgwK y1 of od oi ow oo op on om os omd ?_
          intro h7 k1 k2
          have e := me_nil k2
          subst e
          have hR7 : gq_R h7 (gm_tu s3) := by
            obtain ⟨b1, b2, b3, b4, b5, b6⟩ := v6
            rw [etu]
            unfold gq_R gm_len
            rw [gm_T_mk, gm_X_mk, gm_F_mk, gm_rot_len]
            exact ⟨y3, (me_l (c := 13702) y2 v1 rfl rfl).trans b2, (me_f (c := 13703) y2 v1 rfl rfl).trans b3, b4, b5, b6⟩
          have F7 : ab_Fr gq_W h0 h7 := ((hF.trans q2).trans v2).trans (y2.wide (fun c hc => ab_swr_ok (by decide) hc))
          have c71 : mi_a h7 71 (Int.toNat (g 124 zp.toNat)) = g 125 zp.toNat := by
            rw [me_a (k := 71) y2 v1 rfl rfl, me_a (k := 71) v2 q1 rfl rfl, me_a (k := 71) q2 hS rfl rfl]
            exact b71
          have lT : (gm_T s3).length = (gm_T sj).length + B.length + C.length := by omega
          have hAp : pq_A h1 sj (gm_D sb) h7 (gm_tu s3) := by
            refine ⟨by rw [etu, gm_P_mk], C ++ B, by rw [etu, gm_T_mk, eT3, q9', gm_rot_pre], fo_app (by rw [← eD]; exact fC) (by rw [← eD]; exact fB), ?_, fun i hi2 => ?_⟩
            · rw [lens] at zC y4
              rw [lT] at y4
              exact gz_rot (h := h5) fB fC (gz_eq zB (fun i i1 i2 => loC i (by omega))) zC y4
            · rw [y4 i (by omega)]
              unfold ro_i
              rw [if_pos hi2, loC i (by omega), loB i hi2]
          refine mt_kgwH y1 of od oi ow oo op on om (fun v e => by cases e; exact os) (fun v e => by cases e; exact omd) (by intros; exfalso; omega) (by intros; exfalso; omega) ?_
          intro b1 b2
          refine ⟨⟨⟨by omega, by omega⟩, by omega, by omega⟩, fun h8 n1 n2 => ?_⟩
          have e := me_nil n2
          subst e
          rw [c71]
          exact ih (zn + 1) (g 125 zp.toNat) _ _ _ h8 (gm_tu s3) (by omega) (by omega) nxt (fun v e => by cases e; exact om) (fun v e => by cases e; exact os) (fun v e => by cases e; exact omd) ⟨y1, (me_f (c := 13699) y2 v1 rfl rfl).trans v4, (me_f (c := 13700) y2 v1 rfl rfl).trans v5, (me_f (c := 13701) y2 v1 rfl rfl).trans v3, hR7⟩ F7 (by rw [etu, gm_D_mk, v7, q7, eD]) (pq_A_trans hA hAp) hM3
theorem me_gform {zd : Int} (hWF : gq_F f it g Y kw (d + 2) (zd + 1)) (z0 : 0 ≤ zd) : gq_F f it g Y kw (d + 6) zd := by
  intro h s u F hi hG F0 F1 u0 u1 hz
  obtain ⟨hS, i1, i2, i3, hR⟩ := id hi
  have of := cg_ok hG F0 F1
  have hF := hG.2.1 F F0 F1
  obtain ⟨⟨f0, f1⟩, f2, f3, f4, f5⟩ := id hF
  obtain ⟨d1, d2, d3, d4, dB, d5⟩ := hG.1.2.2.2 F F0 F1
  have od : mi_in zd := ⟨by omega, by omega⟩
  -- from where the parts are gone through
  have go79 : ∀ (zi zw zo : Int) (rest : List wk_E → List wk_E) (h1 : sm_H) (sj : gm_S), mi_in zi → mi_in zo → 0 ≤ zw → zw < g 130 F.toNat → gq_in h1 u sj → ab_Fr gq_W h h1 → pq_b h h1 s sj zo rest → (∀ r, wk_ul r = u → gm_RO g kw (gm_fo g F r s) (wk_it g 61 (g 126 (wk_alt g zw.toNat (g 129 F.toNat)).toNat) ++ rest r, sj)) → me_E (d + 6) 120 79 [some (.inr (.inr 107)), some (.inl (f F)), some (.inl zd), some (.inl zi), some (.inl zw), some (.inl zo), none, none, none, none, none] [] h1 (gq_Q g kw h u (fun r => gm_fo g F r s) s) := by
    intro zi zw zo rest h1 sj oi oo w0 w1 hi1 hF1 hre hM
    have hS1 := hi1.1
    have ow : mi_in zw := ⟨by omega, by omega⟩
    have hG1 := cg_G_fr hG hF1 hS rfl
    have hFF := hG1.2.1 F F0 F1
    refine mt_kgwE hS1 of od oi ow oo ?_
    intro h2 g1 g2
    have e := me_nil g2
    subst e
    refine ⟨_, me_galt (d := d + 4) hS1 hFF w0 w1, fun w h3 hw hq => ?_⟩
    obtain ⟨rfl, rfl⟩ := hq
    obtain ⟨⟨p1, p2⟩, p3, -, -, -, p6, p7⟩ := hFF.2.2.2.2 zw.toNat (by omega)
    obtain ⟨-, -, p8⟩ := d5 zw.toNat (by omega)
    generalize wk_alt g zw.toNat (g 129 F.toNat) = a at hw p1 p2 p3 p6 p7 p8 hM ⊢
    refine mt_kgwF hS1 of od oi ow oo (hw _ rfl) (by intros; exfalso; omega) (by intros; exfalso; omega) ?_
    intro c1 c2
    refine ⟨⟨by omega, by omega⟩, fun h4 r1 r2 => ?_⟩
    have e := me_nil r2
    subst e
    rw [p3]
    refine gw104 (d := d) (M := fun r => gm_fo g F r s) (rest := rest) hS hWF hG F0 F1 u0 u1 z0 hz oi ow oo hre 60 0 (g 126 a.toNat) none none none h4 sj (by decide) (by decide) ?_ (fun v e => by cases e) (fun v e => by cases e) (fun v e => by cases e) hi1 hF1 rfl pq_A_refl hM
    by_cases c : 0 ≤ g 126 a.toNat
    · have := p8.resolve_left (by omega)
      exact Or.inr ⟨c, this.1, p7 c, this.2⟩
    · exact Or.inl (by omega)
  refine mt_kgwA (d := d + 4) hS of od (by intros; exfalso; omega) (by intros; exfalso; omega) (by intros; exfalso; omega) ?_ ?_ (by intros; exfalso; omega)
  · intro b c1 c2 c3 c4 c5
    rw [f3] at c5
    refine ⟨⟨by omega, by omega⟩, fun h1 g1 g2 => ?_⟩
    have e := me_nil g2
    subst e
    refine mt_kgwC hS of od ⟨by decide, by decide⟩ ⟨by decide, by decide⟩ ?_ (by intros; exfalso; omega) (by intros; exfalso; omega)
    intro c6 h2 r1 r2
    have e := me_nil r2
    subst e
    refine go79 0 0 (-1) id h2 s ⟨by decide, by decide⟩ ⟨by decide, by decide⟩ (by decide) (by omega) hi ab_Fr.refl (Or.inl ⟨rfl, fun r => rfl, rfl, rfl⟩) (fun r hr => ?_)
    unfold gm_fo
    rw [if_neg (by omega)]
    exact RO_refl
  · intro b c1 c2 c3 c4 c5
    rw [f3] at c5
    refine ⟨⟨by omega, by omega⟩, fun h1 g1 g2 => ?_⟩
    have e := me_nil g2
    subst e
    refine ⟨_, me_gchosen (d := d + 3) hS hR hF d3 d4, fun w h2 hw hq => ?_⟩
    obtain ⟨q1, q2, q3, rfl⟩ := hq
    have wb := gm_w_b (g := g) gm_vbt (f := F) d3 (by omega) s
    obtain ⟨y1, y2, y3, y4⟩ := gm_y_e (s := s)
    have yT : gm_T (gm_y s) = gm_T s := by unfold gm_y; rw [gm_T_mk]
    have owz : mi_in (gm_w g F s) := ⟨by omega, by omega⟩
    refine mt_kgwB q1 of od ⟨by decide, by decide⟩ owz ?_
    intro h3 r1 r2
    have e := me_nil r2
    subst e
    have z9 : mi_f h3 13699 = 0 := (me_f (c := 13699) q2 hS rfl rfl).trans i1
    have zz : mi_f h3 13700 = 0 := (me_f (c := 13700) q2 hS rfl rfl).trans i2
    refine mt_kgwC q1 of od ⟨by decide, by decide⟩ owz (by intros; exfalso; omega) (by intros; exfalso; omega) ?_
    intro b2 c6 c7 h4 s1 s2
    have e := me_nil s2
    subst e
    refine ⟨_, me_genter (d := d + 3) q1 ⟨by decide, by decide⟩ owz z9 zz q3, fun w3 h5 hw3 hq3 => ?_⟩
    obtain ⟨t1, t2, t3⟩ := hq3
    have e01 : mi_f h5 13701 = u := ((me_f (c := 13701) t2 q1 rfl rfl).trans (me_f (c := 13701) q2 hS rfl rfl)).trans i3
    have F5 : ab_Fr gq_W h1 h5 := (q2.wide (fun c hc => ab_swr_ok (by decide) hc)).trans (t2.wide (fun c hc => ab_swr_ok (by decide) hc))
    rcases t3 with ⟨t3, rfl, t4, t5⟩ | ⟨t, t3, rfl, t4, t5, t6, t7⟩
    · -- no room: nothing more is done
      have hz2 : gq_Z g kw h1 u (fun r => gm_fo g F r s) s (-1) h5 := Or.inl ⟨t4, t1, F5, e01, t5, fun r _ => Or.inl (by
        dsimp only
        unfold gm_fo
        rw [if_pos c5, t3]
        rfl)⟩
      refine mt_kgwD t1 of od ⟨by decide, by decide⟩ owz ⟨by decide, by decide⟩ ?_
      intro h6 l1 l2
      have e := me_nil l2
      subst e
      refine mt_kgwE t1 of od ⟨by decide, by decide⟩ owz ⟨by decide, by decide⟩ ?_
      intro h7 l3 l4
      have e := me_nil l4
      subst e
      have hFF := (cg_G_fr hG F5 hS rfl).2.1 F F0 F1
      refine ⟨_, me_galt (d := d + 4) t1 hFF wb.1 wb.2, fun w h8 hw hq => ?_⟩
      obtain ⟨rfl, rfl⟩ := hq
      have on0 : mi_in (0 : Int) := ⟨by decide, by decide⟩
      refine mt_kgwF t1 of od ⟨by decide, by decide⟩ owz ⟨by decide, by decide⟩ (hw _ rfl) ?_ ?_ ?_
      · intro c8 h9 k1 k2
        have e := me_nil k2
        subst e
        exact gw104s of od ⟨by decide, by decide⟩ owz ⟨by decide, by decide⟩ on0 on0 (fun v e => by cases e) (fun v e => by cases e) (fun v e => by cases e) t4 t1 hz2
      · intro c8 c9 h9 k1 k2
        have e := me_nil k2
        subst e
        exact gw104s of od ⟨by decide, by decide⟩ owz ⟨by decide, by decide⟩ on0 on0 (fun v e => by cases e) (fun v e => by cases e) (fun v e => by cases e) t4 t1 hz2
      · intro c8 c9
        refine ⟨⟨by omega, by omega⟩, fun h9 k1 k2 => ?_⟩
        have e := me_nil k2
        subst e
        exact gw104s of od ⟨by decide, by decide⟩ owz ⟨by decide, by decide⟩ (mi_inT _) on0 (fun v e => by cases e) (fun v e => by cases e) (fun v e => by cases e) t4 t1 hz2
    · obtain ⟨x1, x2, x3, x4, x5⟩ := gm_c_t t3
      obtain ⟨v1, v2, v3, v4⟩ := gm_d_e (t := t)
      have dT : gm_T (gm_d t) = gm_T t := by unfold gm_d; rw [gm_T_mk]
      have dX : gm_X (gm_d t) = gm_X t := by unfold gm_d; rw [gm_X_mk]
      have hl := q3.2.2.2.1
      have ln : gm_len (gm_y s) = ((gm_T (gm_y s)).length : Int) := rfl
      have oo : mi_in (gm_len (gm_y s)) := ⟨by omega, by omega⟩
      refine mt_kgwD t1 of od ⟨by decide, by decide⟩ owz oo ?_
      intro h6 l1 l2
      have e := me_nil l2
      subst e
      refine go79 1 (gm_w g F s) _ (fun r => (2, 0, 0) :: r) h6 (gm_d t) ⟨by decide, by decide⟩ oo wb.1 wb.2 ⟨t1, t4, t5, e01, gq_R_D t6 dT dX v2⟩ F5 (Or.inr ⟨by omega, by rw [y1], fun r => rfl, by omega, by rw [v4, x5, y4], ⟨gm_w g F s, by rw [dT, x3, yT, y3]⟩, fun i hi2 => by rw [t7, yT, if_neg (by omega), me_a (k := 105) q2 hS rfl rfl]⟩) (fun r hr => ?_)
      unfold gm_fo
      rw [if_pos c5, t3]
      exact RO_refl
/-- all depths -/
theorem gq_F_all : ∀ k : Nat, k ≤ 60 → gq_F f it g Y kw (2 + 4 * k) (60 - (k : Int)) := by
  intro k
  induction k with
  | zero =>
    intro _ h s u F hi hG F0 F1 u0 u1 hz
    have := (hG.1.2.2.2 F F0 F1).2.1
    exfalso; omega
  | succ k ih =>
    intro hk
    have e : (60 : Int) - ((k + 1 : Nat) : Int) + 1 = 60 - (k : Int) := by omega
    have := me_gform (d := 4 * k) (f := f) (it := it) (g := g) (Y := Y) (kw := kw) (zd := 60 - ((k + 1 : Nat) : Int)) (by
      rw [e, Nat.add_comm]
      exact ih (by omega)) (by omega)
    have e2 : 2 + 4 * (k + 1) = 4 * k + 6 := by omega
    rw [e2]
    exact this
/-- the walk: all its turns are the pure one's -/
theorem me_gwalk {h : sm_H} {x : Int64} {fu : Int} (hS : ab_Sh sx_sk h) (hG : cg_G f it g Y kw h) (r0 : 0 ≤ g 114 0) (r1 : g 114 0 < wk_f Y) (rf : f (g 114 0) = 0) (hx : mx_l h 13702 = x) (hf : mi_f h 13703 = fu) (f0 : 0 ≤ fu) (f1 : fu ≤ 20) : me_E 244 103 0 [some (.inr (.inr 107))] [] h (gq_Q g kw h 0 (fun r => gm_en g 0 r (x, fu, [], 0, [])) (x, fu, [], 0, [])) := by
  refine mt_kggA (d := 240) hS ?_
  intro h1 g1 g2 g3 g4 g5 g6
  have hG1 := cg_G_fr hG g6 hS rfl
  have hR1 : gq_R h1 (x, fu, [], 0, []) := by
    unfold gq_R gm_len
    rw [gm_T_mk, gm_X_mk, gm_F_mk]
    exact ⟨⟨g2, fun k hk => absurd hk (Nat.not_lt_zero _)⟩, (me_l (c := 13702) g6 hS rfl rfl).trans hx, (me_f (c := 13703) g6 hS rfl rfl).trans hf, by decide, by show -(0 : Int) ≤ fu; omega, f1⟩
  refine ⟨_, me_guse (d := 240) (u := 0) (i := 0) (zd := 0) (s := (x, fu, [], 0, [])) (gq_F_all 60 (by decide)) ⟨g1, g3, g4, g5, hR1⟩ hG1 (by decide) (by decide) r0 r1 rf (by decide) (by decide) (by decide) (by decide), fun w h2 hw hq => ?_⟩
  obtain ⟨rfl, q1, q2, q3, q4⟩ := hq
  have Q : gq_Q g kw h 0 (fun r => gm_en g 0 r (x, fu, [], 0, [])) (x, fu, [], 0, []) none h2 := by
    refine ⟨rfl, q1, (g6.wide (fun c hc => ab_swr_ok (by decide) hc)).trans q2, q3, ?_⟩
    rcases q4 with q4 | ⟨a, b, s', c, ⟨d1, d2, A, d3, d4, d5, d6⟩, e⟩
    · exact Or.inl q4
    · refine Or.inr ⟨a, b, s', c, ⟨d1, d2, A, d3, d4, d5, fun k hk => ?_⟩, e⟩
      rw [gm_T_mk] at hk
      exact absurd hk (Nat.not_lt_zero _)
  refine mt_kggB (d := 240) q1 ?_ ?_
  · intro b c h3 r1 r2
    have e := me_nil r2
    subst e
    exact Q
  · intro b c h3 r1 r2
    have e := me_nil r2
    subst e
    exact Q
end CW5
/-! grow of the reference, exactly -/
section GRX
variable {g g' : wk_g} {kw : Int → Bool}
theorem gm_st_g (hg : wk_gc g g') (h3 : ∀ i, g' 143 i = g 143 i) {e : wk_E} {r : List wk_E} {s : gm_S} : gm_st g' kw e r s = gm_st g kw e r s := by
  unfold gm_st
  simp only [hg 122 (by decide), gm_sg_g hg, hg 130 (by decide), hg 126 (by decide), gm_w_g hg h3, wk_it_g hg, wk_alt_g hg, hg 129 (by decide)]
theorem gm_to_g (hg : wk_gc g g') (h3 : ∀ i, g' 143 i = g 143 i) {c1 : gm_C} : ∀ (n : Nat) (c : gm_C), gm_to g' kw n c c1 → gm_to g kw n c c1 := by
  intro n
  induction n with
  | zero => intro c h; exact h
  | succ n ih =>
    intro c h
    obtain ⟨e, r, c2, a1, a2, a3⟩ := h
    exact ⟨e, r, c2, a1, by rw [← gm_st_g hg h3]; exact a2, ih c2 a3⟩
theorem gm_no_g (hg : wk_gc g g') (h3 : ∀ i, g' 143 i = g 143 i) : ∀ (n : Nat) (c : gm_C), gm_no g' kw n c → gm_no g kw n c := by
  intro n
  induction n with
  | zero =>
    intro c h
    obtain ⟨e, r, a1, a2⟩ := h
    exact ⟨e, r, a1, by rw [← gm_st_g hg h3]; exact a2⟩
  | succ n ih =>
    intro c h
    obtain ⟨e, r, c2, a1, a2, a3⟩ := h
    exact ⟨e, r, c2, a1, by rw [← gm_st_g hg h3]; exact a2, ih c2 a3⟩
end GRX
/-- the tree that was taken: what is the k-th node, through the order -/
def gs_T (h : sm_H) (T : List (Int × Int × Int)) : Prop := mi_f h 14015 = (T.length : Int) ∧ (∀ k : Nat, k < T.length → 0 ≤ mi_a h 157 k ∧ mi_a h 157 k < (T.length : Int) ∧ T[k]? = some (mi_a h 155 (mi_a h 157 k).toNat + 10 * mi_a h 157 k, (mx_b h 162 (mi_a h 157 k).toNat).toInt, mi_a h 156 (mi_a h 157 k).toNat) ∧ 0 ≤ mi_a h 155 (mi_a h 157 k).toNat ∧ mi_a h 155 (mi_a h 157 k).toNat < 10) ∧ ∀ k j : Nat, k < T.length → j < T.length → mi_a h 157 k = mi_a h 157 j → k = j
section GRY
variable {d : Nat} {h : sm_H}
theorem me_takex (hS0 : ab_Sh sx_sk h) : me_E d 231 0 [some (.inr (.inr 109)), none] [] h (fun w h' => w = some (.inl (mi_f h 14016)) ∧ ab_Sh sx_sk h' ∧ ab_Fr ta_W h h' ∧ mi_f h' 14015 = mi_f h 14016 ∧ ∀ i : Nat, (i : Int) < mi_f h 14016 → (mi_a h' 155 i = mi_a h 158 i ∧ mi_a h' 156 i = mi_a h 159 i) ∧ mi_a h' 157 i = mi_a h 160 i ∧ mx_b h' 162 i = mx_b h 163 i) := by
  have b0 := me_fb (c := 14016) hS0 rfl
  have main : ∀ (N : Nat) (zk : Int) (h1 : sm_H), mi_f h 14016 - zk < N → 0 ≤ zk → zk ≤ mi_f h 14016 → ab_Sh sx_sk h1 → ab_Fr ta_W h h1 → mi_f h1 14015 = mi_f h 14016 → (∀ i : Nat, (i : Int) < zk → (mi_a h1 155 i = mi_a h 158 i ∧ mi_a h1 156 i = mi_a h 159 i) ∧ mi_a h1 157 i = mi_a h 160 i ∧ mx_b h1 162 i = mx_b h 163 i) → me_E d 231 10 [some (.inr (.inr 109)), some (.inl zk)] [] h1 (fun w h' => w = some (.inl (mi_f h 14016)) ∧ ab_Sh sx_sk h' ∧ ab_Fr ta_W h h' ∧ mi_f h' 14015 = mi_f h 14016 ∧ ∀ i : Nat, (i : Int) < mi_f h 14016 → (mi_a h' 155 i = mi_a h 158 i ∧ mi_a h' 156 i = mi_a h 159 i) ∧ mi_a h' 157 i = mi_a h 160 i ∧ mx_b h' 162 i = mx_b h 163 i) := by
    intro N
    induction N with
    | zero => intro zk h1 hN _ _; exfalso; omega
    | succ N ih =>
      intro zk h1 hN k0 k1 hS hF hn hi
      have e16 : mi_f h1 14016 = mi_f h 14016 := me_f (c := 14016) hF hS0 rfl rfl
      refine mt_taB hS ⟨by omega, by omega⟩ ?_ ?_
      · intro b c h2 g1 g2
        have e2 := me_nil g2
        subst e2
        exact ⟨by rw [hn], hS, hF, hn, fun i hi2 => hi i (by omega)⟩
      · intro b c
        have bo := me_ab (k := 160) (i := zk.toNat) hS rfl (by decide) (by omega)
        refine ⟨by omega, fun h2 g1 g2 g3 g4 g5 g6 => ?_⟩
        refine ih (zk + 1) h2 (by omega) (by omega) (by omega) g1 (hF.trans (g6.wide (fun c hc => ab_swr_ok (by decide) hc))) ((me_f (c := 14015) g6 hS rfl rfl).trans hn) (fun i hi2 => ?_)
        rw [g2, g3, g4, g5]
        by_cases e : i = zk.toNat
        · rw [if_pos e, if_pos e, if_pos e, if_pos e, me_a (k := 158) hF hS0 rfl rfl, me_a (k := 159) hF hS0 rfl rfl, me_a (k := 160) hF hS0 rfl rfl, me_b (k := 163) hF hS0 rfl rfl, e]
          exact ⟨⟨rfl, rfl⟩, rfl, rfl⟩
        · rw [if_neg e, if_neg e, if_neg e, if_neg e]
          exact hi i (by omega)
  refine mt_taA hS0 ?_
  intro b
  refine ⟨by omega, fun h1 g1 g2 g3 => ?_⟩
  exact main 200 0 h1 (by omega) (by decide) (by omega) g1 (g3.wide (fun c hc => ab_swr_ok (by decide) hc)) g2 (fun i hi => by exfalso; omega)
theorem gs_T_of {h h' : sm_H} {T : List (Int × Int × Int)} (hT : gx_T h T) (e1 : mi_f h' 14015 = mi_f h 14016) (e2 : ∀ i : Nat, (i : Int) < mi_f h 14016 → (mi_a h' 155 i = mi_a h 158 i ∧ mi_a h' 156 i = mi_a h 159 i) ∧ mi_a h' 157 i = mi_a h 160 i ∧ mx_b h' 162 i = mx_b h 163 i) : gs_T h' T := by
  obtain ⟨t1, t2, t3⟩ := hT
  refine ⟨e1.trans t1, fun k hk => ?_, fun k j hk hj e => ?_⟩
  · obtain ⟨a1, a2, a3⟩ := t2 k hk
    obtain ⟨-, b3, -⟩ := e2 k (by omega)
    rw [b3]
    obtain ⟨⟨c1, c2⟩, -, c4⟩ := e2 (mi_a h 160 k).toNat (by omega)
    rw [c1, c2, c4]
    exact ⟨a1, a2, a3⟩
  · rw [(e2 k (by omega)).2.1, (e2 j (by omega)).2.1] at e
    exact t3 k j hk hj e
/-- from where the growing walk goes -/
def gr_c0 (g : wk_g) (x : Int64) (fu : Int) : gm_C := ([(1, g 114 0, 0), (2, 1, 0)], (x, fu - 1, [(1, 0, 0)], 1, []))
def gr_X (h : sm_H) (zx : Int64) (zf : Int) (w : Option mi_V) (h' : sm_H) : Prop := ((zf < 0 ∨ 20 < zf) → mi_f h' 13952 = 1) ∧ (0 ≤ zf → zf ≤ 20 → mi_f h 13959 < 2 → mi_f h' 13952 = 2) ∧ (0 ≤ zf → zf ≤ 20 → 2 ≤ mi_f h 13959 → ((∃ n, gm_no (mi_a h) (gx_k h) n (gr_c0 (mi_a h) zx zf)) ∧ mi_f h' 13952 = 3) ∨ ∃ n s', gm_to (mi_a h) (gx_k h) n (gr_c0 (mi_a h) zx zf) ([], s') ∧ mi_f h' 13952 = 0 ∧ w = some (.inl ((gm_T s').length : Int)) ∧ gs_T h' (gm_T s'))
theorem me_growx {zx : Int64} {zf : Int} (hS : ab_Sh sx_sk h) (of : mi_in zf) (hY : 2 ≤ mi_f h 13959 → ∃ Y, wk_L (mi_a h) Y ∧ wk_Lrule Y (mi_a h 114 0) ∧ ∀ f, 0 ≤ f → f < wk_f Y → mi_a h 130 f.toNat ≤ 10000) : me_E (d + 20) 232 0 [some (.inr (.inr 109)), some (.inr (.inl zx)), none, some (.inl zf)] [] h (gr_X h zx zf) := by
  refine mt_groA hS of ?_ ?_ ?_ ?_
  · intro c h1 g1 g2 g3
    exact ⟨fun _ => g2, fun a => by omega, fun a => by omega⟩
  · intro b c1 c2 c3 h2 g1 g2 g3 g4 g5
    obtain ⟨Y, l1, l2, l3⟩ := hY c3
    have hg : wk_gc (mi_a h) (mi_a h2) := wk_gc_fr g5 hS rfl
    have h143 : ∀ i, mi_a h2 143 i = mi_a h 143 i := fun i => me_a (k := 143) g5 hS rfl rfl
    have hk : gx_k h2 = gx_k h := gx_k_fr g5 hS rfl rfl
    have e14 : mi_a h2 114 0 = mi_a h 114 0 := hg 114 (by decide) 0
    have L2 : wk_L (mi_a h2) Y := wk_L_g l1 hg
    refine ⟨_, me_walkx (d := d + 12) (Y := Y) g1 L2 (by rw [e14]; exact l2) (by omega) (by omega), fun w h3 ow hq => ?_⟩
    obtain ⟨rfl, q4, q5, q6⟩ := hq
    rw [e14, g3, g4] at q6
    have hK0 : gm_K Y [(1, mi_a h 114 0, 0), (2, 1, 0)] := ⟨gm_k_1 l2.1 l2.2.1 l2.2.2, gm_k_o (by decide) (by decide) (by decide), trivial⟩
    refine mt_groB q4 of ?_ ?_
    · intro b1 c4 h4 r1 r2 r3
      refine ⟨_, me_takex (d := d + 19) r1, fun w h5 ow hq => ?_⟩
      obtain ⟨rfl, t0, t1, t2, t3⟩ := hq
      refine mt_groC t0 of (ow _ rfl) ?_
      intro h6 u1 u2
      have e6 := me_nil u2
      subst e6
      refine ⟨fun a => by omega, fun a1 a2 a3 => by omega, fun _ _ _ => Or.inr ?_⟩
      rcases q6 with q6 | ⟨zt, z0, z1, z2, hI, s, hR, hto, hJ⟩
      · exfalso; omega
      · have hto := gm_to_g hg h143 _ _ hto
        rw [hk] at hto
        -- the limit of turns is not reached
        have hpot := gm_to_pot l1 gm_vbt l3 zt.toNat _ (show gm_K Y (gr_c0 (mi_a h) zx zf).1 from hK0) hto
        obtain ⟨-, p2, p3⟩ := hpot
        have pnn : 0 ≤ gm_pot Y (wk_stk h3) := by
          have := (gm_to_pot l1 gm_vbt l3 zt.toNat _ (show gm_K Y (gr_c0 (mi_a h) zx zf).1 from hK0) hto).1
          exact gm_pot_nn l1 _ this
        have jl := hJ.2.2.1.2
        dsimp only at jl
        have est : wk_stk h3 = [] := by
          rcases z2 with z2 | z2
          · exact z2
          · exfalso
            have e0 : gm_len (gr_c0 (mi_a h) zx zf).2 = 1 := by
              unfold gr_c0 gm_len
              rw [gm_T_mk]
              rfl
            have ep : gm_pot Y (gr_c0 (mi_a h) zx zf).1 ≤ 182 := by
              show gm_e1 Y (1, mi_a h 114 0, 0) + (gm_e1 Y (2, 1, 0) + 0) ≤ 182
              rw [gm_e_1, gm_e_o (by decide) (by decide) (by decide)]
              have := l2.2.2
              omega
            dsimp only at p2 p3
            omega
        rw [est] at hto
        have r16 := hR.1.1
        have e16 : mi_f h4 14016 = mi_f h3 14016 := me_f (c := 14016) r3 q4 rfl rfl
        refine ⟨zt.toNat, s, hto, ?_, by rw [e16, r16], gs_T_of (gx_T_fr hR.1 r3 q4 rfl) t2 t3⟩
        rw [me_f (c := 13952) t1 r1 rfl rfl]
        exact r2
    · intro b1 c4 h4 r1 r2 r3
      refine ⟨fun a => by omega, fun a1 a2 a3 => by omega, fun _ _ _ => Or.inl ⟨?_, r2⟩⟩
      rcases q6 with ⟨-, n, hn⟩ | ⟨zt, z0, z1, z2, hI, -⟩
      · refine ⟨n, ?_⟩
        have := gm_no_g hg h143 _ _ hn
        rw [hk] at this
        exact this
      · exfalso
        have := hI.1.2.2.2.1
        omega
  · intro b c1 c2 c3 h1 g1 g2 g3
    exact ⟨fun a => by omega, fun _ _ _ => g2, fun a1 a2 a3 => by omega⟩
  · intro c1 c2 h1 g1 g2 g3
    exact ⟨fun _ => g2, fun a1 a2 => by omega, fun a1 a2 => by omega⟩
end GRY
/-! runs that may throw -/
def mg_E (QT : Nat → sm_H → Prop) (d m pc : Nat) (ls : mi_L) (st : List mi_V) (h : sm_H) (Q : Option mi_V → sm_H → Prop) : Prop := ab_EndsX sc_P QT d m pc (mi_cl ls) (st.map mi_c) h (fun v h' => ∃ w, v = w.map mi_c ∧ (∀ x, w = some x → mi_ok x) ∧ Q w h')
section MGB
variable {QT : Nat → sm_H → Prop} {d m pc : Nat} {ls : mi_L} {st : List mi_V} {h : sm_H} {Q Q' : Option mi_V → sm_H → Prop} {M M' : sm_M} {q : sm_I}
theorem mg_seg {T : mi_T} {n d' m' pc' : Nat} {bs : List Nat} {ls' : mi_L} {st' : List mi_V} {O : List mi_U} {ob : List Prop} (hp : mj_path T sx_sk h n bs (d, m, pc, ls, st, [], []) = some ((d', m', pc', ls', st', O, []), ob)) (hT : ∀ e ∈ T, sc_P e.1 = some e.2) (hS : ab_Sh sx_sk h) (hl : mi_okL ls) (hst : mi_okS st) (ho : ∀ p ∈ ob, p) (k : ∀ h', me_W O h h' → mi_okL ls' → mi_okS st' → mg_E QT d' m' pc' ls' st' h' Q) : mg_E QT d m pc ls st h Q := by
  have hP := mx_Sh_Sp hS
  have := mj_path_ok (P := sc_P) (QT := QT) (Q := fun v h' => ∃ w, v = w.map mi_c ∧ (∀ x, w = some x → mi_ok x) ∧ Q w h') hT hP n bs _ _ ob hp ⟨hS, (fun u hu => by cases hu), hl, hst, (fun u hu => by cases hu), (fun f hf => by cases hf)⟩ ho (fun hA => by
    obtain ⟨a1, a2, a3, a4, a5, -⟩ := hA
    exact k _ (me_W_ap hP a1 a2 a5) a3 a4)
  exact this
theorem mg_call {m' : Nat} {as r : List mi_V} {Q1 : Option mi_V → sm_H → Prop} (hM : sc_P m = some M) (hq : M.2.2[pc]? = some (some q)) (hc : mj_call sx_sk q st = some (m', as, r)) (hM' : sc_P m' = some M') (hsl : (mi_slots as).length ≤ M'.1) (hcat : (r.map mi_cat).sum ≤ 8) (hS : ab_Sh sx_sk h) (k : me_E d m' 0 (mi_entry M'.1 as) [] h Q1) (kk : ∀ w h', (∀ x, w = some x → mi_ok x) → Q1 w h' → mg_E QT (d + 1) m (pc + 3) ls (mi_back w r) h' Q) : mg_E QT (d + 1) m pc ls st h Q := by
  obtain ⟨e1, -⟩ := mj_call_ok (pc := pc) (ls := mi_cl ls) hS hc
  refine ab_EndsX.call hM hq e1 hM' (by rw [mi_slots_len]; exact hsl) (by rw [mi_cats_eq]; exact hcat) ?_
  rw [mi_entry_eq]
  refine ab_Ends.imp k (fun v h' hw => ?_)
  obtain ⟨w, rfl, hw, hQ⟩ := hw
  rw [mi_back_eq]
  exact kk w h' hw hQ
theorem mg_ret {rv : Option mi_V} {ob : List Prop} (hM : sc_P m = some M) (hq : M.2.2[pc]? = some (some q)) (hr : mj_ret q M.2.1 st = some (rv, ob)) (hst : mi_okS st) (ho : ∀ p ∈ ob, p) (hQ : Q rv h) : mg_E QT d m pc ls st h Q := Or.inl (mf_ret hM hq hr hst ho hQ)
theorem mg_thr {x : Nat} (hM : sc_P m = some M) (hq : M.2.2[pc]? = some (some q)) (ht : sm_thr q = some x) (hQ : QT x (h ++ [sm_exc x])) : mg_E QT d m pc ls [] h Q := ab_EndsX.thr hM hq ht hQ
end MGB
/-! segments of the class: Tree.takeOver, TwoWayGrammar.grow (which may throw) -/
set_option maxRecDepth 20000 in
theorem mp_khtA_0 (h : sm_H) (d : Nat) : mj_path [(93, (3, 0, sb_93))] sx_sk h 6 [] (d + 2, 93, 0, [some (.inr (.inr 94)), some (.inr (.inr 102)), none], [], [], []) = some ((d + 2, 93, 10, [some (.inr (.inr 94)), some (.inr (.inr 102)), some (.inl ((0 : Int)))], [], [.inl (12032, mi_f h 13056)], []), []) := rfl
theorem mi_tab_khtA_0 : ∀ e ∈ ([(93, (3, 0, sb_93))] : mi_T), sc_P e.1 = some e.2 := mi_tb mi_P93 (mi_tb_e)
set_option maxRecDepth 20000 in
theorem ms_khtA_0 {h : sm_H} {d : Nat} {Q : Option mi_V → sm_H → Prop} (hS : ab_Sh sx_sk h)  (kon : ∀ h1, me_W [.inl (12032, mi_f h 13056)] h h1 → me_E (d + 2) 93 10 [some (.inr (.inr 94)), some (.inr (.inr 102)), some (.inl ((0 : Int)))] [] h1 Q) : me_E (d + 2) 93 0 [some (.inr (.inr 94)), some (.inr (.inr 102)), none] [] h Q := mf_seg (mp_khtA_0 h d ) (mi_tab_khtA_0) hS (mi_okL_c (trivial) (mi_okL_c (trivial) (mi_okL_n (mi_okL_e)))) (mi_okS_e) (mi_al_e) (fun h1 W _ hst => kon h1 W)
set_option maxRecDepth 20000 in
theorem mt_khtA {h : sm_H} {d : Nat} {Q : Option mi_V → sm_H → Prop} (hS : ab_Sh sx_sk h)  (k0 : (∀ h1, ab_Sh sx_sk h1 → mi_f h1 12032 = mi_f h 13056 → ab_Fr [(12032, 12033)] h h1 → me_E (d + 2) 93 10 [some (.inr (.inr 94)), some (.inr (.inr 102)), some (.inl ((0 : Int)))] [] h1 Q)) : me_E (d + 2) 93 0 [some (.inr (.inr 94)), some (.inr (.inr 102)), none] [] h Q := ms_khtA_0 hS (fun h1 W => (k0) h1 W.1 (W.2.1 12032) (W.2.2.2.2.2 _ rfl))
set_option maxRecDepth 20000 in
theorem mp_khtB_0 (h : sm_H) (d : Nat) (zk : Int) : mj_path [(93, (3, 0, sb_93)), (16, (3, 0, sb_16)), (49, (2, 1, sb_49))] sx_sk h 4 [1] (d + 2, 93, 10, [some (.inr (.inr 94)), some (.inr (.inr 102)), some (.inl (zk))], [], [], []) = some ((d + 2, 93, 72, [some (.inr (.inr 94)), some (.inr (.inr 102)), some (.inl (zk))], [], [], []), [(mi_f h 12032) ≤ zk]) := rfl
theorem mi_tab_khtB_0 : ∀ e ∈ ([(93, (3, 0, sb_93)), (16, (3, 0, sb_16)), (49, (2, 1, sb_49))] : mi_T), sc_P e.1 = some e.2 := mi_tb mi_P93 (mi_tb mi_P16 (mi_tb mi_P49 (mi_tb_e)))
set_option maxRecDepth 20000 in
theorem ms_khtB_0 {h : sm_H} {d : Nat} {Q : Option mi_V → sm_H → Prop} {zk : Int} (hS : ab_Sh sx_sk h) (ok_zk : mi_in zk) (ho : ((mi_f h 12032) ≤ zk)) (kon : ∀ h1, me_W [] h h1 → Q none h1) : me_E (d + 2) 93 10 [some (.inr (.inr 94)), some (.inr (.inr 102)), some (.inl (zk))] [] h Q := mf_seg (mp_khtB_0 h d zk) (mi_tab_khtB_0) hS (mi_okL_c (trivial) (mi_okL_c (trivial) (mi_okL_c (ok_zk) (mi_okL_e)))) (mi_okS_e) (mi_al (ho) (mi_al_e)) (fun h1 W _ hst => mf_ret (M := (3, 0, sb_93)) rfl rfl rfl hst (mi_al_e) (kon h1 W))
set_option maxRecDepth 20000 in
theorem mp_khtB_1 (h : sm_H) (d : Nat) (zk : Int) : mj_path [(93, (3, 0, sb_93)), (16, (3, 0, sb_16)), (49, (2, 1, sb_49))] sx_sk h 51 [0, 1, 1, 1, 1, 1, 1] (d + 2, 93, 10, [some (.inr (.inr 94)), some (.inr (.inr 102)), some (.inl (zk))], [], [], []) = some ((d + 2, 93, 10, [some (.inr (.inr 94)), some (.inr (.inr 102)), some (.inl (zk + 1))], [], [], []), [zk < (mi_f h 12032), zk < ((0 : Int)), zk < ((0 : Int)), zk < ((0 : Int)), zk < ((0 : Int)), zk < ((0 : Int)), zk < ((0 : Int)), -2147483648 ≤ zk + 1 ∧ zk + 1 ≤ 2147483647]) := rfl
theorem mi_tab_khtB_1 : ∀ e ∈ ([(93, (3, 0, sb_93)), (16, (3, 0, sb_16)), (49, (2, 1, sb_49))] : mi_T), sc_P e.1 = some e.2 := mi_tb mi_P93 (mi_tb mi_P16 (mi_tb mi_P49 (mi_tb_e)))
set_option maxRecDepth 20000 in
theorem ms_khtB_1 {h : sm_H} {d : Nat} {Q : Option mi_V → sm_H → Prop} {zk : Int} (hS : ab_Sh sx_sk h) (ok_zk : mi_in zk) (ho : (zk < (mi_f h 12032)) ∧ (zk < ((0 : Int))) ∧ (zk < ((0 : Int))) ∧ (zk < ((0 : Int))) ∧ (zk < ((0 : Int))) ∧ (zk < ((0 : Int))) ∧ (zk < ((0 : Int))) ∧ (-2147483648 ≤ zk + 1 ∧ zk + 1 ≤ 2147483647)) (kon : ∀ h1, me_W [] h h1 → me_E (d + 2) 93 10 [some (.inr (.inr 94)), some (.inr (.inr 102)), some (.inl (zk + 1))] [] h1 Q) : me_E (d + 2) 93 10 [some (.inr (.inr 94)), some (.inr (.inr 102)), some (.inl (zk))] [] h Q := mf_seg (mp_khtB_1 h d zk) (mi_tab_khtB_1) hS (mi_okL_c (trivial) (mi_okL_c (trivial) (mi_okL_c (ok_zk) (mi_okL_e)))) (mi_okS_e) (mi_al (ho.1) (mi_al (ho.2.1) (mi_al (ho.2.2.1) (mi_al (ho.2.2.2.1) (mi_al (ho.2.2.2.2.1) (mi_al (ho.2.2.2.2.2.1) (mi_al (ho.2.2.2.2.2.2.1) (mi_al (ho.2.2.2.2.2.2.2) (mi_al_e))))))))) (fun h1 W _ hst => kon h1 W)
set_option maxRecDepth 20000 in
theorem mp_khtB_2 (h : sm_H) (d : Nat) (zk : Int) : mj_path [(93, (3, 0, sb_93)), (16, (3, 0, sb_16)), (49, (2, 1, sb_49))] sx_sk h 75 [0, 0, 1, 0, 1, 0, 1, 0, 1, 0, 1, 0, 1] (d + 2, 93, 10, [some (.inr (.inr 94)), some (.inr (.inr 102)), some (.inl (zk))], [], [], []) = some ((d + 2, 93, 10, [some (.inr (.inr 94)), some (.inr (.inr 102)), some (.inl (zk + 1))], [], [], []), [zk < (mi_f h 12032), ((0 : Int)) ≤ zk, ((100 : Int)) ≤ zk, ((0 : Int)) ≤ zk, ((100 : Int)) ≤ zk, ((0 : Int)) ≤ zk, ((100 : Int)) ≤ zk, ((0 : Int)) ≤ zk, ((100 : Int)) ≤ zk, ((0 : Int)) ≤ zk, ((100 : Int)) ≤ zk, ((0 : Int)) ≤ zk, ((100 : Int)) ≤ zk, -2147483648 ≤ zk + 1 ∧ zk + 1 ≤ 2147483647]) := rfl
theorem mi_tab_khtB_2 : ∀ e ∈ ([(93, (3, 0, sb_93)), (16, (3, 0, sb_16)), (49, (2, 1, sb_49))] : mi_T), sc_P e.1 = some e.2 := mi_tb mi_P93 (mi_tb mi_P16 (mi_tb mi_P49 (mi_tb_e)))
set_option maxRecDepth 20000 in
theorem ms_khtB_2 {h : sm_H} {d : Nat} {Q : Option mi_V → sm_H → Prop} {zk : Int} (hS : ab_Sh sx_sk h) (ok_zk : mi_in zk) (ho : (zk < (mi_f h 12032)) ∧ (((0 : Int)) ≤ zk) ∧ (((100 : Int)) ≤ zk) ∧ (((0 : Int)) ≤ zk) ∧ (((100 : Int)) ≤ zk) ∧ (((0 : Int)) ≤ zk) ∧ (((100 : Int)) ≤ zk) ∧ (((0 : Int)) ≤ zk) ∧ (((100 : Int)) ≤ zk) ∧ (((0 : Int)) ≤ zk) ∧ (((100 : Int)) ≤ zk) ∧ (((0 : Int)) ≤ zk) ∧ (((100 : Int)) ≤ zk) ∧ (-2147483648 ≤ zk + 1 ∧ zk + 1 ≤ 2147483647)) (kon : ∀ h1, me_W [] h h1 → me_E (d + 2) 93 10 [some (.inr (.inr 94)), some (.inr (.inr 102)), some (.inl (zk + 1))] [] h1 Q) : me_E (d + 2) 93 10 [some (.inr (.inr 94)), some (.inr (.inr 102)), some (.inl (zk))] [] h Q := mf_seg (mp_khtB_2 h d zk) (mi_tab_khtB_2) hS (mi_okL_c (trivial) (mi_okL_c (trivial) (mi_okL_c (ok_zk) (mi_okL_e)))) (mi_okS_e) (mi_al (ho.1) (mi_al (ho.2.1) (mi_al (ho.2.2.1) (mi_al (ho.2.2.2.1) (mi_al (ho.2.2.2.2.1) (mi_al (ho.2.2.2.2.2.1) (mi_al (ho.2.2.2.2.2.2.1) (mi_al (ho.2.2.2.2.2.2.2.1) (mi_al (ho.2.2.2.2.2.2.2.2.1) (mi_al (ho.2.2.2.2.2.2.2.2.2.1) (mi_al (ho.2.2.2.2.2.2.2.2.2.2.1) (mi_al (ho.2.2.2.2.2.2.2.2.2.2.2.1) (mi_al (ho.2.2.2.2.2.2.2.2.2.2.2.2.1) (mi_al (ho.2.2.2.2.2.2.2.2.2.2.2.2.2) (mi_al_e))))))))))))))) (fun h1 W _ hst => kon h1 W)
set_option maxRecDepth 20000 in
theorem mp_khtB_3 (h : sm_H) (d : Nat) (zk : Int) : mj_path [(93, (3, 0, sb_93)), (16, (3, 0, sb_16)), (49, (2, 1, sb_49))] sx_sk h 96 [0, 0, 0, 0, 0, 0, 0, 0, 0, 0, 0, 0, 0] (d + 2, 93, 10, [some (.inr (.inr 94)), some (.inr (.inr 102)), some (.inl (zk))], [], [], []) = some ((d + 2, 93, 10, [some (.inr (.inr 94)), some (.inr (.inr 102)), some (.inl (zk + 1))], [], [.inr (.inr (.inl (97, Int.toNat zk, mi_a h 105 (Int.toNat zk)))), .inr (.inr (.inl (96, Int.toNat zk, mi_a h 104 (Int.toNat zk)))), .inr (.inr (.inl (95, Int.toNat zk, mi_a h 103 (Int.toNat zk))))], []), [zk < (mi_f h 12032), ((0 : Int)) ≤ zk, zk < ((100 : Int)), 0 ≤ zk ∧ zk < 100, ((0 : Int)) ≤ zk, zk < ((100 : Int)), 0 ≤ zk ∧ zk < 100, ((0 : Int)) ≤ zk, zk < ((100 : Int)), 0 ≤ zk ∧ zk < 100, ((0 : Int)) ≤ zk, zk < ((100 : Int)), 0 ≤ zk ∧ zk < 100, ((0 : Int)) ≤ zk, zk < ((100 : Int)), 0 ≤ zk ∧ zk < 100, ((0 : Int)) ≤ zk, zk < ((100 : Int)), 0 ≤ zk ∧ zk < 100, -2147483648 ≤ zk + 1 ∧ zk + 1 ≤ 2147483647]) := rfl
theorem mi_tab_khtB_3 : ∀ e ∈ ([(93, (3, 0, sb_93)), (16, (3, 0, sb_16)), (49, (2, 1, sb_49))] : mi_T), sc_P e.1 = some e.2 := mi_tb mi_P93 (mi_tb mi_P16 (mi_tb mi_P49 (mi_tb_e)))
set_option maxRecDepth 20000 in
theorem ms_khtB_3 {h : sm_H} {d : Nat} {Q : Option mi_V → sm_H → Prop} {zk : Int} (hS : ab_Sh sx_sk h) (ok_zk : mi_in zk) (ho : (zk < (mi_f h 12032)) ∧ (((0 : Int)) ≤ zk) ∧ (zk < ((100 : Int))) ∧ (0 ≤ zk ∧ zk < 100) ∧ (((0 : Int)) ≤ zk) ∧ (zk < ((100 : Int))) ∧ (0 ≤ zk ∧ zk < 100) ∧ (((0 : Int)) ≤ zk) ∧ (zk < ((100 : Int))) ∧ (0 ≤ zk ∧ zk < 100) ∧ (((0 : Int)) ≤ zk) ∧ (zk < ((100 : Int))) ∧ (0 ≤ zk ∧ zk < 100) ∧ (((0 : Int)) ≤ zk) ∧ (zk < ((100 : Int))) ∧ (0 ≤ zk ∧ zk < 100) ∧ (((0 : Int)) ≤ zk) ∧ (zk < ((100 : Int))) ∧ (0 ≤ zk ∧ zk < 100) ∧ (-2147483648 ≤ zk + 1 ∧ zk + 1 ≤ 2147483647)) (kon : ∀ h1, me_W [.inr (.inr (.inl (97, Int.toNat zk, mi_a h 105 (Int.toNat zk)))), .inr (.inr (.inl (96, Int.toNat zk, mi_a h 104 (Int.toNat zk)))), .inr (.inr (.inl (95, Int.toNat zk, mi_a h 103 (Int.toNat zk))))] h h1 → me_E (d + 2) 93 10 [some (.inr (.inr 94)), some (.inr (.inr 102)), some (.inl (zk + 1))] [] h1 Q) : me_E (d + 2) 93 10 [some (.inr (.inr 94)), some (.inr (.inr 102)), some (.inl (zk))] [] h Q := mf_seg (mp_khtB_3 h d zk) (mi_tab_khtB_3) hS (mi_okL_c (trivial) (mi_okL_c (trivial) (mi_okL_c (ok_zk) (mi_okL_e)))) (mi_okS_e) (mi_al (ho.1) (mi_al (ho.2.1) (mi_al (ho.2.2.1) (mi_al (ho.2.2.2.1) (mi_al (ho.2.2.2.2.1) (mi_al (ho.2.2.2.2.2.1) (mi_al (ho.2.2.2.2.2.2.1) (mi_al (ho.2.2.2.2.2.2.2.1) (mi_al (ho.2.2.2.2.2.2.2.2.1) (mi_al (ho.2.2.2.2.2.2.2.2.2.1) (mi_al (ho.2.2.2.2.2.2.2.2.2.2.1) (mi_al (ho.2.2.2.2.2.2.2.2.2.2.2.1) (mi_al (ho.2.2.2.2.2.2.2.2.2.2.2.2.1) (mi_al (ho.2.2.2.2.2.2.2.2.2.2.2.2.2.1) (mi_al (ho.2.2.2.2.2.2.2.2.2.2.2.2.2.2.1) (mi_al (ho.2.2.2.2.2.2.2.2.2.2.2.2.2.2.2.1) (mi_al (ho.2.2.2.2.2.2.2.2.2.2.2.2.2.2.2.2.1) (mi_al (ho.2.2.2.2.2.2.2.2.2.2.2.2.2.2.2.2.2.1) (mi_al (ho.2.2.2.2.2.2.2.2.2.2.2.2.2.2.2.2.2.2.1) (mi_al (ho.2.2.2.2.2.2.2.2.2.2.2.2.2.2.2.2.2.2.2) (mi_al_e))))))))))))))))))))) (fun h1 W _ hst => kon h1 W)
set_option maxRecDepth 20000 in
theorem mt_khtB {h : sm_H} {d : Nat} {Q : Option mi_V → sm_H → Prop} {zk : Int} (hS : ab_Sh sx_sk h) (ok_zk : mi_in zk) (k0 : ((-2147483648) ≤ mi_f h 12032 ∧ mi_f h 12032 ≤ 2147483647) → ((mi_f h 12032) ≤ zk) → (∀ h1, ab_Sh sx_sk h1 → ab_Fr [] h h1 → Q none h1)) (k1 : ((-2147483648) ≤ mi_f h 12032 ∧ mi_f h 12032 ≤ 2147483647) → (zk < (mi_f h 12032)) → (zk < ((0 : Int))) → ((-2147483648 ≤ zk + 1 ∧ zk + 1 ≤ 2147483647)) ∧ (∀ h1, ab_Sh sx_sk h1 → ab_Fr [] h h1 → me_E (d + 2) 93 10 [some (.inr (.inr 94)), some (.inr (.inr 102)), some (.inl (zk + 1))] [] h1 Q)) (k2 : ((-2147483648) ≤ mi_f h 12032 ∧ mi_f h 12032 ≤ 2147483647) → (zk < (mi_f h 12032)) → (((0 : Int)) ≤ zk) → (((100 : Int)) ≤ zk) → ((-2147483648 ≤ zk + 1 ∧ zk + 1 ≤ 2147483647)) ∧ (∀ h1, ab_Sh sx_sk h1 → ab_Fr [] h h1 → me_E (d + 2) 93 10 [some (.inr (.inr 94)), some (.inr (.inr 102)), some (.inl (zk + 1))] [] h1 Q)) (k3 : ((-2147483648) ≤ mi_f h 12032 ∧ mi_f h 12032 ≤ 2147483647) → (zk < (mi_f h 12032)) → (((0 : Int)) ≤ zk) → (zk < ((100 : Int))) → ((0 ≤ zk ∧ zk < 100) ∧ (-2147483648 ≤ zk + 1 ∧ zk + 1 ≤ 2147483647)) ∧ (∀ h1, ab_Sh sx_sk h1 → (∀ i, mi_a h1 95 i = if i = Int.toNat zk then mi_a h 103 (Int.toNat zk) else (mi_a h 95 i)) → (∀ i, mi_a h1 96 i = if i = Int.toNat zk then mi_a h 104 (Int.toNat zk) else (mi_a h 96 i)) → (∀ i, mi_a h1 97 i = if i = Int.toNat zk then mi_a h 105 (Int.toNat zk) else (mi_a h 97 i)) → ab_Fr [(12160, 12161), (12288, 12289), (12416, 12417)] h h1 → me_E (d + 2) 93 10 [some (.inr (.inr 94)), some (.inr (.inr 102)), some (.inl (zk + 1))] [] h1 Q)) : me_E (d + 2) 93 10 [some (.inr (.inr 94)), some (.inr (.inr 102)), some (.inl (zk))] [] h Q := Or.elim (mi_em .ge (zk) ((mi_f h 12032))) (fun c0 => ms_khtB_0 hS ok_zk (c0) (fun h1 W => (k0 (me_fb hS rfl) c0) h1 W.1 (W.2.2.2.2.2 _ rfl))) (fun c0 => Or.elim (mi_em .lt (zk) (((0 : Int)))) (fun c1 => ms_khtB_1 hS ok_zk ⟨c0, c1, c1, c1, c1, c1, c1, (k1 (me_fb hS rfl) c0 c1).1⟩ (fun h1 W => (k1 (me_fb hS rfl) c0 c1).2 h1 W.1 (W.2.2.2.2.2 _ rfl))) (fun c1 => Or.elim (mi_em .ge (zk) (((100 : Int)))) (fun c2 => ms_khtB_2 hS ok_zk ⟨c0, c1, c2, c1, c2, c1, c2, c1, c2, c1, c2, c1, c2, (k2 (me_fb hS rfl) c0 c1 c2).1⟩ (fun h1 W => (k2 (me_fb hS rfl) c0 c1 c2).2 h1 W.1 (W.2.2.2.2.2 _ rfl))) (fun c2 => ms_khtB_3 hS ok_zk ⟨c0, c1, c2, (k3 (me_fb hS rfl) c0 c1 c2).1.1, c1, c2, (k3 (me_fb hS rfl) c0 c1 c2).1.1, c1, c2, (k3 (me_fb hS rfl) c0 c1 c2).1.1, c1, c2, (k3 (me_fb hS rfl) c0 c1 c2).1.1, c1, c2, (k3 (me_fb hS rfl) c0 c1 c2).1.1, c1, c2, (k3 (me_fb hS rfl) c0 c1 c2).1.1, (k3 (me_fb hS rfl) c0 c1 c2).1.2⟩ (fun h1 W => (k3 (me_fb hS rfl) c0 c1 c2).2 h1 W.1 (fun i => W.2.2.1 95 i) (fun i => W.2.2.1 96 i) (fun i => W.2.2.1 97 i) (W.2.2.2.2.2 _ rfl)))))
set_option maxRecDepth 20000 in
theorem mp_khgA_0 (h : sm_H) (d : Nat) (zf : Int) (zx : Int64) : mj_path [(158, (4, 1, sb_158)), (159, (4, 0, sb_159))] sx_sk h 2 [1] (d + 1, 158, 0, [some (.inr (.inr 51)), some (.inr (.inl (zx))), none, some (.inl (zf))], [], [], []) = some ((d + 1, 158, 10, [some (.inr (.inr 51)), some (.inr (.inl (zx))), none, some (.inl (zf))], [], [], []), [zf < ((0 : Int))]) := rfl
theorem mi_tab_khgA_0 : ∀ e ∈ ([(158, (4, 1, sb_158)), (159, (4, 0, sb_159))] : mi_T), sc_P e.1 = some e.2 := mi_tb mi_P158 (mi_tb mi_P159 (mi_tb_e))
set_option maxRecDepth 20000 in
theorem ms_khgA_0 {h : sm_H} {d : Nat} {QT : Nat → sm_H → Prop} {Q : Option mi_V → sm_H → Prop} {zf : Int} {zx : Int64} (hS : ab_Sh sx_sk h) (ok_zf : mi_in zf) (ho : (zf < ((0 : Int)))) (kon : ∀ h1, me_W [] h h1 → mg_E QT (d + 1) 158 10 [some (.inr (.inr 51)), some (.inr (.inl (zx))), none, some (.inl (zf))] [] h1 Q) : mg_E QT (d + 1) 158 0 [some (.inr (.inr 51)), some (.inr (.inl (zx))), none, some (.inl (zf))] [] h Q := mg_seg (mp_khgA_0 h d zf zx) (mi_tab_khgA_0) hS (mi_okL_c (trivial) (mi_okL_c (trivial) (mi_okL_n (mi_okL_c (ok_zf) (mi_okL_e))))) (mi_okS_e) (mi_al (ho) (mi_al_e)) (fun h1 W _ hst => kon h1 W)
set_option maxRecDepth 20000 in
theorem mp_khgA_1 (h : sm_H) (d : Nat) (zf : Int) (zx : Int64) : mj_path [(158, (4, 1, sb_158)), (159, (4, 0, sb_159))] sx_sk h 22 [0, 1, 1] (d + 1, 158, 0, [some (.inr (.inr 51)), some (.inr (.inl (zx))), none, some (.inl (zf))], [], [], []) = some ((d + 1, 158, 50, [some (.inr (.inr 51)), some (.inr (.inl (zx))), none, some (.inl (zf))], [.inr (.inr 107)], [.inl (13703, zf), .inr (.inl (13702, zx))], []), [((0 : Int)) ≤ zf, zf ≤ ((20 : Int)), (mi_f h 6543) ≠ ((0 : Int))]) := rfl
theorem mi_tab_khgA_1 : ∀ e ∈ ([(158, (4, 1, sb_158)), (159, (4, 0, sb_159))] : mi_T), sc_P e.1 = some e.2 := mi_tb mi_P158 (mi_tb mi_P159 (mi_tb_e))
set_option maxRecDepth 20000 in
theorem ms_khgA_1 {h : sm_H} {d : Nat} {QT : Nat → sm_H → Prop} {Q : Option mi_V → sm_H → Prop} {zf : Int} {zx : Int64} (hS : ab_Sh sx_sk h) (ok_zf : mi_in zf) (ho : (((0 : Int)) ≤ zf) ∧ (zf ≤ ((20 : Int))) ∧ ((mi_f h 6543) ≠ ((0 : Int)))) (kon : ∀ h1, me_W [.inl (13703, zf), .inr (.inl (13702, zx))] h h1 → ∃ Q1, me_E (d + 0) 103 0 (mi_entry 1 [.inr (.inr 107)]) [] h1 Q1 ∧ ∀ w h2, (∀ x, w = some x → mi_ok x) → Q1 w h2 → mg_E QT (d + 1) 158 53 [some (.inr (.inr 51)), some (.inr (.inl (zx))), none, some (.inl (zf))] (mi_back w []) h2 Q) : mg_E QT (d + 1) 158 0 [some (.inr (.inr 51)), some (.inr (.inl (zx))), none, some (.inl (zf))] [] h Q := mg_seg (mp_khgA_1 h d zf zx) (mi_tab_khgA_1) hS (mi_okL_c (trivial) (mi_okL_c (trivial) (mi_okL_n (mi_okL_c (ok_zf) (mi_okL_e))))) (mi_okS_e) (mi_al (ho.1) (mi_al (ho.2.1) (mi_al (ho.2.2) (mi_al_e)))) (fun h1 W _ hst => let ⟨_, k1, k2⟩ := kon h1 W; mg_call (M := (4, 1, sb_158)) (M' := (1, 0, sb_103)) rfl rfl rfl rfl (Nat.le_of_ble_eq_true rfl) (Nat.le_of_ble_eq_true rfl) W.1 k1 k2)
set_option maxRecDepth 20000 in
theorem mp_khgA_2 (h : sm_H) (d : Nat) (zf : Int) (zx : Int64) : mj_path [(158, (4, 1, sb_158)), (159, (4, 0, sb_159))] sx_sk h 8 [0, 1, 0] (d + 1, 158, 0, [some (.inr (.inr 51)), some (.inr (.inl (zx))), none, some (.inl (zf))], [], [], []) = some ((d + 1, 158, 27, [some (.inr (.inr 51)), some (.inr (.inl (zx))), none, some (.inl (zf))], [], [], []), [((0 : Int)) ≤ zf, zf ≤ ((20 : Int)), (mi_f h 6543) = ((0 : Int))]) := rfl
theorem mi_tab_khgA_2 : ∀ e ∈ ([(158, (4, 1, sb_158)), (159, (4, 0, sb_159))] : mi_T), sc_P e.1 = some e.2 := mi_tb mi_P158 (mi_tb mi_P159 (mi_tb_e))
set_option maxRecDepth 20000 in
theorem ms_khgA_2 {h : sm_H} {d : Nat} {QT : Nat → sm_H → Prop} {Q : Option mi_V → sm_H → Prop} {zf : Int} {zx : Int64} (hS : ab_Sh sx_sk h) (ok_zf : mi_in zf) (ho : (((0 : Int)) ≤ zf) ∧ (zf ≤ ((20 : Int))) ∧ ((mi_f h 6543) = ((0 : Int)))) (kon : ∀ h1, me_W [] h h1 → mg_E QT (d + 1) 158 27 [some (.inr (.inr 51)), some (.inr (.inl (zx))), none, some (.inl (zf))] [] h1 Q) : mg_E QT (d + 1) 158 0 [some (.inr (.inr 51)), some (.inr (.inl (zx))), none, some (.inl (zf))] [] h Q := mg_seg (mp_khgA_2 h d zf zx) (mi_tab_khgA_2) hS (mi_okL_c (trivial) (mi_okL_c (trivial) (mi_okL_n (mi_okL_c (ok_zf) (mi_okL_e))))) (mi_okS_e) (mi_al (ho.1) (mi_al (ho.2.1) (mi_al (ho.2.2) (mi_al_e)))) (fun h1 W _ hst => kon h1 W)
set_option maxRecDepth 20000 in
theorem mp_khgA_3 (h : sm_H) (d : Nat) (zf : Int) (zx : Int64) : mj_path [(158, (4, 1, sb_158)), (159, (4, 0, sb_159))] sx_sk h 5 [0, 0] (d + 1, 158, 0, [some (.inr (.inr 51)), some (.inr (.inl (zx))), none, some (.inl (zf))], [], [], []) = some ((d + 1, 158, 10, [some (.inr (.inr 51)), some (.inr (.inl (zx))), none, some (.inl (zf))], [], [], []), [((0 : Int)) ≤ zf, ((20 : Int)) < zf]) := rfl
theorem mi_tab_khgA_3 : ∀ e ∈ ([(158, (4, 1, sb_158)), (159, (4, 0, sb_159))] : mi_T), sc_P e.1 = some e.2 := mi_tb mi_P158 (mi_tb mi_P159 (mi_tb_e))
set_option maxRecDepth 20000 in
theorem ms_khgA_3 {h : sm_H} {d : Nat} {QT : Nat → sm_H → Prop} {Q : Option mi_V → sm_H → Prop} {zf : Int} {zx : Int64} (hS : ab_Sh sx_sk h) (ok_zf : mi_in zf) (ho : (((0 : Int)) ≤ zf) ∧ (((20 : Int)) < zf)) (kon : ∀ h1, me_W [] h h1 → mg_E QT (d + 1) 158 10 [some (.inr (.inr 51)), some (.inr (.inl (zx))), none, some (.inl (zf))] [] h1 Q) : mg_E QT (d + 1) 158 0 [some (.inr (.inr 51)), some (.inr (.inl (zx))), none, some (.inl (zf))] [] h Q := mg_seg (mp_khgA_3 h d zf zx) (mi_tab_khgA_3) hS (mi_okL_c (trivial) (mi_okL_c (trivial) (mi_okL_n (mi_okL_c (ok_zf) (mi_okL_e))))) (mi_okS_e) (mi_al (ho.1) (mi_al (ho.2) (mi_al_e))) (fun h1 W _ hst => kon h1 W)
set_option maxRecDepth 20000 in
theorem mt_khgA {h : sm_H} {d : Nat} {QT : Nat → sm_H → Prop} {Q : Option mi_V → sm_H → Prop} {zf : Int} {zx : Int64} (hS : ab_Sh sx_sk h) (ok_zf : mi_in zf) (k0 : (zf < ((0 : Int))) → (∀ h1, ab_Sh sx_sk h1 → ab_Fr [] h h1 → mg_E QT (d + 1) 158 10 [some (.inr (.inr 51)), some (.inr (.inl (zx))), none, some (.inl (zf))] [] h1 Q)) (k1 : (0 ≤ mi_f h 6543 ∧ mi_f h 6543 ≤ 1) → (((0 : Int)) ≤ zf) → (zf ≤ ((20 : Int))) → ((mi_f h 6543) ≠ ((0 : Int))) → (∀ h1, ab_Sh sx_sk h1 → mx_l h1 13702 = zx → mi_f h1 13703 = zf → ab_Fr [(13702, 13704)] h h1 → ∃ Q1, me_E (d + 0) 103 0 (mi_entry 1 [.inr (.inr 107)]) [] h1 Q1 ∧ ∀ w h2, (∀ x, w = some x → mi_ok x) → Q1 w h2 → mg_E QT (d + 1) 158 53 [some (.inr (.inr 51)), some (.inr (.inl (zx))), none, some (.inl (zf))] (mi_back w []) h2 Q)) (k2 : (0 ≤ mi_f h 6543 ∧ mi_f h 6543 ≤ 1) → (((0 : Int)) ≤ zf) → (zf ≤ ((20 : Int))) → ((mi_f h 6543) = ((0 : Int))) → (∀ h1, ab_Sh sx_sk h1 → ab_Fr [] h h1 → mg_E QT (d + 1) 158 27 [some (.inr (.inr 51)), some (.inr (.inl (zx))), none, some (.inl (zf))] [] h1 Q)) (k3 : (((0 : Int)) ≤ zf) → (((20 : Int)) < zf) → (∀ h1, ab_Sh sx_sk h1 → ab_Fr [] h h1 → mg_E QT (d + 1) 158 10 [some (.inr (.inr 51)), some (.inr (.inl (zx))), none, some (.inl (zf))] [] h1 Q)) : mg_E QT (d + 1) 158 0 [some (.inr (.inr 51)), some (.inr (.inl (zx))), none, some (.inl (zf))] [] h Q := Or.elim (mi_em .lt (zf) (((0 : Int)))) (fun c0 => ms_khgA_0 hS ok_zf (c0) (fun h1 W => (k0 c0) h1 W.1 (W.2.2.2.2.2 _ rfl))) (fun c0 => Or.elim (mi_em .le (zf) (((20 : Int)))) (fun c1 => Or.elim (mi_em .ne ((mi_f h 6543)) (((0 : Int)))) (fun c2 => ms_khgA_1 hS ok_zf ⟨c0, c1, c2⟩ (fun h1 W => (k1 (me_fb hS rfl) c0 c1 c2) h1 W.1 (W.2.2.2.1 13702) (W.2.1 13703) (W.2.2.2.2.2 _ rfl))) (fun c2 => ms_khgA_2 hS ok_zf ⟨c0, c1, c2⟩ (fun h1 W => (k2 (me_fb hS rfl) c0 c1 c2) h1 W.1 (W.2.2.2.2.2 _ rfl)))) (fun c1 => ms_khgA_3 hS ok_zf ⟨c0, c1⟩ (fun h1 W => (k3 c0 c1) h1 W.1 (W.2.2.2.2.2 _ rfl))))
set_option maxRecDepth 20000 in
theorem mp_khgB_0 (h : sm_H) (d : Nat) (zf : Int) (zx : Int64) : mj_path [(158, (4, 1, sb_158))] sx_sk h 8 [1] (d + 1, 158, 53, [some (.inr (.inr 51)), some (.inr (.inl (zx))), none, some (.inl (zf))], [], [], []) = some ((d + 1, 158, 81, [some (.inr (.inr 51)), some (.inr (.inl (zx))), none, some (.inl (zf))], [.inr (.inr 102), .inr (.inr 94)], [], []), [(mi_f h 13700) = ((0 : Int))]) := rfl
theorem mi_tab_khgB_0 : ∀ e ∈ ([(158, (4, 1, sb_158))] : mi_T), sc_P e.1 = some e.2 := mi_tb mi_P158 (mi_tb_e)
set_option maxRecDepth 20000 in
theorem ms_khgB_0 {h : sm_H} {d : Nat} {QT : Nat → sm_H → Prop} {Q : Option mi_V → sm_H → Prop} {zf : Int} {zx : Int64} (hS : ab_Sh sx_sk h) (ok_zf : mi_in zf) (ho : ((mi_f h 13700) = ((0 : Int)))) (kon : ∀ h1, me_W [] h h1 → ∃ Q1, me_E (d + 0) 93 0 (mi_entry 3 [.inr (.inr 94), .inr (.inr 102)]) [] h1 Q1 ∧ ∀ w h2, (∀ x, w = some x → mi_ok x) → Q1 w h2 → mg_E QT (d + 1) 158 84 [some (.inr (.inr 51)), some (.inr (.inl (zx))), none, some (.inl (zf))] (mi_back w []) h2 Q) : mg_E QT (d + 1) 158 53 [some (.inr (.inr 51)), some (.inr (.inl (zx))), none, some (.inl (zf))] [] h Q := mg_seg (mp_khgB_0 h d zf zx) (mi_tab_khgB_0) hS (mi_okL_c (trivial) (mi_okL_c (trivial) (mi_okL_n (mi_okL_c (ok_zf) (mi_okL_e))))) (mi_okS_e) (mi_al (ho) (mi_al_e)) (fun h1 W _ hst => let ⟨_, k1, k2⟩ := kon h1 W; mg_call (M := (4, 1, sb_158)) (M' := (3, 0, sb_93)) rfl rfl rfl rfl (Nat.le_of_ble_eq_true rfl) (Nat.le_of_ble_eq_true rfl) W.1 k1 k2)
set_option maxRecDepth 20000 in
theorem mp_khgB_1 (h : sm_H) (d : Nat) (zf : Int) (zx : Int64) : mj_path [(158, (4, 1, sb_158))] sx_sk h 4 [0] (d + 1, 158, 53, [some (.inr (.inr 51)), some (.inr (.inl (zx))), none, some (.inl (zf))], [], [], []) = some ((d + 1, 158, 63, [some (.inr (.inr 51)), some (.inr (.inl (zx))), none, some (.inl (zf))], [], [], []), [(mi_f h 13700) ≠ ((0 : Int))]) := rfl
theorem mi_tab_khgB_1 : ∀ e ∈ ([(158, (4, 1, sb_158))] : mi_T), sc_P e.1 = some e.2 := mi_tb mi_P158 (mi_tb_e)
set_option maxRecDepth 20000 in
theorem ms_khgB_1 {h : sm_H} {d : Nat} {QT : Nat → sm_H → Prop} {Q : Option mi_V → sm_H → Prop} {zf : Int} {zx : Int64} (hS : ab_Sh sx_sk h) (ok_zf : mi_in zf) (ho : ((mi_f h 13700) ≠ ((0 : Int)))) (kon : ∀ h1, me_W [] h h1 → mg_E QT (d + 1) 158 63 [some (.inr (.inr 51)), some (.inr (.inl (zx))), none, some (.inl (zf))] [] h1 Q) : mg_E QT (d + 1) 158 53 [some (.inr (.inr 51)), some (.inr (.inl (zx))), none, some (.inl (zf))] [] h Q := mg_seg (mp_khgB_1 h d zf zx) (mi_tab_khgB_1) hS (mi_okL_c (trivial) (mi_okL_c (trivial) (mi_okL_n (mi_okL_c (ok_zf) (mi_okL_e))))) (mi_okS_e) (mi_al (ho) (mi_al_e)) (fun h1 W _ hst => kon h1 W)
set_option maxRecDepth 20000 in
theorem mt_khgB {h : sm_H} {d : Nat} {QT : Nat → sm_H → Prop} {Q : Option mi_V → sm_H → Prop} {zf : Int} {zx : Int64} (hS : ab_Sh sx_sk h) (ok_zf : mi_in zf) (k0 : (0 ≤ mi_f h 13700 ∧ mi_f h 13700 ≤ 1) → ((mi_f h 13700) = ((0 : Int))) → (∀ h1, ab_Sh sx_sk h1 → ab_Fr [] h h1 → ∃ Q1, me_E (d + 0) 93 0 (mi_entry 3 [.inr (.inr 94), .inr (.inr 102)]) [] h1 Q1 ∧ ∀ w h2, (∀ x, w = some x → mi_ok x) → Q1 w h2 → mg_E QT (d + 1) 158 84 [some (.inr (.inr 51)), some (.inr (.inl (zx))), none, some (.inl (zf))] (mi_back w []) h2 Q)) (k1 : (0 ≤ mi_f h 13700 ∧ mi_f h 13700 ≤ 1) → ((mi_f h 13700) ≠ ((0 : Int))) → (∀ h1, ab_Sh sx_sk h1 → ab_Fr [] h h1 → mg_E QT (d + 1) 158 63 [some (.inr (.inr 51)), some (.inr (.inl (zx))), none, some (.inl (zf))] [] h1 Q)) : mg_E QT (d + 1) 158 53 [some (.inr (.inr 51)), some (.inr (.inl (zx))), none, some (.inl (zf))] [] h Q := Or.elim (mi_em .eq ((mi_f h 13700)) (((0 : Int)))) (fun c0 => ms_khgB_0 hS ok_zf (c0) (fun h1 W => (k0 (me_fb hS rfl) c0) h1 W.1 (W.2.2.2.2.2 _ rfl))) (fun c0 => ms_khgB_1 hS ok_zf (c0) (fun h1 W => (k1 (me_fb hS rfl) c0) h1 W.1 (W.2.2.2.2.2 _ rfl)))
set_option maxRecDepth 20000 in
theorem mp_khgC_0 (h : sm_H) (d : Nat) (zf : Int) (zx : Int64) : mj_path [(158, (4, 1, sb_158))] sx_sk h 3 [] (d + 1, 158, 84, [some (.inr (.inr 51)), some (.inr (.inl (zx))), none, some (.inl (zf))], [], [], []) = some ((d + 1, 158, 91, [some (.inr (.inr 51)), some (.inr (.inl (zx))), none, some (.inl (zf))], [.inl (mi_f h 12032)], [], []), []) := rfl
theorem mi_tab_khgC_0 : ∀ e ∈ ([(158, (4, 1, sb_158))] : mi_T), sc_P e.1 = some e.2 := mi_tb mi_P158 (mi_tb_e)
set_option maxRecDepth 20000 in
theorem ms_khgC_0 {h : sm_H} {d : Nat} {QT : Nat → sm_H → Prop} {Q : Option mi_V → sm_H → Prop} {zf : Int} {zx : Int64} (hS : ab_Sh sx_sk h) (ok_zf : mi_in zf) (kon : ∀ h1, me_W [] h h1 → Q (some (.inl (mi_f h 12032))) h1) : mg_E QT (d + 1) 158 84 [some (.inr (.inr 51)), some (.inr (.inl (zx))), none, some (.inl (zf))] [] h Q := mg_seg (mp_khgC_0 h d zf zx) (mi_tab_khgC_0) hS (mi_okL_c (trivial) (mi_okL_c (trivial) (mi_okL_n (mi_okL_c (ok_zf) (mi_okL_e))))) (mi_okS_e) (mi_al_e) (fun h1 W _ hst => mg_ret (M := (4, 1, sb_158)) rfl rfl rfl hst (mi_al_e) (kon h1 W))
set_option maxRecDepth 20000 in
theorem mt_khgC {h : sm_H} {d : Nat} {QT : Nat → sm_H → Prop} {Q : Option mi_V → sm_H → Prop} {zf : Int} {zx : Int64} (hS : ab_Sh sx_sk h) (ok_zf : mi_in zf) (k0 : (∀ h1, ab_Sh sx_sk h1 → ab_Fr [] h h1 → Q (some (.inl (mi_f h 12032))) h1)) : mg_E QT (d + 1) 158 84 [some (.inr (.inr 51)), some (.inr (.inl (zx))), none, some (.inl (zf))] [] h Q := ms_khgC_0 hS ok_zf (fun h1 W => (k0) h1 W.1 (W.2.2.2.2.2 _ rfl))
/-! grow of the class, exactly -/
def gt_W : List (Nat × Nat) := [(12032, 12033), (12160, 12161), (12288, 12289), (12416, 12417)]
section GCX
variable {d : Nat} {h : sm_H}
theorem me_gtake (hS0 : ab_Sh sx_sk h) (n0 : 0 ≤ mi_f h 13056) (n1 : mi_f h 13056 ≤ 100) : me_E (d + 2) 93 0 [some (.inr (.inr 94)), some (.inr (.inr 102)), none] [] h (fun w h' => w = none ∧ ab_Sh sx_sk h' ∧ ab_Fr gt_W h h' ∧ mi_f h' 12032 = mi_f h 13056 ∧ ∀ i : Nat, (i : Int) < mi_f h 13056 → mi_a h' 95 i = mi_a h 103 i ∧ mi_a h' 96 i = mi_a h 104 i ∧ mi_a h' 97 i = mi_a h 105 i) := by
  have main : ∀ (N : Nat) (zk : Int) (h1 : sm_H), mi_f h 13056 - zk < N → 0 ≤ zk → zk ≤ mi_f h 13056 → ab_Sh sx_sk h1 → ab_Fr gt_W h h1 → mi_f h1 12032 = mi_f h 13056 → (∀ i : Nat, (i : Int) < zk → mi_a h1 95 i = mi_a h 103 i ∧ mi_a h1 96 i = mi_a h 104 i ∧ mi_a h1 97 i = mi_a h 105 i) → me_E (d + 2) 93 10 [some (.inr (.inr 94)), some (.inr (.inr 102)), some (.inl zk)] [] h1 (fun w h' => w = none ∧ ab_Sh sx_sk h' ∧ ab_Fr gt_W h h' ∧ mi_f h' 12032 = mi_f h 13056 ∧ ∀ i : Nat, (i : Int) < mi_f h 13056 → mi_a h' 95 i = mi_a h 103 i ∧ mi_a h' 96 i = mi_a h 104 i ∧ mi_a h' 97 i = mi_a h 105 i) := by
    intro N
    induction N with
    | zero => intro zk h1 hN _ _; exfalso; omega
    | succ N ih =>
      intro zk h1 hN k0 k1 hS hF hn hi
      refine mt_khtB hS ⟨by omega, by omega⟩ ?_ (fun _ _ c => by exfalso; omega) (fun _ c1 _ c => by exfalso; omega) ?_
      · intro b c h2 g1 g2
        have e2 := me_nil g2
        subst e2
        exact ⟨rfl, hS, hF, hn, fun i hi2 => hi i (by omega)⟩
      · intro b c c1 c2
        refine ⟨⟨⟨by omega, by omega⟩, by omega, by omega⟩, fun h2 g1 g2 g3 g4 g5 => ?_⟩
        refine ih (zk + 1) h2 (by omega) (by omega) (by omega) g1 (hF.trans (g5.wide (fun c hc => ab_swr_ok (by decide) hc))) ((me_f (c := 12032) g5 hS rfl rfl).trans hn) (fun i hi2 => ?_)
        rw [g2, g3, g4]
        by_cases e : i = zk.toNat
        · rw [if_pos e, if_pos e, if_pos e, me_a (k := 103) hF hS0 rfl rfl, me_a (k := 104) hF hS0 rfl rfl, me_a (k := 105) hF hS0 rfl rfl, e]
          exact ⟨rfl, rfl, rfl⟩
        · rw [if_neg e, if_neg e, if_neg e]
          exact hi i (by omega)
  refine mt_khtA hS0 ?_
  intro h1 g1 g2 g3
  exact main 200 0 h1 (by omega) (by decide) (by omega) g1 (g3.wide (fun c hc => ab_swr_ok (by decide) hc)) g2 (fun i hi => by exfalso; omega)
/-- what grow may write -/
def gc_W : List (Nat × Nat) := [(12032, 12033), (12160, 12161), (12288, 12289), (12416, 12417), (13056, 13057), (13184, 13185), (13312, 13313), (13440, 13441), (13699, 13704)]
/-- from where it goes -/
def gc_0 (g : wk_g) (zx : Int64) (zf : Int) : Option gm_C := gm_en g 0 [] (zx, zf, [], 0, [])
/-- what is answered; the tree -/
def gc_R (h : sm_H) (T : List (Int × Int × Int)) : Prop := mi_f h 12032 = (T.length : Int) ∧ ∀ k : Nat, k < T.length → ∃ l q, T[k]? = some (mi_a h 95 k + 10 * q, mi_a h 96 k, l) ∧ 0 ≤ mi_a h 95 k ∧ mi_a h 95 k < 10
/-- what the tree holds, with the sizes -/
def gc_S (h : sm_H) (T : List (Int × Int × Int)) : Prop := gc_R h T ∧ fo 0 T ∧ ∀ k : Nat, k < T.length → (sz T)[k]? = some (mi_a h 97 k)
def gc_Q (h : sm_H) (zx : Int64) (zf : Int) (w : Option mi_V) (h' : sm_H) : Prop := ab_Sh sx_sk h' ∧ ab_Fr gc_W h h' ∧ (0 ≤ zf ∧ zf ≤ 20) ∧ mi_f h 6543 ≠ 0 ∧ ∃ s', gm_RO (mi_a h) (gx_k h) (gc_0 (mi_a h) zx zf) ([], s') ∧ w = some (.inl ((gm_T s').length : Int)) ∧ (gm_T s').length ≤ 100 ∧ gc_S h' (gm_T s')
end GCX
/-! WALKS by turns, whatever a turn is; THE WALK THAT PARSES, purely and exactly: of a state the second is the place of the next token here -/
def pw_to (st : wk_E → List wk_E → gm_S → Option gm_C) : Nat → gm_C → gm_C → Prop
  | 0, c, d => c = d
  | n + 1, c, d => ∃ e r c1, c.1 = e :: r ∧ st e r c.2 = some c1 ∧ pw_to st n c1 d
section PW0
variable {st : wk_E → List wk_E → gm_S → Option gm_C}
theorem pw_app {b d : gm_C} {m : Nat} (h2 : pw_to st m b d) : ∀ (n : Nat) (a : gm_C), pw_to st n a b → pw_to st (n + m) a d := by
  intro n
  induction n with
  | zero => intro a h; have h : a = b := h; rw [h, Nat.zero_add]; exact h2
  | succ n ih =>
    intro a h
    obtain ⟨e, r, c1, h3, h4, h5⟩ := h
    rw [Nat.succ_add]
    exact ⟨e, r, c1, h3, h4, ih c1 h5⟩
theorem pw_one {e : wk_E} {r : List wk_E} {s : gm_S} {c : gm_C} (h : st e r s = some c) : pw_to st 1 (e :: r, s) c := ⟨e, r, c, rfl, h, rfl⟩
theorem pw_det {b d : gm_C} : ∀ (n m : Nat) (a : gm_C), pw_to st n a b → pw_to st m a d → n ≤ m → pw_to st (m - n) b d := by
  intro n
  induction n with
  | zero => intro m a h1 h2 _; have h1 : a = b := h1; rw [← h1]; exact h2
  | succ n ih =>
    intro m a h1 h2 h3
    obtain ⟨e, r, c1, k1, k2, k3⟩ := h1
    cases m with
    | zero => exact absurd h3 (by omega)
    | succ m =>
      obtain ⟨e', r', c1', l1, l2, l3⟩ := h2
      rw [k1] at l1
      injection l1 with l4 l5
      rw [← l4, ← l5, k2] at l2
      injection l2 with l6
      rw [← l6] at l3
      have := ih m c1 k3 l3 (by omega)
      rwa [show m + 1 - (n + 1) = m - n from by omega]
/-- a turn from a state -/
theorem pw_cons {n : Nat} {e : wk_E} {r : List wk_E} {s : gm_S} {d : gm_C} (h : pw_to st (n + 1) (e :: r, s) d) : ∃ c1, st e r s = some c1 ∧ pw_to st n c1 d := by
  obtain ⟨e', r', c1, h1, h2, h3⟩ := h
  injection h1 with h4 h5
  subst h4
  subst h5
  exact ⟨c1, h2, h3⟩
theorem pw_end {s : gm_S} {d : gm_C} : ∀ n : Nat, pw_to st n ([], s) d → n = 0 ∧ d = ([], s) := by
  intro n h
  cases n with
  | zero => exact ⟨rfl, (show ([], s) = d from h).symm⟩
  | succ n =>
    obtain ⟨e, r, c1, h1, -⟩ := h
    cases h1
theorem pw_0 {e : wk_E} {r : List wk_E} {s s' : gm_S} (h : pw_to st 0 (e :: r, s) ([], s')) : False := by
  have h : ((e :: r, s) : gm_C) = ([], s') := h
  cases h
end PW0
theorem wk_ul_a : ∀ (r q : List wk_E), wk_ul (r ++ q) = wk_ul r + wk_ul q := by
  intro r q
  induction r with
  | nil => show wk_ul q = 0 + wk_ul q; omega
  | cons e r ih =>
    obtain ⟨a, b, c⟩ := e
    show wk_ul ((a, b, c) :: (r ++ q)) = _
    by_cases h : a = 2
    · subst h
      rw [wk_ul_o, wk_ul_o, ih]
      omega
    · rw [wk_ul_c h, wk_ul_c h, ih]
/-- a turn looks at the top alone (and at how many uses are below) -/
def pw_loc (st : Int → wk_E → List wk_E → gm_S → Option gm_C) : Prop := ∀ (l : Int) (e : wk_E) (r q : List wk_E) (s : gm_S), st l e (r ++ q) s = (st (l + wk_ul q) e r s).map (fun c => (c.1 ++ q, c.2))
section PW1
variable {st : Int → wk_E → List wk_E → gm_S → Option gm_C}
/-- a run over a stack that stands on another one: it stays above, or it comes down to it -/
theorem pw_split (hl : pw_loc st) {l : Int} {q : List wk_E} {d : gm_C} : ∀ (n : Nat) (c : gm_C), pw_to (st l) n (c.1 ++ q, c.2) d → (∃ B s', d = (B ++ q, s') ∧ B ≠ [] ∧ pw_to (st (l + wk_ul q)) n c (B, s')) ∨ ∃ n1 s1, n1 ≤ n ∧ pw_to (st (l + wk_ul q)) n1 c ([], s1) ∧ pw_to (st l) (n - n1) (q, s1) d := by
  intro n
  induction n with
  | zero =>
    intro c h
    have h : (c.1 ++ q, c.2) = d := h
    obtain ⟨A, s⟩ := c
    by_cases cA : A = []
    · refine Or.inr ⟨0, s, Nat.le_refl _, by rw [cA]; rfl, ?_⟩
      rw [cA] at h
      exact h
    · exact Or.inl ⟨A, s, h.symm, cA, rfl⟩
  | succ n ih =>
    intro c h
    obtain ⟨A, s⟩ := c
    cases A with
    | nil => exact Or.inr ⟨0, s, Nat.zero_le _, rfl, h⟩
    | cons e r =>
      obtain ⟨c1, h2, h3⟩ := pw_cons (show pw_to (st l) (n + 1) (e :: (r ++ q), s) d from h)
      rw [hl] at h2
      obtain ⟨c0, k1, k2⟩ := Option.map_eq_some_iff.mp h2
      subst k2
      rcases ih c0 h3 with ⟨B, s', i1, i2, i3⟩ | ⟨n1, s1, i1, i2, i3⟩
      · exact Or.inl ⟨B, s', i1, i2, e, r, c0, rfl, k1, i3⟩
      · refine Or.inr ⟨n1 + 1, s1, by omega, ⟨e, r, c0, rfl, k1, i2⟩, ?_⟩
        rwa [show n + 1 - (n1 + 1) = n - n1 from by omega]
/-- .. to the end -/
theorem pw_split0 (hl : pw_loc st) {l : Int} {q : List wk_E} {s' : gm_S} {n : Nat} {A : List wk_E} {s : gm_S} (h : pw_to (st l) n (A ++ q, s) ([], s')) : ∃ n1 s1, n1 ≤ n ∧ pw_to (st (l + wk_ul q)) n1 (A, s) ([], s1) ∧ pw_to (st l) (n - n1) (q, s1) ([], s') := by
  rcases pw_split hl n (A, s) h with ⟨B, s2, i1, i2, -⟩ | h
  · injection i1 with i1 _
    exact absurd (List.append_eq_nil_iff.mp i1.symm).1 i2
  · exact h
end PW1
/-- kinds and values of the tokens; whether a kind is among the starts of a unit; among the directors of a form's alternative -/
abbrev pm_E : Type := (Int → Int) × (Int → Int) × (Int → Int → Bool) × (Int → Int → Int → Bool)
def pm_K (E : pm_E) (s : gm_S) : Int := E.1 (gm_F s)
def pm_V (E : pm_E) (s : gm_S) : Int := E.2.1 (gm_F s)
def pm_h (E : pm_E) (u : Int) (s : gm_S) : Bool := E.2.2.1 u (pm_K E s)
/-- the first alternative that is directed to -/
def pm_dr (g : wk_g) (p : Int → Bool) : Nat → Int → Int → Option Int
  | 0, _, _ => none
  | m + 1, a, n => if p a = true then some n else pm_dr g p m (g 128 a.toNat) (n + 1)
def pm_nx (s : gm_S) : gm_S := (gm_X s, gm_F s + 1, gm_T s, gm_D s, gm_P s)
/-- a node's value becomes one more -/
def pm_up : Nat → List (Int × Int × Int) → List (Int × Int × Int)
  | _, [] => []
  | 0, x :: q => (x.1, x.2.1 + 1, x.2.2) :: q
  | n + 1, x :: q => x :: pm_up n q
def pm_inc (a : Int) (s : gm_S) : gm_S := (gm_X s, gm_F s, pm_up a.toNat (gm_T s), gm_D s, gm_P s)
def pm_en (l : Int) (g : wk_g) (i : Int) (r : List wk_E) (s : gm_S) : Option gm_C :=
  if 12 ≤ l + wk_ul r then none else (gm_c 1 i s).map (fun t => ((1, g 114 i.toNat, 0) :: (2, 1, 0) :: r, gm_d t))
/-- what has no form: its sort, what it is -/
def pm_lf (E : pm_E) (o w : Int) (s : gm_S) : Option gm_S :=
  if o = 1 then (if pm_K E s = 1 then (gm_c 2 ((pm_V E s + w) % 10000) s).map pm_nx else none)
  else if o = 2 then (if pm_K E s = 2 then (gm_c 3 (pm_V E s) s).map pm_nx else none)
  else if o = 8 then (if 0 ≤ w ∧ pm_K E s = 3 + w then some (pm_nx s) else none)
  else some s
def pm_sg (l : Int) (g : wk_g) (E : pm_E) (u : Int) (r : List wk_E) (s : gm_S) : Option gm_C :=
  if g 119 u.toNat = 9 then pm_en l g (g 115 (g 120 u.toNat).toNat) r s
  else if g 119 u.toNat = 10 then some ((1, g 120 u.toNat, 0) :: r, s)
  else (pm_lf E (g 119 u.toNat) (g 120 u.toNat) s).map (fun t => (r, t))
def pm_u (l : Int) (g : wk_g) (E : pm_E) (u : Int) (r : List wk_E) (s : gm_S) : Option gm_C :=
  if g 122 u.toNat = 1 then (gm_c 5 0 s).map (fun t => ((5, u, gm_len s) :: (2, 0, 0) :: r, gm_d t))
  else if g 122 u.toNat = 2 then (gm_c 6 (if pm_h E u s = true then 1 else 0) s).bind (fun t => if pm_h E u s = true then pm_sg l g E u ((2, 0, 0) :: r) (gm_d t) else some ((2, 0, 0) :: r, gm_d t))
  else pm_sg l g E u r s
def pm_w (g : wk_g) (E : pm_E) (f : Int) (s : gm_S) : Option Int := pm_dr g (fun a => E.2.2.2 f a (pm_K E s)) (g 130 f.toNat).toNat (g 129 f.toNat) 0
def pm_fo (g : wk_g) (E : pm_E) (f : Int) (r : List wk_E) (s : gm_S) : Option gm_C :=
  if 1 < g 130 f.toNat then (pm_w g E f s).bind (fun n => (gm_c 4 n s).map (fun t => (wk_it g 61 (g 126 (wk_alt g n.toNat (g 129 f.toNat)).toNat) ++ (2, 0, 0) :: r, gm_d t)))
  else some (wk_it g 61 (g 126 (g 129 f.toNat).toNat) ++ r, s)
def pm_ag (l : Int) (g : wk_g) (E : pm_E) (u a : Int) (r : List wk_E) (s : gm_S) : Option gm_C := if pm_h E u s = true then pm_sg l g E u ((5, u, a) :: r) (pm_inc a s) else some (r, s)
def pm_st (g : wk_g) (E : pm_E) (l : Int) (e : wk_E) (r : List wk_E) (s : gm_S) : Option gm_C :=
  if e.1 = 0 then pm_u l g E e.2.1 r (gm_op e.2.2 s)
  else if e.1 = 1 then pm_fo g E e.2.1 r s
  else if e.1 = 5 then pm_ag l g E e.2.1 e.2.2 r s
  else if e.1 = 2 then some (r, (gm_X s, gm_F s, gm_T s, gm_D s - 1, gm_P s))
  else if e.1 = 3 then some (r, gm_mid s)
  else some (r, gm_tu s)
section PM0
variable {g : wk_g} {E : pm_E} {l : Int} {r q : List wk_E} {s : gm_S}
theorem pm_st_0 {u o : Int} : pm_st g E l (0, u, o) r s = pm_u l g E u r (gm_op o s) := by
  unfold pm_st
  rw [if_pos rfl]
theorem pm_st_1 {f a : Int} : pm_st g E l (1, f, a) r s = pm_fo g E f r s := by
  unfold pm_st
  rw [if_neg (show ¬ (1 : Int) = 0 by decide), if_pos rfl]
theorem pm_st_5 {u a : Int} : pm_st g E l (5, u, a) r s = pm_ag l g E u a r s := by
  unfold pm_st
  rw [if_neg (show ¬ (5 : Int) = 0 by decide), if_neg (show ¬ (5 : Int) = 1 by decide), if_pos rfl]
theorem pm_st_2 {u a : Int} : pm_st g E l (2, u, a) r s = some (r, (gm_X s, gm_F s, gm_T s, gm_D s - 1, gm_P s)) := by
  unfold pm_st
  rw [if_neg (show ¬ (2 : Int) = 0 by decide), if_neg (show ¬ (2 : Int) = 1 by decide), if_neg (show ¬ (2 : Int) = 5 by decide), if_pos rfl]
theorem pm_st_3 {u a : Int} : pm_st g E l (3, u, a) r s = some (r, gm_mid s) := by
  unfold pm_st
  rw [if_neg (show ¬ (3 : Int) = 0 by decide), if_neg (show ¬ (3 : Int) = 1 by decide), if_neg (show ¬ (3 : Int) = 5 by decide), if_neg (show ¬ (3 : Int) = 2 by decide), if_pos rfl]
theorem pm_st_4 {u a : Int} : pm_st g E l (4, u, a) r s = some (r, gm_tu s) := by
  unfold pm_st
  rw [if_neg (show ¬ (4 : Int) = 0 by decide), if_neg (show ¬ (4 : Int) = 1 by decide), if_neg (show ¬ (4 : Int) = 5 by decide), if_neg (show ¬ (4 : Int) = 2 by decide), if_neg (show ¬ (4 : Int) = 3 by decide)]
theorem pm_en_loc {i : Int} : pm_en l g i (r ++ q) s = (pm_en (l + wk_ul q) g i r s).map (fun c => (c.1 ++ q, c.2)) := by
  unfold pm_en
  rw [wk_ul_a]
  by_cases c : 12 ≤ l + (wk_ul r + wk_ul q)
  · rw [if_pos c, if_pos (by omega)]
    rfl
  · rw [if_neg c, if_neg (by omega)]
    cases gm_c 1 i s with
    | none => rfl
    | some t => rfl
theorem pm_sg_loc {u : Int} : pm_sg l g E u (r ++ q) s = (pm_sg (l + wk_ul q) g E u r s).map (fun c => (c.1 ++ q, c.2)) := by
  unfold pm_sg
  by_cases c9 : g 119 u.toNat = 9
  · rw [if_pos c9, if_pos c9]
    exact pm_en_loc
  · rw [if_neg c9, if_neg c9]
    by_cases c10 : g 119 u.toNat = 10
    · rw [if_pos c10, if_pos c10]
      rfl
    · rw [if_neg c10, if_neg c10]
      cases pm_lf E (g 119 u.toNat) (g 120 u.toNat) s with
      | none => rfl
      | some t => rfl
theorem pm_u_loc {u : Int} : pm_u l g E u (r ++ q) s = (pm_u (l + wk_ul q) g E u r s).map (fun c => (c.1 ++ q, c.2)) := by
  unfold pm_u
  by_cases c1 : g 122 u.toNat = 1
  · rw [if_pos c1, if_pos c1]
    cases gm_c 5 0 s with
    | none => rfl
    | some t => rfl
  · rw [if_neg c1, if_neg c1]
    by_cases c2 : g 122 u.toNat = 2
    · rw [if_pos c2, if_pos c2]
      cases gm_c 6 (if pm_h E u s = true then 1 else 0) s with
      | none => rfl
      | some t =>
        show (if pm_h E u s = true then pm_sg l g E u ((2, 0, 0) :: (r ++ q)) (gm_d t) else some ((2, 0, 0) :: (r ++ q), gm_d t)) = Option.map _ (if pm_h E u s = true then pm_sg (l + wk_ul q) g E u ((2, 0, 0) :: r) (gm_d t) else some ((2, 0, 0) :: r, gm_d t))
        by_cases ch : pm_h E u s = true
        · rw [if_pos ch, if_pos ch]
          exact pm_sg_loc (r := (2, 0, 0) :: r)
        · rw [if_neg ch, if_neg ch]
          rfl
    · rw [if_neg c2, if_neg c2]
      exact pm_sg_loc
theorem pm_loc : pw_loc (pm_st g E) := by
  intro l e r q s
  unfold pm_st
  by_cases c0 : e.1 = 0
  · rw [if_pos c0, if_pos c0]
    exact pm_u_loc
  · rw [if_neg c0, if_neg c0]
    by_cases c1 : e.1 = 1
    · rw [if_pos c1, if_pos c1]
      unfold pm_fo
      by_cases c2 : 1 < g 130 e.2.1.toNat
      · rw [if_pos c2, if_pos c2]
        cases pm_w g E e.2.1 s with
        | none => rfl
        | some n =>
          show Option.map _ (gm_c 4 n s) = Option.map _ (Option.map _ (gm_c 4 n s))
          cases gm_c 4 n s with
          | none => rfl
          | some t =>
            dsimp only [Option.map]
            rw [List.append_assoc]
            rfl
      · rw [if_neg c2, if_neg c2]
        dsimp only [Option.map]
        rw [List.append_assoc]
    · rw [if_neg c1, if_neg c1]
      by_cases c5 : e.1 = 5
      · rw [if_pos c5, if_pos c5]
        unfold pm_ag
        by_cases ch : pm_h E e.2.1 s = true
        · rw [if_pos ch, if_pos ch]
          exact pm_sg_loc (r := (5, e.2.1, e.2.2) :: r)
        · rw [if_neg ch, if_neg ch]
          rfl
      · rw [if_neg c5, if_neg c5]
        by_cases c2 : e.1 = 2
        · rw [if_pos c2, if_pos c2]
          rfl
        · rw [if_neg c2, if_neg c2]
          by_cases c3 : e.1 = 3
          · rw [if_pos c3, if_pos c3]
            rfl
          · rw [if_neg c3, if_neg c3]
            rfl
end PM0
/-! the walk that parses, purely: what is in the starts of a part that is read takes a token -/
section PM1
variable {g : wk_g} {E : pm_E} {l : Int} {r : List wk_E} {s t : gm_S} {c : gm_C}
theorem pm_F_op {o : Int} : gm_F (gm_op o s) = gm_F s := by
  unfold gm_op
  by_cases c : o = 1
  · rw [if_pos c, gm_F_mk]
  · rw [if_neg c]
theorem pm_F_mid : gm_F (gm_mid s) = gm_F s := by
  unfold gm_mid
  rw [gm_F_mk]
theorem pm_F_tu : gm_F (gm_tu s) = gm_F s := by
  unfold gm_tu
  cases gm_P s with
  | nil => rfl
  | cons p q => exact gm_F_mk _ _ _ _ _
theorem pm_nx_e : gm_F (pm_nx s) = gm_F s + 1 ∧ gm_T (pm_nx s) = gm_T s ∧ gm_D (pm_nx s) = gm_D s ∧ gm_P (pm_nx s) = gm_P s := by
  unfold pm_nx
  rw [gm_F_mk, gm_T_mk, gm_D_mk, gm_P_mk]
  exact ⟨rfl, rfl, rfl, rfl⟩
theorem pm_inc_e {a : Int} : gm_F (pm_inc a s) = gm_F s ∧ gm_T (pm_inc a s) = pm_up a.toNat (gm_T s) ∧ gm_D (pm_inc a s) = gm_D s ∧ gm_P (pm_inc a s) = gm_P s := by
  unfold pm_inc
  rw [gm_F_mk, gm_T_mk, gm_D_mk, gm_P_mk]
  exact ⟨rfl, rfl, rfl, rfl⟩
theorem pm_up_len : ∀ (a : Nat) (T : List (Int × Int × Int)), (pm_up a T).length = T.length := by
  intro a
  induction a with
  | zero =>
    intro T
    cases T with
    | nil => rfl
    | cons x q => rfl
  | succ a ih =>
    intro T
    cases T with
    | nil => rfl
    | cons x q =>
      show (pm_up a q).length + 1 = q.length + 1
      rw [ih]
theorem pm_inc_len {a : Int} : gm_len (pm_inc a s) = gm_len s := by
  unfold gm_len
  rw [pm_inc_e.2.1, pm_up_len]
theorem pm_lf_e {o w : Int} (h : pm_lf E o w s = some t) : gm_D t = gm_D s ∧ gm_P t = gm_P s ∧ gm_len s ≤ gm_len t ∧ ((gm_F t = gm_F s + 1 ∧ (o = 1 ∨ o = 2 ∨ o = 8)) ∨ (t = s ∧ o ≠ 1 ∧ o ≠ 2 ∧ o ≠ 8)) := by
  have fin : ∀ (k v : Int), (gm_c k v s).map pm_nx = some t → gm_D t = gm_D s ∧ gm_P t = gm_P s ∧ gm_len s ≤ gm_len t ∧ gm_F t = gm_F s + 1 := by
    intro k v h
    obtain ⟨t1, h1, h2⟩ := Option.map_eq_some_iff.mp h
    obtain ⟨-, a2, a3, a4, a5⟩ := gm_c_e h1
    obtain ⟨n1, n2, n3, n4⟩ := pm_nx_e (s := t1)
    subst h2
    refine ⟨n3.trans a4, n4.trans a5, ?_, by rw [n1, a3]⟩
    have : gm_len (pm_nx t1) = gm_len t1 := by unfold gm_len; rw [n2]
    omega
  unfold pm_lf at h
  by_cases c1 : o = 1
  · rw [if_pos c1] at h
    by_cases ck : pm_K E s = 1
    · rw [if_pos ck] at h
      obtain ⟨x1, x2, x3, x4⟩ := fin _ _ h
      exact ⟨x1, x2, x3, Or.inl ⟨x4, Or.inl c1⟩⟩
    · rw [if_neg ck] at h
      cases h
  rw [if_neg c1] at h
  by_cases c2 : o = 2
  · rw [if_pos c2] at h
    by_cases ck : pm_K E s = 2
    · rw [if_pos ck] at h
      obtain ⟨x1, x2, x3, x4⟩ := fin _ _ h
      exact ⟨x1, x2, x3, Or.inl ⟨x4, Or.inr (Or.inl c2)⟩⟩
    · rw [if_neg ck] at h
      cases h
  rw [if_neg c2] at h
  by_cases c8 : o = 8
  · rw [if_pos c8] at h
    by_cases ck : 0 ≤ w ∧ pm_K E s = 3 + w
    · rw [if_pos ck] at h
      injection h with h
      subst h
      obtain ⟨n1, n2, n3, n4⟩ := pm_nx_e (s := s)
      exact ⟨n3, n4, by unfold gm_len; rw [n2]; exact Int.le_refl _, Or.inl ⟨n1, Or.inr (Or.inr c8)⟩⟩
    · rw [if_neg ck] at h
      cases h
  rw [if_neg c8] at h
  injection h with h
  subst h
  exact ⟨rfl, rfl, Int.le_refl _, Or.inr ⟨rfl, c1, c2, c8⟩⟩
/-- only what has a kind is taken -/
theorem pm_lf_K {o w : Int} (h : pm_lf E o w s = some t) : gm_F t = gm_F s ∨ (gm_F t = gm_F s + 1 ∧ 1 ≤ pm_K E s) := by
  have hl := (pm_lf_e h).2.2.2
  rcases hl with ⟨x, y⟩ | ⟨x, -⟩
  · refine Or.inr ⟨x, ?_⟩
    unfold pm_lf at h
    rcases y with y | y | y
    · rw [if_pos y] at h
      by_cases ck : pm_K E s = 1
      · omega
      · rw [if_neg ck] at h
        cases h
    · rw [if_neg (by omega), if_pos y] at h
      by_cases ck : pm_K E s = 2
      · omega
      · rw [if_neg ck] at h
        cases h
    · rw [if_neg (by omega), if_neg (by omega), if_pos y] at h
      by_cases ck : 0 ≤ w ∧ pm_K E s = 3 + w
      · omega
      · rw [if_neg ck] at h
        cases h
  · exact Or.inl (by rw [x])
theorem pm_sg_F {u : Int} (h : pm_sg l g E u r s = some c) : gm_F s ≤ gm_F c.2 := by
  unfold pm_sg at h
  by_cases c9 : g 119 u.toNat = 9
  · rw [if_pos c9] at h
    unfold pm_en at h
    by_cases cu : 12 ≤ l + wk_ul r
    · rw [if_pos cu] at h
      cases h
    · rw [if_neg cu] at h
      obtain ⟨t, t1, t2⟩ := Option.map_eq_some_iff.mp h
      subst t2
      have := (gm_c_e t1).2.2.1
      have := (gm_d_e (t := t)).2.1
      show gm_F s ≤ gm_F (gm_d t)
      omega
  rw [if_neg c9] at h
  by_cases c10 : g 119 u.toNat = 10
  · rw [if_pos c10] at h
    injection h with h
    subst h
    exact Int.le_refl _
  rw [if_neg c10] at h
  obtain ⟨t, t1, t2⟩ := Option.map_eq_some_iff.mp h
  subst t2
  show gm_F s ≤ gm_F t
  rcases (pm_lf_e t1).2.2.2 with ⟨x, -⟩ | ⟨x, -⟩
  · omega
  · rw [x]
    exact Int.le_refl _
theorem pm_st_F {e : wk_E} (h : pm_st g E l e r s = some c) : gm_F s ≤ gm_F c.2 := by
  unfold pm_st at h
  by_cases c0 : e.1 = 0
  · rw [if_pos c0] at h
    have eo := pm_F_op (o := e.2.2) (s := s)
    unfold pm_u at h
    by_cases w1 : g 122 e.2.1.toNat = 1
    · rw [if_pos w1] at h
      obtain ⟨t, t1, t2⟩ := Option.map_eq_some_iff.mp h
      subst t2
      have := (gm_c_e t1).2.2.1
      have := (gm_d_e (t := t)).2.1
      show gm_F s ≤ gm_F (gm_d t)
      omega
    rw [if_neg w1] at h
    by_cases w2 : g 122 e.2.1.toNat = 2
    · rw [if_pos w2] at h
      obtain ⟨t, t1, t2⟩ := Option.bind_eq_some_iff.mp h
      have k1 := (gm_c_e t1).2.2.1
      have k2 := (gm_d_e (t := t)).2.1
      by_cases ch : pm_h E e.2.1 (gm_op e.2.2 s) = true
      · rw [if_pos ch] at t2
        have := pm_sg_F t2
        omega
      · rw [if_neg ch] at t2
        injection t2 with t2
        subst t2
        show gm_F s ≤ gm_F (gm_d t)
        omega
    rw [if_neg w2] at h
    have := pm_sg_F h
    omega
  rw [if_neg c0] at h
  by_cases c1 : e.1 = 1
  · rw [if_pos c1] at h
    unfold pm_fo at h
    by_cases w1 : 1 < g 130 e.2.1.toNat
    · rw [if_pos w1] at h
      obtain ⟨n, -, h⟩ := Option.bind_eq_some_iff.mp h
      obtain ⟨t, t1, t2⟩ := Option.map_eq_some_iff.mp h
      subst t2
      have := (gm_c_e t1).2.2.1
      have := (gm_d_e (t := t)).2.1
      show gm_F s ≤ gm_F (gm_d t)
      omega
    · rw [if_neg w1] at h
      injection h with h
      subst h
      exact Int.le_refl _
  rw [if_neg c1] at h
  by_cases c5 : e.1 = 5
  · rw [if_pos c5] at h
    unfold pm_ag at h
    by_cases ch : pm_h E e.2.1 s = true
    · rw [if_pos ch] at h
      have := pm_sg_F h
      rw [pm_inc_e.1] at this
      exact this
    · rw [if_neg ch] at h
      injection h with h
      subst h
      exact Int.le_refl _
  rw [if_neg c5] at h
  by_cases c2 : e.1 = 2
  · rw [if_pos c2] at h
    injection h with h
    subst h
    exact Int.le_of_eq (gm_F_mk _ _ _ _ _).symm
  rw [if_neg c2] at h
  by_cases c3 : e.1 = 3
  · rw [if_pos c3] at h
    injection h with h
    subst h
    exact Int.le_of_eq pm_F_mid.symm
  · rw [if_neg c3] at h
    injection h with h
    subst h
    exact Int.le_of_eq pm_F_tu.symm
theorem pm_sg_K {u : Int} (h : pm_sg l g E u r s = some c) : gm_F c.2 = gm_F s ∨ (gm_F c.2 = gm_F s + 1 ∧ 1 ≤ pm_K E s) := by
  unfold pm_sg at h
  by_cases c9 : g 119 u.toNat = 9
  · rw [if_pos c9] at h
    unfold pm_en at h
    by_cases cu : 12 ≤ l + wk_ul r
    · rw [if_pos cu] at h
      cases h
    · rw [if_neg cu] at h
      obtain ⟨t, t1, t2⟩ := Option.map_eq_some_iff.mp h
      subst t2
      have k1 := (gm_c_e t1).2.2.1
      have k2 := (gm_d_e (t := t)).2.1
      exact Or.inl (by show gm_F (gm_d t) = gm_F s; omega)
  rw [if_neg c9] at h
  by_cases c10 : g 119 u.toNat = 10
  · rw [if_pos c10] at h
    injection h with h
    subst h
    exact Or.inl rfl
  rw [if_neg c10] at h
  obtain ⟨t, t1, t2⟩ := Option.map_eq_some_iff.mp h
  subst t2
  exact pm_lf_K t1
theorem pm_st_K {e : wk_E} (h : pm_st g E l e r s = some c) : gm_F c.2 = gm_F s ∨ (gm_F c.2 = gm_F s + 1 ∧ 1 ≤ pm_K E s) := by
  unfold pm_st at h
  by_cases c0 : e.1 = 0
  · rw [if_pos c0] at h
    have eo := pm_F_op (o := e.2.2) (s := s)
    have eK : pm_K E (gm_op e.2.2 s) = pm_K E s := by unfold pm_K; rw [eo]
    unfold pm_u at h
    by_cases w1 : g 122 e.2.1.toNat = 1
    · rw [if_pos w1] at h
      obtain ⟨t, t1, t2⟩ := Option.map_eq_some_iff.mp h
      subst t2
      have k1 := (gm_c_e t1).2.2.1
      have k2 := (gm_d_e (t := t)).2.1
      exact Or.inl (by show gm_F (gm_d t) = gm_F s; omega)
    rw [if_neg w1] at h
    by_cases w2 : g 122 e.2.1.toNat = 2
    · rw [if_pos w2] at h
      obtain ⟨t, t1, t2⟩ := Option.bind_eq_some_iff.mp h
      have k1 := (gm_c_e t1).2.2.1
      have k2 := (gm_d_e (t := t)).2.1
      have e3 : gm_F (gm_d t) = gm_F s := by omega
      by_cases ch : pm_h E e.2.1 (gm_op e.2.2 s) = true
      · rw [if_pos ch] at t2
        have := pm_sg_K t2
        have eK2 : pm_K E (gm_d t) = pm_K E s := by unfold pm_K; rw [e3]
        rw [eK2, e3] at this
        exact this
      · rw [if_neg ch] at t2
        injection t2 with t2
        subst t2
        exact Or.inl e3
    rw [if_neg w2] at h
    have := pm_sg_K h
    rw [eK, eo] at this
    exact this
  rw [if_neg c0] at h
  by_cases c1 : e.1 = 1
  · rw [if_pos c1] at h
    unfold pm_fo at h
    by_cases w1 : 1 < g 130 e.2.1.toNat
    · rw [if_pos w1] at h
      obtain ⟨n, -, h⟩ := Option.bind_eq_some_iff.mp h
      obtain ⟨t, t1, t2⟩ := Option.map_eq_some_iff.mp h
      subst t2
      have k1 := (gm_c_e t1).2.2.1
      have k2 := (gm_d_e (t := t)).2.1
      exact Or.inl (by show gm_F (gm_d t) = gm_F s; omega)
    · rw [if_neg w1] at h
      injection h with h
      subst h
      exact Or.inl rfl
  rw [if_neg c1] at h
  by_cases c5 : e.1 = 5
  · rw [if_pos c5] at h
    unfold pm_ag at h
    by_cases ch : pm_h E e.2.1 s = true
    · rw [if_pos ch] at h
      have := pm_sg_K h
      have eK : pm_K E (pm_inc e.2.2 s) = pm_K E s := by unfold pm_K; rw [pm_inc_e.1]
      rw [eK, pm_inc_e.1] at this
      exact this
    · rw [if_neg ch] at h
      injection h with h
      subst h
      exact Or.inl rfl
  rw [if_neg c5] at h
  by_cases c2 : e.1 = 2
  · rw [if_pos c2] at h
    injection h with h
    subst h
    exact Or.inl (gm_F_mk _ _ _ _ _)
  rw [if_neg c2] at h
  by_cases c3 : e.1 = 3
  · rw [if_pos c3] at h
    injection h with h
    subst h
    exact Or.inl pm_F_mid
  · rw [if_neg c3] at h
    injection h with h
    subst h
    exact Or.inl pm_F_tu
/-- a token without a kind stays the next one -/
theorem pm_to_bad {d : gm_C} : ∀ (n : Nat) (c : gm_C), pw_to (pm_st g E l) n c d → pm_K E c.2 < 1 → gm_F d.2 = gm_F c.2 := by
  intro n
  induction n with
  | zero => intro c h _; have h : c = d := h; rw [h]
  | succ n ih =>
    intro c h hk
    obtain ⟨e, r, c1, -, h2, h3⟩ := h
    have e1 : gm_F c1.2 = gm_F c.2 := by
      rcases pm_st_K h2 with x | ⟨x, y⟩
      · exact x
      · omega
    rw [ih c1 h3 (by unfold pm_K at hk ⊢; rw [e1]; exact hk), e1]
theorem pm_to_F {d : gm_C} : ∀ (n : Nat) (c : gm_C), pw_to (pm_st g E l) n c d → gm_F c.2 ≤ gm_F d.2 := by
  intro n
  induction n with
  | zero => intro c h; have h : c = d := h; rw [h]; exact Int.le_refl _
  | succ n ih =>
    intro c h
    obtain ⟨e, r, c1, -, h2, h3⟩ := h
    have := pm_st_F h2
    have := ih c1 h3
    omega
theorem pm_dr_e {p : Int → Bool} : ∀ (m : Nat) (a n z : Int), pm_dr g p m a n = some z → ∃ j : Nat, j < m ∧ z = n + j ∧ p (wk_alt g j a) = true := by
  intro m
  induction m with
  | zero => intro a n z h; cases h
  | succ m ih =>
    intro a n z h
    unfold pm_dr at h
    by_cases c : p a = true
    · rw [if_pos c] at h
      injection h with h
      exact ⟨0, by omega, by omega, c⟩
    · rw [if_neg c] at h
      obtain ⟨j, j1, j2, j3⟩ := ih _ _ _ h
      exact ⟨j + 1, by omega, by omega, j3⟩
end PM1
/-- what is known of the sets: pf starts of forms, pa of alternatives; two alternatives of one form have no director in common -/
def pm_Hs (g : wk_g) (Y : wk_Y) (E : pm_E) (pf pa : Int → Int → Bool) : Prop :=
  (∀ u k, 0 ≤ u → u < wk_u Y → E.2.2.1 u k = true → (g 119 u.toNat = 9 → pf (wk_rf g u) k = true) ∧ (g 119 u.toNat = 10 → pf (g 120 u.toNat) k = true) ∧ (g 119 u.toNat = 1 ∨ g 119 u.toNat = 2 ∨ g 119 u.toNat = 8 ∨ g 119 u.toNat = 9 ∨ g 119 u.toNat = 10)) ∧
  (∀ f k, 0 ≤ f → f < wk_f Y → pf f k = true → ∃ j : Nat, (j : Int) < g 130 f.toNat ∧ pa (wk_alt g j (g 129 f.toNat)) k = true) ∧
  (∀ f k (j : Nat), 0 ≤ f → f < wk_f Y → (j : Int) < g 130 f.toNat → pa (wk_alt g j (g 129 f.toNat)) k = true → E.2.2.2 f (wk_alt g j (g 129 f.toNat)) k = true ∧ ∃ w o, (0, w, o) ∈ wk_it g 61 (g 126 (wk_alt g j (g 129 f.toNat)).toNat) ∧ 0 ≤ w ∧ w < wk_u Y ∧ E.2.2.1 w k = true) ∧
  (∀ f k (i j : Nat), 0 ≤ f → f < wk_f Y → (i : Int) < g 130 f.toNat → (j : Int) < g 130 f.toNat → E.2.2.2 f (wk_alt g i (g 129 f.toNat)) k = true → E.2.2.2 f (wk_alt g j (g 129 f.toNat)) k = true → i = j)
section PM2
variable {g : wk_g} {Y : wk_Y} {E : pm_E} {pf pa : Int → Int → Bool}
/-- a form whose starts have the next token takes it; in runs of at most N turns -/
def pm_ef (g : wk_g) (Y : wk_Y) (E : pm_E) (pf : Int → Int → Bool) (N : Nat) : Prop := ∀ (n : Nat) (l f a : Int) (s s' : gm_S), n ≤ N → 0 ≤ f → f < wk_f Y → pf f (pm_K E s) = true → pw_to (pm_st g E l) n ([(1, f, a)], s) ([], s') → gm_F s < gm_F s'
theorem pm_K_of {s t : gm_S} (h : gm_F t = gm_F s) : pm_K E t = pm_K E s := by
  unfold pm_K
  rw [h]
theorem pm_h_of {u : Int} {s t : gm_S} (h : gm_F t = gm_F s) : pm_h E u t = pm_h E u s := by
  unfold pm_h
  rw [pm_K_of h]
theorem pm_eat_sg (hL : wk_L g Y) (hH : pm_Hs g Y E pf pa) {N : Nat} (hf : pm_ef g Y E pf N) {n : Nat} (hn : n ≤ N) {l u : Int} {s s' : gm_S} {c : gm_C} (u0 : 0 ≤ u) (u1 : u < wk_u Y) (hu : pm_h E u s = true) (h1 : pm_sg l g E u [] s = some c) (h2 : pw_to (pm_st g E l) n c ([], s')) : gm_F s < gm_F s' := by
  obtain ⟨a1, a2, a3⟩ := hH.1 u _ u0 u1 hu
  obtain ⟨-, -, -, k9, k10, -⟩ := hL.2.2.1 u u0 u1
  unfold pm_sg at h1
  by_cases c9 : g 119 u.toNat = 9
  · rw [if_pos c9] at h1
    obtain ⟨-, -, -, -, r1, r2, -⟩ := k9 c9
    unfold pm_en at h1
    by_cases cu : 12 ≤ l + wk_ul []
    · rw [if_pos cu] at h1
      cases h1
    · rw [if_neg cu] at h1
      obtain ⟨t, t1, t2⟩ := Option.map_eq_some_iff.mp h1
      subst t2
      have e1 := (gm_c_e t1).2.2.1
      have e2 := (gm_d_e (t := t)).2.1
      have e3 : gm_F (gm_d t) = gm_F s := by rw [e2, e1]
      obtain ⟨n1, s1, i1, i2, i3⟩ := pw_split0 pm_loc (A := [(1, wk_rf g u, 0)]) (q := [(2, 1, 0)]) h2
      have x := hf n1 _ _ _ _ _ (by omega) r1 r2 (by rw [pm_K_of e3]; exact a1 c9) i2
      have := pm_to_F _ _ i3
      dsimp only at this
      omega
  rw [if_neg c9] at h1
  by_cases c10 : g 119 u.toNat = 10
  · rw [if_pos c10] at h1
    injection h1 with h1
    subst h1
    obtain ⟨r1, r2, -⟩ := k10 c10
    exact hf n _ _ _ _ _ hn r1 r2 (a2 c10) h2
  rw [if_neg c10] at h1
  obtain ⟨t, t1, t2⟩ := Option.map_eq_some_iff.mp h1
  subst t2
  have := pm_to_F _ _ h2
  dsimp only at this
  rcases (pm_lf_e t1).2.2.2 with ⟨x, -⟩ | ⟨-, x⟩
  · omega
  · exfalso
    omega
theorem pm_eat_ag (hL : wk_L g Y) (hH : pm_Hs g Y E pf pa) {N : Nat} (hf : pm_ef g Y E pf N) {n : Nat} (hn : n ≤ N) {l u a : Int} {s s' : gm_S} (u0 : 0 ≤ u) (u1 : u < wk_u Y) (hu : pm_h E u s = true) (h2 : pw_to (pm_st g E l) n ([(5, u, a)], s) ([], s')) : gm_F s < gm_F s' := by
  cases n with
  | zero => exact (pw_0 h2).elim
  | succ n =>
    obtain ⟨c1, h3, h4⟩ := pw_cons h2
    rw [pm_st_5] at h3
    unfold pm_ag at h3
    rw [if_pos hu, show ((5, u, a) :: [] : List wk_E) = [] ++ [(5, u, a)] from rfl, pm_sg_loc] at h3
    obtain ⟨c0, k1, k2⟩ := Option.map_eq_some_iff.mp h3
    subst k2
    obtain ⟨n1, s1, i1, i2, i3⟩ := pw_split0 pm_loc (A := c0.1) (q := [(5, u, a)]) h4
    have ei := (pm_inc_e (s := s) (a := a)).1
    have x := pm_eat_sg hL hH hf (n := n1) (by omega) u0 u1 (by rw [pm_h_of ei]; exact hu) k1 i2
    have := pm_to_F _ _ i3
    dsimp only at this
    omega
theorem pm_eat_u (hL : wk_L g Y) (hH : pm_Hs g Y E pf pa) {N : Nat} (hf : pm_ef g Y E pf N) {n : Nat} (hn : n ≤ N) {l u o : Int} {s s' : gm_S} (u0 : 0 ≤ u) (u1 : u < wk_u Y) (hu : pm_h E u s = true) (h2 : pw_to (pm_st g E l) n ([(0, u, o)], s) ([], s')) : gm_F s < gm_F s' := by
  cases n with
  | zero => exact (pw_0 h2).elim
  | succ n =>
    obtain ⟨c1, h3, h4⟩ := pw_cons h2
    rw [pm_st_0] at h3
    have eo := pm_F_op (o := o) (s := s)
    have ho : pm_h E u (gm_op o s) = true := by rw [pm_h_of eo]; exact hu
    unfold pm_u at h3
    by_cases w1 : g 122 u.toNat = 1
    · rw [if_pos w1] at h3
      obtain ⟨t, t1, t2⟩ := Option.map_eq_some_iff.mp h3
      subst t2
      have e1 := (gm_c_e t1).2.2.1
      have e2 := (gm_d_e (t := t)).2.1
      obtain ⟨n1, s1, i1, i2, i3⟩ := pw_split0 pm_loc (A := [(5, u, gm_len (gm_op o s))]) (q := [(2, 0, 0)]) h4
      have x := pm_eat_ag hL hH hf (n := n1) (by omega) u0 u1 (by rw [pm_h_of (show gm_F (gm_d t) = gm_F s by omega)]; exact hu) i2
      have := pm_to_F _ _ i3
      dsimp only at this
      omega
    rw [if_neg w1] at h3
    by_cases w2 : g 122 u.toNat = 2
    · rw [if_pos w2] at h3
      obtain ⟨t, t1, t2⟩ := Option.bind_eq_some_iff.mp h3
      have e1 := (gm_c_e t1).2.2.1
      have e2 := (gm_d_e (t := t)).2.1
      rw [if_pos ho, show ((2, 0, 0) :: [] : List wk_E) = [] ++ [(2, 0, 0)] from rfl, pm_sg_loc] at t2
      obtain ⟨c0, k1, k2⟩ := Option.map_eq_some_iff.mp t2
      subst k2
      obtain ⟨n1, s1, i1, i2, i3⟩ := pw_split0 pm_loc (A := c0.1) (q := [(2, 0, 0)]) h4
      have x := pm_eat_sg hL hH hf (n := n1) (by omega) u0 u1 (by rw [pm_h_of (show gm_F (gm_d t) = gm_F s by omega)]; exact hu) k1 i2
      have := pm_to_F _ _ i3
      dsimp only at this
      omega
    rw [if_neg w2] at h3
    have := pm_eat_sg hL hH hf (n := n) (by omega) u0 u1 ho h3 h4
    omega
theorem pm_eat_it (hL : wk_L g Y) (hH : pm_Hs g Y E pf pa) {N : Nat} (hf : pm_ef g Y E pf N) {n : Nat} (hn : n ≤ N) {l w o k : Int} {s s' : gm_S} {A : List wk_E} (hw : (0, w, o) ∈ A) (w0 : 0 ≤ w) (w1 : w < wk_u Y) (hk : E.2.2.1 w (pm_K E s) = true) (h2 : pw_to (pm_st g E l) n (A, s) ([], s')) : gm_F s < gm_F s' := by
  obtain ⟨A1, A2, rfl⟩ := List.append_of_mem hw
  obtain ⟨n1, s1, i1, i2, i3⟩ := pw_split0 pm_loc (A := A1) (q := (0, w, o) :: A2) h2
  have x1 := pm_to_F _ _ i2
  obtain ⟨n2, s2, j1, j2, j3⟩ := pw_split0 pm_loc (A := [(0, w, o)]) (q := A2) i3
  have x2 := pm_to_F _ _ j2
  have x3 := pm_to_F _ _ j3
  dsimp only at x1 x2 x3
  by_cases c : gm_F s1 = gm_F s
  · have := pm_eat_u hL hH hf (n := n2) (by omega) w0 w1 (by rw [pm_h_of c]; exact hk) j2
    omega
  · omega
theorem pm_eat (hL : wk_L g Y) (hH : pm_Hs g Y E pf pa) : ∀ N : Nat, pm_ef g Y E pf N := by
  intro N
  induction N with
  | zero =>
    intro n l f a s s' hn f0 f1 hp h
    have : n = 0 := by omega
    subst this
    exact (pw_0 h).elim
  | succ N ih =>
    intro n l f a s s' hn f0 f1 hp h
    cases n with
    | zero => exact (pw_0 h).elim
    | succ n =>
      obtain ⟨c1, h3, h4⟩ := pw_cons h
      rw [pm_st_1] at h3
      obtain ⟨j, j1, j2⟩ := hH.2.1 f _ f0 f1 hp
      obtain ⟨j3, w, o, w1, w2, w3, w4⟩ := hH.2.2.1 f _ j f0 f1 j1 j2
      unfold pm_fo at h3
      by_cases c : 1 < g 130 f.toNat
      · rw [if_pos c] at h3
        obtain ⟨z, z1, h3⟩ := Option.bind_eq_some_iff.mp h3
        obtain ⟨t, t1, t2⟩ := Option.map_eq_some_iff.mp h3
        subst t2
        obtain ⟨i, i1, i2, i3⟩ := pm_dr_e _ _ _ _ z1
        have ei : i = j := hH.2.2.2 f _ i j f0 f1 (by omega) j1 i3 j3
        subst ei
        have ez : z.toNat = i := by omega
        rw [ez] at h4
        have e1 := (gm_c_e t1).2.2.1
        have e2 := (gm_d_e (t := t)).2.1
        obtain ⟨n1, s1, q1, q2, q3⟩ := pw_split0 pm_loc (q := [(2, 0, 0)]) h4
        have x := pm_eat_it hL hH ih (n := n1) (k := 0) (by omega) w1 w2 w3 (by rw [pm_K_of (show gm_F (gm_d t) = gm_F s by omega)]; exact w4) q2
        have := pm_to_F _ _ q3
        dsimp only at this
        omega
      · rw [if_neg c] at h3
        injection h3 with h3
        subst h3
        have ej : j = 0 := by omega
        subst ej
        rw [List.append_nil] at h4
        exact pm_eat_it hL hH ih (n := n) (k := 0) (by omega) w1 w2 w3 w4 h4
end PM2
/-! how many turns a walk that parses has (counted by halves): entries pay, or a node, or a token -/
def pm_e2 (Y : wk_Y) (e : wk_E) : Int := if e.1 = 0 then 5 * (wk_e Y e.2.1 - e.2.1) - 3 else if e.1 = 1 then 5 * (wk_x Y e.2.1 - wk_b Y e.2.1) - 5 else 2
def pm_pot (Y : wk_Y) : List wk_E → Int
  | [] => 0
  | e :: r => pm_e2 Y e + pm_pot Y r
def pm_k (Y : wk_Y) (e : wk_E) : Prop := (e.1 = 0 → 0 ≤ e.2.1 ∧ e.2.1 < wk_u Y ∧ wk_e Y e.2.1 - e.2.1 ≤ 60) ∧ (e.1 = 1 → 0 ≤ e.2.1 ∧ e.2.1 < wk_f Y ∧ wk_x Y e.2.1 - wk_b Y e.2.1 ≤ 61) ∧ e.1 ≠ 5
def pm_Kn (Y : wk_Y) : List wk_E → Prop
  | [] => True
  | e :: r => pm_k Y e ∧ pm_Kn Y r
/-- a form has a unit -/
def pm_x (Y : wk_Y) : Prop := ∀ f, 0 ≤ f → f < wk_f Y → wk_b Y f + 2 ≤ wk_x Y f
section PM3
variable {g : wk_g} {Y : wk_Y} {E : pm_E} {l : Int} {r : List wk_E} {s t : gm_S} {c : gm_C}
theorem pm_pot_a : ∀ (r q : List wk_E), pm_pot Y (r ++ q) = pm_pot Y r + pm_pot Y q := by
  intro r q
  induction r with
  | nil => show pm_pot Y q = 0 + _; omega
  | cons e r ih => show pm_e2 Y e + pm_pot Y (r ++ q) = pm_e2 Y e + pm_pot Y r + pm_pot Y q; omega
theorem pm_Kn_a : ∀ (r q : List wk_E), pm_Kn Y r → pm_Kn Y q → pm_Kn Y (r ++ q) := by
  intro r q
  induction r with
  | nil => intro _ h; exact h
  | cons e r ih => intro h1 h2; exact ⟨h1.1, ih h1.2 h2⟩
theorem pm_k_o {a b c : Int} (h0 : a ≠ 0) (h1 : a ≠ 1) (h5 : a ≠ 5) : pm_k Y (a, b, c) := ⟨fun e => absurd e h0, fun e => absurd e h1, h5⟩
theorem pm_k_0 {b c : Int} (h0 : 0 ≤ b) (h1 : b < wk_u Y) (h2 : wk_e Y b - b ≤ 60) : pm_k Y (0, b, c) := ⟨fun _ => ⟨h0, h1, h2⟩, fun e => absurd (show (0 : Int) = 1 from e) (by decide), show (0 : Int) ≠ 5 by decide⟩
theorem pm_k_1 {b c : Int} (h0 : 0 ≤ b) (h1 : b < wk_f Y) (h2 : wk_x Y b - wk_b Y b ≤ 61) : pm_k Y (1, b, c) := ⟨fun e => absurd (show (1 : Int) = 0 from e) (by decide), fun _ => ⟨h0, h1, h2⟩, show (1 : Int) ≠ 5 by decide⟩
theorem pm_e_o {a b c : Int} (h0 : a ≠ 0) (h1 : a ≠ 1) : pm_e2 Y (a, b, c) = 2 := by
  unfold pm_e2
  rw [if_neg h0, if_neg h1]
theorem pm_e_0 {b c : Int} : pm_e2 Y (0, b, c) = 5 * (wk_e Y b - b) - 3 := rfl
theorem pm_e_1 {b c : Int} : pm_e2 Y (1, b, c) = 5 * (wk_x Y b - wk_b Y b) - 5 := rfl
theorem pm_it (hL : wk_L g Y) {f : Int} (h61 : wk_x Y f - wk_b Y f ≤ 61) : ∀ (n : Nat) (u : Int), (u < 0 ∨ (u < wk_u Y ∧ wk_c Y u = f)) → pm_Kn Y (wk_it g n u) ∧ (u < 0 → pm_pot Y (wk_it g n u) = 0) ∧ (0 ≤ u → pm_pot Y (wk_it g n u) ≤ 5 * (wk_x Y f - u) - 2) := by
  intro n
  induction n with
  | zero =>
    intro u h
    refine ⟨trivial, fun _ => rfl, fun h0 => ?_⟩
    rcases h with h | ⟨h1, h2⟩
    · omega
    · have k := (hL.2.2.1 u h0 h1).1
      rw [h2] at k
      show (0 : Int) ≤ _
      omega
  | succ n ih =>
    intro u h
    unfold wk_it
    by_cases hu : u < 0
    · rw [if_pos hu]
      exact ⟨trivial, fun _ => rfl, fun h0 => by omega⟩
    · rw [if_neg hu]
      obtain ⟨h1, h2⟩ := h.resolve_left hu
      have hu : 0 ≤ u := by omega
      obtain ⟨⟨k1, k2, k3, k4, k5⟩, km, kn, -, -, -⟩ := hL.2.2.1 u hu h1
      rw [h2] at k2 k3 km kn
      have IH := ih (g 125 u.toNat) (by
        by_cases c : g 125 u.toNat < 0
        · exact Or.inl c
        · have := kn (by omega)
          exact Or.inr ⟨this.1, this.2.1⟩)
      obtain ⟨i1, i2, i3⟩ := IH
      by_cases cm : 0 ≤ g 124 u.toNat
      · rw [if_pos cm]
        obtain ⟨m1, m2, m3, m4⟩ := km cm
        obtain ⟨⟨l1, l2, l3, -⟩, -⟩ := hL.2.2.1 _ cm m1
        rw [m2] at l2 l3
        refine ⟨⟨pm_k_0 hu h1 (by omega), pm_k_o (by decide) (by decide) (by decide), pm_k_0 cm m1 (by omega), pm_k_o (by decide) (by decide) (by decide), i1⟩, fun q => by omega, fun _ => ?_⟩
        show pm_e2 Y (0, u, 1) + (pm_e2 Y (3, 0, 0) + (pm_e2 Y (0, g 124 u.toNat, 0) + (pm_e2 Y (4, 0, 0) + pm_pot Y (wk_it g n (g 125 u.toNat))))) ≤ _
        rw [pm_e_0, pm_e_0, pm_e_o (by decide) (by decide), pm_e_o (by decide) (by decide)]
        by_cases c : g 125 u.toNat < 0
        · have := i2 c
          omega
        · have := i3 (by omega)
          have := (kn (by omega)).2.2.2 cm
          omega
      · rw [if_neg cm]
        refine ⟨⟨pm_k_0 hu h1 (by omega), i1⟩, fun q => by omega, fun _ => ?_⟩
        show pm_e2 Y (0, u, 0) + pm_pot Y (wk_it g n (g 125 u.toNat)) ≤ _
        rw [pm_e_0]
        by_cases c : g 125 u.toNat < 0
        · have := i2 c
          omega
        · have := i3 (by omega)
          have := (kn (by omega)).2.2.1
          omega
/-- a part by itself -/
theorem pm_sg_pot (hL : wk_L g Y) {u : Int} (u0 : 0 ≤ u) (u1 : u < wk_u Y) (h60 : wk_e Y u - u ≤ 60) (h : pm_sg l g E u r s = some c) : ∃ A, c.1 = A ++ r ∧ pm_Kn Y A ∧ gm_len s ≤ gm_len c.2 ∧ (gm_F c.2 = gm_F s ∨ (gm_F c.2 = gm_F s + 1 ∧ A = [])) ∧ pm_pot Y A ≤ 5 * (wk_e Y u - u) - 5 + 302 * (gm_len c.2 - gm_len s) := by
  obtain ⟨⟨k1, -⟩, -, -, k9, k10, -⟩ := hL.2.2.1 u u0 u1
  unfold pm_sg at h
  by_cases c9 : g 119 u.toNat = 9
  · rw [if_pos c9] at h
    obtain ⟨-, -, -, -, r1, r2, r3⟩ := k9 c9
    unfold pm_en at h
    by_cases cu : 12 ≤ l + wk_ul r
    · rw [if_pos cu] at h
      cases h
    · rw [if_neg cu] at h
      obtain ⟨t, t1, t2⟩ := Option.map_eq_some_iff.mp h
      subst t2
      obtain ⟨-, a2, a3, -⟩ := gm_c_e t1
      obtain ⟨d1, d2, -⟩ := gm_d_e (t := t)
      refine ⟨[(1, wk_rf g u, 0), (2, 1, 0)], rfl, ⟨pm_k_1 r1 r2 r3, pm_k_o (by decide) (by decide) (by decide), trivial⟩, ?_, Or.inl ?_, ?_⟩
      · show gm_len s ≤ gm_len (gm_d t)
        omega
      · show gm_F (gm_d t) = gm_F s
        omega
      · show pm_e2 Y (1, wk_rf g u, 0) + (pm_e2 Y (2, 1, 0) + 0) ≤ _ + 302 * (gm_len (gm_d t) - gm_len s)
        rw [pm_e_1, pm_e_o (by decide) (by decide)]
        omega
  rw [if_neg c9] at h
  by_cases c10 : g 119 u.toNat = 10
  · rw [if_pos c10] at h
    injection h with h
    subst h
    obtain ⟨r1, r2, r3, -⟩ := k10 c10
    refine ⟨[(1, g 120 u.toNat, 0)], rfl, ⟨pm_k_1 r1 r2 (by omega), trivial⟩, Int.le_refl _, Or.inl rfl, ?_⟩
    show pm_e2 Y (1, g 120 u.toNat, 0) + 0 ≤ _ + 302 * (gm_len s - gm_len s)
    rw [pm_e_1]
    omega
  rw [if_neg c10] at h
  obtain ⟨t, t1, t2⟩ := Option.map_eq_some_iff.mp h
  subst t2
  obtain ⟨-, -, q3, q4⟩ := pm_lf_e t1
  refine ⟨[], rfl, trivial, q3, ?_, ?_⟩
  · show gm_F t = gm_F s ∨ _
    rcases q4 with ⟨q4, -⟩ | ⟨q4, -⟩
    · exact Or.inr ⟨q4, rfl⟩
    · rw [q4]
      exact Or.inl rfl
  · show (0 : Int) ≤ _ + 302 * (gm_len t - gm_len s)
    omega
theorem pm_op_len {o : Int} : gm_len (gm_op o s) = gm_len s := by
  unfold gm_len
  rw [(gm_op_T o s).2]
/-- a turn, of what is no many -/
theorem pm_st_pot (hL : wk_L g Y) (hx : pm_x Y) {e : wk_E} (hw : e.1 = 0 → g 122 e.2.1.toNat ≠ 1) (hK : pm_Kn Y (e :: r)) (h : pm_st g E l e r s = some c) : pm_Kn Y c.1 ∧ gm_len s ≤ gm_len c.2 ∧ gm_F s ≤ gm_F c.2 ∧ gm_F c.2 ≤ gm_F s + 1 ∧ pm_pot Y c.1 + 2 ≤ pm_pot Y (e :: r) + 302 * (gm_len c.2 - gm_len s) := by
  obtain ⟨a, b, z⟩ := e
  obtain ⟨⟨h0, h1, h5⟩, hr⟩ := hK
  dsimp only at h0 h1 h5 hw
  have hp : pm_pot Y ((a, b, z) :: r) = pm_e2 Y (a, b, z) + pm_pot Y r := rfl
  rw [hp]
  unfold pm_st at h
  dsimp only at h
  by_cases c0 : a = 0
  · subst c0
    obtain ⟨k1, k2, k60⟩ := h0 rfl
    rw [if_pos rfl] at h
    rw [pm_e_0]
    have T1 := pm_op_len (s := s) (o := z)
    have T2 := pm_F_op (s := s) (o := z)
    unfold pm_u at h
    rw [if_neg (hw rfl)] at h
    by_cases w2 : g 122 b.toNat = 2
    · rw [if_pos w2] at h
      obtain ⟨t, t1, t2⟩ := Option.bind_eq_some_iff.mp h
      obtain ⟨-, a2, a3, -⟩ := gm_c_e t1
      obtain ⟨d1, d2, -⟩ := gm_d_e (t := t)
      by_cases ch : pm_h E b (gm_op z s) = true
      · rw [if_pos ch] at t2
        obtain ⟨A, s1, s2, s3, s4, s5⟩ := pm_sg_pot hL k1 k2 k60 t2
        rw [s1, pm_pot_a]
        refine ⟨pm_Kn_a _ _ s2 ⟨pm_k_o (by decide) (by decide) (by decide), hr⟩, by omega, by omega, by omega, ?_⟩
        show pm_pot Y A + (pm_e2 Y (2, 0, 0) + pm_pot Y r) + 2 ≤ _
        rw [pm_e_o (by decide) (by decide)]
        omega
      · rw [if_neg ch] at t2
        injection t2 with t2
        subst t2
        have l1 := (hL.2.2.1 b k1 k2).1.1
        refine ⟨⟨pm_k_o (by decide) (by decide) (by decide), hr⟩, ?_, ?_, ?_, ?_⟩
        · show gm_len s ≤ gm_len (gm_d t)
          omega
        · show gm_F s ≤ gm_F (gm_d t)
          omega
        · show gm_F (gm_d t) ≤ gm_F s + 1
          omega
        · show pm_e2 Y (2, 0, 0) + pm_pot Y r + 2 ≤ _ + _ + 302 * (gm_len (gm_d t) - gm_len s)
          rw [pm_e_o (by decide) (by decide)]
          omega
    rw [if_neg w2] at h
    obtain ⟨A, s1, s2, s3, s4, s5⟩ := pm_sg_pot hL k1 k2 k60 h
    rw [s1, pm_pot_a]
    exact ⟨pm_Kn_a _ _ s2 hr, by omega, by omega, by omega, by omega⟩
  rw [if_neg c0] at h
  by_cases c1 : a = 1
  · subst c1
    obtain ⟨k1, k2, k61⟩ := h1 rfl
    rw [if_pos rfl] at h
    obtain ⟨-, -, f1, -, f3, f4⟩ := hL.2.2.2 b k1 k2
    have hxb := hx b k1 k2
    rw [pm_e_1]
    have it : ∀ j : Nat, (j : Int) < g 130 b.toNat → pm_Kn Y (wk_it g 61 (g 126 (wk_alt g j (g 129 b.toNat)).toNat)) ∧ pm_pot Y (wk_it g 61 (g 126 (wk_alt g j (g 129 b.toNat)).toNat)) ≤ 5 * (wk_x Y b - wk_b Y b) - 7 := by
      intro j hj
      obtain ⟨-, -, j3⟩ := f4 j hj
      obtain ⟨i1, i2, i3⟩ := pm_it hL k61 61 _ j3
      refine ⟨i1, ?_⟩
      rcases j3 with j3 | ⟨j3, j4⟩
      · have := i2 j3
        omega
      · by_cases c : g 126 (wk_alt g j (g 129 b.toNat)).toNat < 0
        · have := i2 c
          omega
        · have := i3 (by omega)
          have := (hL.2.2.1 _ (by omega) j3).1.2.2.1
          rw [j4] at this
          omega
    unfold pm_fo at h
    by_cases w1 : 1 < g 130 b.toNat
    · rw [if_pos w1] at h
      obtain ⟨n, n1, h⟩ := Option.bind_eq_some_iff.mp h
      obtain ⟨t, t1, t2⟩ := Option.map_eq_some_iff.mp h
      subst t2
      obtain ⟨-, a2, a3, -⟩ := gm_c_e t1
      obtain ⟨d1, d2, -⟩ := gm_d_e (t := t)
      obtain ⟨i, i1, i2, -⟩ := pm_dr_e _ _ _ _ n1
      have en : n.toNat = i := by omega
      rw [en]
      obtain ⟨x1, x2⟩ := it i (by omega)
      refine ⟨pm_Kn_a _ _ x1 ⟨pm_k_o (by decide) (by decide) (by decide), hr⟩, ?_, ?_, ?_, ?_⟩
      · show gm_len s ≤ gm_len (gm_d t)
        omega
      · show gm_F s ≤ gm_F (gm_d t)
        omega
      · show gm_F (gm_d t) ≤ gm_F s + 1
        omega
      · show pm_pot Y (_ ++ (2, 0, 0) :: r) + 2 ≤ _ + _ + 302 * (gm_len (gm_d t) - gm_len s)
        rw [pm_pot_a]
        show _ + (pm_e2 Y (2, 0, 0) + pm_pot Y r) + 2 ≤ _
        rw [pm_e_o (by decide) (by decide)]
        omega
    · rw [if_neg w1] at h
      injection h with h
      subst h
      obtain ⟨x1, x2⟩ := it 0 (by omega)
      refine ⟨pm_Kn_a _ _ x1 hr, Int.le_refl _, Int.le_refl _, by show gm_F s ≤ gm_F s + 1; omega, ?_⟩
      show pm_pot Y (_ ++ r) + 2 ≤ _ + _ + 302 * (gm_len s - gm_len s)
      rw [pm_pot_a]
      have x2 : pm_pot Y (wk_it g 61 (g 126 (g 129 b.toNat).toNat)) ≤ 5 * (wk_x Y b - wk_b Y b) - 7 := x2
      omega
  rw [if_neg c1, if_neg h5] at h
  rw [pm_e_o c0 c1]
  by_cases c2 : a = 2
  · rw [if_pos c2] at h
    injection h with h
    subst h
    refine ⟨hr, ?_, ?_, ?_, ?_⟩ <;> simp only [gm_len, gm_T_mk, gm_F_mk] <;> omega
  rw [if_neg c2] at h
  by_cases c3 : a = 3
  · rw [if_pos c3] at h
    injection h with h
    subst h
    have e1 : gm_len (gm_mid s) = gm_len s := by unfold gm_len gm_mid; rw [gm_T_mk]
    have e2 := pm_F_mid (s := s)
    refine ⟨hr, ?_, ?_, ?_, ?_⟩ <;> dsimp only <;> omega
  · rw [if_neg c3] at h
    injection h with h
    subst h
    have e1 := gm_tu_len s
    have e2 := pm_F_tu (s := s)
    refine ⟨hr, ?_, ?_, ?_, ?_⟩ <;> dsimp only <;> omega
end PM3
section PM4
variable {g : wk_g} {Y : wk_Y} {E : pm_E} {pf pa : Int → Int → Bool}
/-- a run of n turns from a stack without an AGAIN -/
def pm_b (g : wk_g) (Y : wk_Y) (E : pm_E) (n : Nat) : Prop := ∀ (l : Int) (A B : List wk_E) (s s' : gm_S), pm_Kn Y A → pw_to (pm_st g E l) n (A, s) (B, s') → 2 * (n : Int) + pm_pot Y B ≤ pm_pot Y A + 302 * (gm_len s' - gm_len s) + 298 * (gm_F s' - gm_F s) ∧ (B = [] → 1 ≤ gm_F s' - gm_F s → 2 * (n : Int) ≤ pm_pot Y A + 302 * (gm_len s' - gm_len s) + 298 * (gm_F s' - gm_F s - 1))
/-- .. from one with an AGAIN on the top -/
def pm_m (g : wk_g) (Y : wk_Y) (E : pm_E) (n : Nat) : Prop := ∀ (l u a : Int) (q B : List wk_E) (s s' : gm_S), 0 ≤ u → u < wk_u Y → wk_e Y u - u ≤ 60 → pm_Kn Y q → pw_to (pm_st g E l) n ((5, u, a) :: q, s) (B, s') → 2 * (n : Int) + pm_pot Y B ≤ 299 + pm_pot Y q + 302 * (gm_len s' - gm_len s) + 298 * (gm_F s' - gm_F s) ∧ (B = [] → 1 ≤ gm_F s' - gm_F s → 2 * (n : Int) ≤ 299 + pm_pot Y q + 302 * (gm_len s' - gm_len s) + 298 * (gm_F s' - gm_F s - 1)) ∧ (B = [] → gm_F s' = gm_F s → 2 * (n : Int) ≤ 2 + pm_pot Y q + 302 * (gm_len s' - gm_len s))
theorem pm_b_s (hL : wk_L g Y) (hx : pm_x Y) {n : Nat} (hb : pm_b g Y E n) (hm : pm_m g Y E n) : pm_b g Y E (n + 1) := by
  intro l A B s s' hK h
  cases A with
  | nil =>
    obtain ⟨h1, -⟩ := pw_end _ h
    omega
  | cons e r =>
    obtain ⟨c1, h3, h4⟩ := pw_cons h
    obtain ⟨A1, s1⟩ := c1
    have F0 := pm_to_F _ _ h4
    dsimp only at F0
    by_cases cw : e.1 = 0 ∧ g 122 e.2.1.toNat = 1
    · obtain ⟨a, b, z⟩ := e
      obtain ⟨cw, w1⟩ := cw
      dsimp only at cw w1
      subst cw
      obtain ⟨⟨h0, -, -⟩, hr⟩ := hK
      obtain ⟨k1, k2, k60⟩ := h0 rfl
      dsimp only at k1 k2 k60
      rw [pm_st_0] at h3
      unfold pm_u at h3
      rw [if_pos w1] at h3
      obtain ⟨t, t1, t2⟩ := Option.map_eq_some_iff.mp h3
      injection t2 with t2 t3
      subst t2
      subst t3
      obtain ⟨-, a2, a3, -⟩ := gm_c_e t1
      obtain ⟨d1, d2, -⟩ := gm_d_e (t := t)
      have T1 := pm_op_len (s := s) (o := z)
      have T2 := pm_F_op (s := s) (o := z)
      obtain ⟨m1, m2, -⟩ := hm _ _ _ _ _ _ _ k1 k2 k60 (show pm_Kn Y ((2, 0, 0) :: r) from ⟨pm_k_o (by decide) (by decide) (by decide), hr⟩) h4
      have p2 : pm_pot Y ((2, 0, 0) :: r) = 2 + pm_pot Y r := by
        show pm_e2 Y (2, 0, 0) + pm_pot Y r = _
        rw [pm_e_o (by decide) (by decide)]
      have p0 : pm_pot Y ((0, b, z) :: r) = 5 * (wk_e Y b - b) - 3 + pm_pot Y r := rfl
      have l1 := (hL.2.2.1 b k1 k2).1.1
      rw [p2] at m1 m2
      rw [p0]
      refine ⟨by omega, fun q1 q2 => ?_⟩
      have := m2 q1 (by omega)
      omega
    · obtain ⟨x1, x2, x3, x4, x5⟩ := pm_st_pot hL hx (fun q w => cw ⟨q, w⟩) hK h3
      dsimp only at x1 x2 x3 x4 x5
      obtain ⟨b1, b2⟩ := hb _ _ _ _ _ x1 h4
      refine ⟨by omega, fun q1 q2 => ?_⟩
      by_cases cf : 1 ≤ gm_F s' - gm_F s1
      · have := b2 q1 cf
        omega
      · rw [q1] at b1
        have : pm_pot Y [] = 0 := rfl
        omega
theorem pm_m_s (hL : wk_L g Y) (hH : pm_Hs g Y E pf pa) {n : Nat} (hb : ∀ m, m ≤ n → pm_b g Y E m) (hm : ∀ m, m ≤ n → pm_m g Y E m) : pm_m g Y E (n + 1) := by
  intro l u a q B s s' u0 u1 u60 hq h
  obtain ⟨c1, h3, h4⟩ := pw_cons h
  rw [pm_st_5] at h3
  unfold pm_ag at h3
  have e0 : pm_pot Y [] = 0 := rfl
  have l1 := (hL.2.2.1 u u0 u1).1.1
  by_cases ch : pm_h E u s = true
  · rw [if_pos ch] at h3
    have h3' := h3
    rw [show ((5, u, a) :: q : List wk_E) = [] ++ ((5, u, a) :: q) from rfl, pm_sg_loc] at h3'
    obtain ⟨c0, k1, k2⟩ := Option.map_eq_some_iff.mp h3'
    subst k2
    obtain ⟨A, s1, s2, s3, s4, s5⟩ := pm_sg_pot hL u0 u1 u60 k1
    rw [List.append_nil] at s1
    rw [pm_inc_len] at s3 s5
    rw [pm_inc_e.1] at s4
    obtain ⟨C, t⟩ := c0
    dsimp only at s1 s3 s4 s5 h4
    subst s1
    rcases pw_split pm_loc n (C, t) h4 with ⟨B0, t', i1, i2, i3⟩ | ⟨n1, t1, i1, i2, i3⟩
    · injection i1 with i4 i5
      subst i4
      subst i5
      have b1 := (hb n (Nat.le_refl _) _ _ _ _ _ s2 i3).1
      rw [pm_pot_a]
      have p5 : pm_pot Y ((5, u, a) :: q) = 2 + pm_pot Y q := by
        show pm_e2 Y (5, u, a) + pm_pot Y q = _
        rw [pm_e_o (by decide) (by decide)]
      rw [p5]
      refine ⟨by omega, fun q1 => absurd (List.append_eq_nil_iff.mp q1).1 i2, fun q1 => absurd (List.append_eq_nil_iff.mp q1).1 i2⟩
    · have F1 : gm_F s < gm_F t1 := by
        have x := pm_eat_sg hL hH (pm_eat hL hH n1) (Nat.le_refl _) u0 u1 (s := pm_inc a s) (by rw [pm_h_of pm_inc_e.1]; exact ch) k1 i2
        have x2 := (pm_inc_e (s := s) (a := a)).1
        omega
      have F2 := pm_to_F _ _ i3
      dsimp only at F2
      obtain ⟨b1, b2⟩ := hb n1 i1 _ _ _ _ _ s2 i2
      have b3 : 2 * (n1 : Int) ≤ pm_pot Y C + 302 * (gm_len t1 - gm_len t) + 298 * (gm_F t1 - gm_F s - 1) := by
        by_cases cf : 1 ≤ gm_F t1 - gm_F t
        · have := b2 rfl cf
          omega
        · rw [e0] at b1
          omega
      obtain ⟨m1, m2, m3⟩ := hm (n - n1) (by omega) _ _ _ _ _ _ _ u0 u1 u60 hq i3
      have en : ((n - n1 : Nat) : Int) = (n : Int) - n1 := by omega
      rw [en] at m1 m2 m3
      refine ⟨by omega, fun q1 q2 => ?_, fun q1 q2 => by omega⟩
      by_cases cf : 1 ≤ gm_F s' - gm_F t1
      · have := m2 q1 cf
        omega
      · have := m3 q1 (by omega)
        omega
  · rw [if_neg ch] at h3
    injection h3 with h3
    subst h3
    obtain ⟨b1, b2⟩ := hb n (Nat.le_refl _) _ _ _ _ _ hq h4
    refine ⟨by omega, fun q1 q2 => ?_, fun q1 q2 => ?_⟩
    · have := b2 q1 q2
      omega
    · rw [q1, e0] at b1
      omega
theorem pm_b_all (hL : wk_L g Y) (hx : pm_x Y) (hH : pm_Hs g Y E pf pa) : ∀ (N n : Nat), n ≤ N → pm_b g Y E n ∧ pm_m g Y E n := by
  intro N
  induction N with
  | zero =>
    intro n hn
    have : n = 0 := by omega
    subst this
    constructor
    · intro l A B s s' hK h
      have h : ((A, s) : gm_C) = (B, s') := h
      injection h with h1 h2
      subst h1
      subst h2
      exact ⟨by omega, fun _ _ => by omega⟩
    · intro l u a q B s s' u0 u1 u60 hq h
      have h : (((5, u, a) :: q, s) : gm_C) = (B, s') := h
      injection h with h1 h2
      subst h1
      subst h2
      have p5 : pm_pot Y ((5, u, a) :: q) = 2 + pm_pot Y q := by
        show pm_e2 Y (5, u, a) + pm_pot Y q = _
        rw [pm_e_o (by decide) (by decide)]
      rw [p5]
      exact ⟨by omega, fun q1 => absurd q1 (List.cons_ne_nil _ _), fun q1 => absurd q1 (List.cons_ne_nil _ _)⟩
  | succ N ih =>
    intro n hn
    by_cases c : n ≤ N
    · exact ih n c
    · have : n = N + 1 := by omega
      subst this
      exact ⟨pm_b_s hL hx (ih N (Nat.le_refl _)).1 (ih N (Nat.le_refl _)).2, pm_m_s hL hH (fun m h => (ih m h).1) (fun m h => (ih m h).2)⟩
/-- from the start: fewer than the turns that there are -/
theorem pm_turns (hL : wk_L g Y) (hx : pm_x Y) (hH : pm_Hs g Y E pf pa) {l f0 : Int} (hr : wk_Lrule Y f0) {n : Nat} {B : List wk_E} {s s' : gm_S} (hs : gm_len s = 1 ∧ gm_F s = 0) (h : pw_to (pm_st g E l) n ([(1, f0, 0), (2, 1, 0)], s) (B, s')) (hl : gm_len s' ≤ 100) (hF : gm_F s' ≤ 160) (hB : 0 ≤ pm_pot Y B) : n < 40000 := by
  obtain ⟨r1, r2, r3⟩ := hr
  have := ((pm_b_all hL hx hH n n (Nat.le_refl _)).1 l _ _ _ _ (show pm_Kn Y [(1, f0, 0), (2, 1, 0)] from ⟨pm_k_1 r1 r2 r3, pm_k_o (by decide) (by decide) (by decide), trivial⟩) h).1
  have p : pm_pot Y [(1, f0, 0), (2, 1, 0)] = 5 * (wk_x Y f0 - wk_b Y f0) - 5 + 2 := by
    show pm_e2 Y (1, f0, 0) + (pm_e2 Y (2, 1, 0) + 0) = _
    rw [pm_e_1, pm_e_o (by decide) (by decide)]
    omega
  omega
end PM4
/-! segment: has of the reference -/
set_option maxRecDepth 20000 in
theorem mp_hs_0 (h : sm_H) (d : Nat) (zs : Int64) : mi_path [(212, (3, 4, sb_212))] sx_sk h 7 [1] (d, 212, 0, [some (.inr (.inr 109)), some (.inr (.inl (zs))), none], [], [], []) = some ((d, 212, 35, [some (.inr (.inr 109)), some (.inr (.inl (zs))), none], [.inl ((0 : Int))], [], []), [0 ≤ (mi_f h 14033) ∧ (mi_f h 14033) < 161, (mi_a h 152 (Int.toNat (mi_f h 14033))) < ((0 : Int))]) := rfl
theorem mi_tab_hs_0 : ∀ e ∈ ([(212, (3, 4, sb_212))] : mi_T), sc_P e.1 = some e.2 := mi_tb mi_P212 (mi_tb_e)
set_option maxRecDepth 20000 in
theorem ms_hs_0 {h : sm_H} {d : Nat} {Q : Option mi_V → sm_H → Prop} {zs : Int64} (hS : ab_Sh sx_sk h)  (ho : (0 ≤ (mi_f h 14033) ∧ (mi_f h 14033) < 161) ∧ ((mi_a h 152 (Int.toNat (mi_f h 14033))) < ((0 : Int))) ∧ (((0 : Int)) = 0 ∨ ((0 : Int)) = 1)) (kon : ∀ h1, me_W [] h h1 → Q (some (.inl ((0 : Int)))) h1) : me_E (d) 212 0 [some (.inr (.inr 109)), some (.inr (.inl (zs))), none] [] h Q := me_seg (mp_hs_0 h d zs) (mi_tab_hs_0) hS (mi_okL_c (trivial) (mi_okL_c (trivial) (mi_okL_n (mi_okL_e)))) (mi_okS_e) (mi_al (ho.1) (mi_al (ho.2.1) (mi_al_e))) (fun h1 W _ hst => me_ret (M := (3, 4, sb_212)) rfl rfl rfl hst (mi_al (ho.2.2) mi_al_e) (kon h1 W))
set_option maxRecDepth 20000 in
theorem mp_hs_1 (h : sm_H) (d : Nat) (zs : Int64) : mi_path [(212, (3, 4, sb_212))] sx_sk h 19 [0, 1] (d, 212, 0, [some (.inr (.inr 109)), some (.inr (.inl (zs))), none], [], [], []) = some ((d, 212, 35, [some (.inr (.inr 109)), some (.inr (.inl (zs))), none], [.inl ((0 : Int))], [], []), [0 ≤ (mi_f h 14033) ∧ (mi_f h 14033) < 161, ((0 : Int)) ≤ (mi_a h 152 (Int.toNat (mi_f h 14033))), 0 ≤ (mi_f h 14033) ∧ (mi_f h 14033) < 161, ((lg_cmp ((zs >>> ((Int32.ofInt (mi_a h 152 (Int.toNat (mi_f h 14033)))).toInt64 &&& 63)) &&& (Int64.ofNat 1)) (Int64.ofNat 1)).toInt) ≠ ((0 : Int))]) := rfl
theorem mi_tab_hs_1 : ∀ e ∈ ([(212, (3, 4, sb_212))] : mi_T), sc_P e.1 = some e.2 := mi_tb mi_P212 (mi_tb_e)
set_option maxRecDepth 20000 in
theorem ms_hs_1 {h : sm_H} {d : Nat} {Q : Option mi_V → sm_H → Prop} {zs : Int64} (hS : ab_Sh sx_sk h)  (ho : (0 ≤ (mi_f h 14033) ∧ (mi_f h 14033) < 161) ∧ (((0 : Int)) ≤ (mi_a h 152 (Int.toNat (mi_f h 14033)))) ∧ (0 ≤ (mi_f h 14033) ∧ (mi_f h 14033) < 161) ∧ (((lg_cmp ((zs >>> ((Int32.ofInt (mi_a h 152 (Int.toNat (mi_f h 14033)))).toInt64 &&& 63)) &&& (Int64.ofNat 1)) (Int64.ofNat 1)).toInt) ≠ ((0 : Int))) ∧ (((0 : Int)) = 0 ∨ ((0 : Int)) = 1)) (kon : ∀ h1, me_W [] h h1 → Q (some (.inl ((0 : Int)))) h1) : me_E (d) 212 0 [some (.inr (.inr 109)), some (.inr (.inl (zs))), none] [] h Q := me_seg (mp_hs_1 h d zs) (mi_tab_hs_1) hS (mi_okL_c (trivial) (mi_okL_c (trivial) (mi_okL_n (mi_okL_e)))) (mi_okS_e) (mi_al (ho.1) (mi_al (ho.2.1) (mi_al (ho.2.2.1) (mi_al (ho.2.2.2.1) (mi_al_e))))) (fun h1 W _ hst => me_ret (M := (3, 4, sb_212)) rfl rfl rfl hst (mi_al (ho.2.2.2.2) mi_al_e) (kon h1 W))
set_option maxRecDepth 20000 in
theorem mp_hs_2 (h : sm_H) (d : Nat) (zs : Int64) : mi_path [(212, (3, 4, sb_212))] sx_sk h 20 [0, 0] (d, 212, 0, [some (.inr (.inr 109)), some (.inr (.inl (zs))), none], [], [], []) = some ((d, 212, 35, [some (.inr (.inr 109)), some (.inr (.inl (zs))), none], [.inl ((1 : Int))], [], []), [0 ≤ (mi_f h 14033) ∧ (mi_f h 14033) < 161, ((0 : Int)) ≤ (mi_a h 152 (Int.toNat (mi_f h 14033))), 0 ≤ (mi_f h 14033) ∧ (mi_f h 14033) < 161, ((lg_cmp ((zs >>> ((Int32.ofInt (mi_a h 152 (Int.toNat (mi_f h 14033)))).toInt64 &&& 63)) &&& (Int64.ofNat 1)) (Int64.ofNat 1)).toInt) = ((0 : Int))]) := rfl
theorem mi_tab_hs_2 : ∀ e ∈ ([(212, (3, 4, sb_212))] : mi_T), sc_P e.1 = some e.2 := mi_tb mi_P212 (mi_tb_e)
set_option maxRecDepth 20000 in
theorem ms_hs_2 {h : sm_H} {d : Nat} {Q : Option mi_V → sm_H → Prop} {zs : Int64} (hS : ab_Sh sx_sk h)  (ho : (0 ≤ (mi_f h 14033) ∧ (mi_f h 14033) < 161) ∧ (((0 : Int)) ≤ (mi_a h 152 (Int.toNat (mi_f h 14033)))) ∧ (0 ≤ (mi_f h 14033) ∧ (mi_f h 14033) < 161) ∧ (((lg_cmp ((zs >>> ((Int32.ofInt (mi_a h 152 (Int.toNat (mi_f h 14033)))).toInt64 &&& 63)) &&& (Int64.ofNat 1)) (Int64.ofNat 1)).toInt) = ((0 : Int))) ∧ (((1 : Int)) = 0 ∨ ((1 : Int)) = 1)) (kon : ∀ h1, me_W [] h h1 → Q (some (.inl ((1 : Int)))) h1) : me_E (d) 212 0 [some (.inr (.inr 109)), some (.inr (.inl (zs))), none] [] h Q := me_seg (mp_hs_2 h d zs) (mi_tab_hs_2) hS (mi_okL_c (trivial) (mi_okL_c (trivial) (mi_okL_n (mi_okL_e)))) (mi_okS_e) (mi_al (ho.1) (mi_al (ho.2.1) (mi_al (ho.2.2.1) (mi_al (ho.2.2.2.1) (mi_al_e))))) (fun h1 W _ hst => me_ret (M := (3, 4, sb_212)) rfl rfl rfl hst (mi_al (ho.2.2.2.2) mi_al_e) (kon h1 W))
set_option maxRecDepth 20000 in
theorem mt_hs {h : sm_H} {d : Nat} {Q : Option mi_V → sm_H → Prop} {zs : Int64} (hS : ab_Sh sx_sk h)  (k0 : ((-2147483648) ≤ mi_f h 14033 ∧ mi_f h 14033 ≤ 2147483647) → ((mi_a h 152 (Int.toNat (mi_f h 14033))) < ((0 : Int))) → ((0 ≤ (mi_f h 14033) ∧ (mi_f h 14033) < 161)) ∧ (∀ h1, ab_Sh sx_sk h1 → ab_Fr [] h h1 → Q (some (.inl ((0 : Int)))) h1)) (k1 : ((-2147483648) ≤ mi_f h 14033 ∧ mi_f h 14033 ≤ 2147483647) → (((0 : Int)) ≤ (mi_a h 152 (Int.toNat (mi_f h 14033)))) → (((lg_cmp ((zs >>> ((Int32.ofInt (mi_a h 152 (Int.toNat (mi_f h 14033)))).toInt64 &&& 63)) &&& (Int64.ofNat 1)) (Int64.ofNat 1)).toInt) ≠ ((0 : Int))) → ((0 ≤ (mi_f h 14033) ∧ (mi_f h 14033) < 161)) ∧ (∀ h1, ab_Sh sx_sk h1 → ab_Fr [] h h1 → Q (some (.inl ((0 : Int)))) h1)) (k2 : ((-2147483648) ≤ mi_f h 14033 ∧ mi_f h 14033 ≤ 2147483647) → (((0 : Int)) ≤ (mi_a h 152 (Int.toNat (mi_f h 14033)))) → (((lg_cmp ((zs >>> ((Int32.ofInt (mi_a h 152 (Int.toNat (mi_f h 14033)))).toInt64 &&& 63)) &&& (Int64.ofNat 1)) (Int64.ofNat 1)).toInt) = ((0 : Int))) → ((0 ≤ (mi_f h 14033) ∧ (mi_f h 14033) < 161)) ∧ (∀ h1, ab_Sh sx_sk h1 → ab_Fr [] h h1 → Q (some (.inl ((1 : Int)))) h1)) : me_E (d) 212 0 [some (.inr (.inr 109)), some (.inr (.inl (zs))), none] [] h Q := Or.elim (mi_em .lt ((mi_a h 152 (Int.toNat (mi_f h 14033)))) (((0 : Int)))) (fun c0 => ms_hs_0 hS ⟨(k0 (me_fb hS rfl) c0).1, c0, (by decide)⟩ (fun h1 W => (k0 (me_fb hS rfl) c0).2 h1 W.1 (W.2.2.2.2.2 _ rfl))) (fun c0 => Or.elim (mi_em .ne (((lg_cmp ((zs >>> ((Int32.ofInt (mi_a h 152 (Int.toNat (mi_f h 14033)))).toInt64 &&& 63)) &&& (Int64.ofNat 1)) (Int64.ofNat 1)).toInt)) (((0 : Int)))) (fun c1 => ms_hs_1 hS ⟨(k1 (me_fb hS rfl) c0 c1).1, c0, (k1 (me_fb hS rfl) c0 c1).1, c1, (by decide)⟩ (fun h1 W => (k1 (me_fb hS rfl) c0 c1).2 h1 W.1 (W.2.2.2.2.2 _ rfl))) (fun c1 => ms_hs_2 hS ⟨(k2 (me_fb hS rfl) c0 c1).1, c0, (k2 (me_fb hS rfl) c0 c1).1, c1, (by decide)⟩ (fun h1 W => (k2 (me_fb hS rfl) c0 c1).2 h1 W.1 (W.2.2.2.2.2 _ rfl))))
/-! the parsing walk of the reference, exactly: has, directed, comes, enter, match -/
def px_bit (x : Int64) (k : Int) : Bool := decide (0 ≤ k ∧ (lg_cmp ((x >>> ((Int32.ofInt k).toInt64 &&& 63)) &&& (Int64.ofNat 1)) (Int64.ofNat 1)).toInt = 0)
def px_dir (v : Int) (a f : Int64) : Int64 := if v = 0 then a ||| Int64.ofNat 0 else a ||| f
def px_E (h : sm_H) : pm_E := (fun i => mi_a h 152 i.toNat, fun i => (mx_b h 154 i.toNat).toInt, fun u k => px_bit (mx_b h 134 u.toNat) k, fun f a k => px_bit (px_dir (mi_a h 132 a.toNat) (mx_b h 135 a.toNat) (mx_b h 138 f.toNat)) k)
def px_R (h : sm_H) (c : gm_C) : Prop := gx_T h (gm_T c.2) ∧ mi_f h 14033 = gm_F c.2 ∧ mi_f h 14031 = gm_D c.2 ∧ mi_f h 14030 = ((gm_P c.2).length : Int) ∧ gx_P h (gm_P c.2) ∧ ∀ x ∈ c.1, x.1 = 5 → 0 ≤ x.2.2 ∧ x.2.2 < gm_len c.2 ∧ mi_a h 160 x.2.2.toNat = x.2.2
section PX1
variable {h h' : sm_H} {s : gm_S} {r : List wk_E} {d : Nat} {wr : List (Nat × Nat)}
theorem me_hasx {zs : Int64} (hS : ab_Sh sx_sk h) (n0 : 0 ≤ mi_f h 14033) (n1 : mi_f h 14033 ≤ 160) : me_E d 212 0 [some (.inr (.inr 109)), some (.inr (.inl zs)), none] [] h (fun w h' => h' = h ∧ w = some (.inl (if px_bit zs (mi_a h 152 (mi_f h 14033).toNat) = true then 1 else 0))) := by
  refine mt_hs hS ?_ ?_ ?_
  · intro b c
    refine ⟨by omega, fun h1 g1 g2 => ⟨me_nil g2, ?_⟩⟩
    have e : ¬ px_bit zs (mi_a h 152 (mi_f h 14033).toNat) = true := by
      unfold px_bit
      rw [decide_eq_true_eq]
      exact fun z => by omega
    rw [if_neg e]
  · intro b c1 c2
    refine ⟨by omega, fun h1 g1 g2 => ⟨me_nil g2, ?_⟩⟩
    have e : ¬ px_bit zs (mi_a h 152 (mi_f h 14033).toNat) = true := by
      unfold px_bit
      rw [decide_eq_true_eq]
      exact fun z => c2 z.2
    rw [if_neg e]
  · intro b c1 c2
    refine ⟨by omega, fun h1 g1 g2 => ⟨me_nil g2, ?_⟩⟩
    have e : px_bit zs (mi_a h 152 (mi_f h 14033).toNat) = true := by
      unfold px_bit
      rw [decide_eq_true_eq]
      exact ⟨c1, c2⟩
    rw [if_pos e]
theorem pm_dr_s {g : wk_g} {p : Int → Bool} {m : Nat} {a n : Int} : pm_dr g p (m + 1) a n = if p a = true then some n else pm_dr g p m (g 128 a.toNat) (n + 1) := rfl
/-- what directed answers -/
def px_z (o : Option Int) : Int := match o with | none => -1 | some n => n
theorem me_diBx {zf : Int} (hS : ab_Sh sx_sk h) (n0 : 0 ≤ mi_f h 14033) (n1 : mi_f h 14033 ≤ 160) (hf0 : 0 ≤ zf) (hf1 : zf < 80) (hf : wk_fa (mi_a h) zf) : ∀ (N : Nat) (j : Nat), (mi_a h 130 zf.toNat) - j = N → me_E (d + 1) 224 9 [some (.inr (.inr 109)), some (.inl zf), some (.inl (j : Int)), some (.inl (wk_alt (mi_a h) j (mi_a h 129 zf.toNat)))] [] h (fun w h' => h' = h ∧ w = some (.inl (px_z (pm_dr (mi_a h) (fun a => (px_E h).2.2.2 zf a (mi_a h 152 (mi_f h 14033).toNat)) N (wk_alt (mi_a h) j (mi_a h 129 zf.toNat)) (j : Int))))) := by
  have of : mi_in zf := ⟨by omega, by omega⟩
  have b130 := me_ab (k := 130) (i := zf.toNat) hS rfl (by decide) (by omega)
  intro N
  induction N with
  | zero =>
    intro j h1
    have hc := wk_fa_at hf (j := j) (by omega)
    generalize ha : wk_alt (mi_a h) j (mi_a h 129 zf.toNat) = a at hc ⊢
    have oj : mi_in (j : Int) := ⟨by omega, by omega⟩
    have oa : mi_in a := by
      rw [← ha]
      cases j with
      | zero => exact mi_inT _
      | succ j => rw [wk_alt_succ]; exact mi_inT _
    refine mt_diB hS of oj oa ?_ ?_ ?_
    · intro c h3 r1 r2
      exact ⟨me_nil r2, rfl⟩
    · intro c1 c2
      exfalso; omega
    · intro c1 c2
      exfalso; omega
  | succ N ih =>
    intro j h1
    have hc := wk_fa_at hf (j := j) (by omega)
    have es := wk_alt_succ (mi_a h) j (mi_a h 129 zf.toNat)
    generalize ha : wk_alt (mi_a h) j (mi_a h 129 zf.toNat) = a at hc es ⊢
    have oj : mi_in (j : Int) := ⟨by omega, by omega⟩
    have oa : mi_in a := by
      rw [← ha]
      cases j with
      | zero => exact mi_inT _
      | succ j => rw [wk_alt_succ]; exact mi_inT _
    have go : ∀ w h2, (∀ x, w = some x → mi_ok x) → (h2 = h ∧ w = some (.inl (if (px_E h).2.2.2 zf a (mi_a h 152 (mi_f h 14033).toNat) = true then 1 else 0))) → 0 ≤ a → a < 80 → me_E (d + 1) 224 23 [some (.inr (.inr 109)), some (.inl zf), some (.inl (j : Int)), some (.inl a)] (mi_back w []) h2 (fun w h' => h' = h ∧ w = some (.inl (px_z (pm_dr (mi_a h) (fun a => (px_E h).2.2.2 zf a (mi_a h 152 (mi_f h 14033).toNat)) (N + 1) a (j : Int))))) := by
      intro w h2 hw hq a0 a1
      obtain ⟨rfl, rfl⟩ := hq
      rw [pm_dr_s]
      by_cases cb : (px_E h2).2.2.2 zf a (mi_a h2 152 (mi_f h2 14033).toNat) = true
      · rw [if_pos cb, if_pos cb]
        refine mt_diC hS of oj oa ⟨by decide, by decide⟩ ?_ ?_
        · intro c
          exact absurd c (by decide)
        · intro c h3 r1 r2
          exact ⟨me_nil r2, rfl⟩
      · rw [if_neg cb, if_neg cb]
        refine mt_diC hS of oj oa ⟨by decide, by decide⟩ ?_ ?_
        · intro c
          refine ⟨by omega, fun h3 r1 r2 => ?_⟩
          have e3 := me_nil r2
          subst e3
          have := ih (j + 1) (by omega)
          rw [es] at this
          exact this
        · intro c
          exact absurd rfl c
    refine mt_diB hS of oj oa ?_ ?_ ?_
    · intro c h3 r1 r2
      exfalso; omega
    · intro c1 c2
      refine ⟨by omega, fun h3 r1 r2 => ?_⟩
      have e3 := me_nil r2
      subst e3
      refine ⟨_, me_hasx hS n0 n1, fun w h2 hw hq => go w h2 hw ?_ (by omega) (by omega)⟩
      have e : (px_E h3).2.2.2 zf a (mi_a h3 152 (mi_f h3 14033).toNat) = px_bit (mx_b h3 135 a.toNat ||| Int64.ofNat 0) (mi_a h3 152 (mi_f h3 14033).toNat) := by
        show px_bit (px_dir _ _ _) _ = _
        unfold px_dir
        rw [if_pos c2]
      rw [e]
      exact hq
    · intro c1 c2
      refine ⟨by omega, fun h3 r1 r2 => ?_⟩
      have e3 := me_nil r2
      subst e3
      refine ⟨_, me_hasx hS n0 n1, fun w h2 hw hq => go w h2 hw ?_ (by omega) (by omega)⟩
      have e : (px_E h3).2.2.2 zf a (mi_a h3 152 (mi_f h3 14033).toNat) = px_bit (mx_b h3 135 a.toNat ||| mx_b h3 138 zf.toNat) (mi_a h3 152 (mi_f h3 14033).toNat) := by
        show px_bit (px_dir _ _ _) _ = _
        unfold px_dir
        rw [if_neg c2]
      rw [e]
      exact hq
theorem me_directedx {zf : Int} (hS : ab_Sh sx_sk h) (n0 : 0 ≤ mi_f h 14033) (n1 : mi_f h 14033 ≤ 160) (hf0 : 0 ≤ zf) (hf1 : zf < 80) (hf : wk_fa (mi_a h) zf) (eF : mi_f h 14033 = gm_F s) : me_E (d + 1) 224 0 [some (.inr (.inr 109)), some (.inl zf), none, none] [] h (fun w h' => h' = h ∧ w = some (.inl (px_z (pm_w (mi_a h) (px_E h) zf s)))) := by
  refine mt_diA hS ⟨by omega, by omega⟩ ?_
  refine ⟨by omega, fun h3 r1 r2 => ?_⟩
  have e3 := me_nil r2
  subst e3
  have := hf.1
  unfold pm_w pm_K
  rw [← eF]
  exact me_diBx hS n0 n1 hf0 hf1 hf (mi_a h3 130 zf.toNat).toNat 0 (by omega)
/-- frames -/
theorem px_R_fr (hR : px_R h (r, s)) (hF : ab_Fr wr h h') (hS : ab_Sh sx_sk h) (w1 : gx_w wr = false) (w2 : gx_w2 wr = false) (w3 : ab_in wr 14033 = false) (w4 : ab_in wr 14031 = false) (w5 : ab_in wr 14030 = false) : px_R h' (r, s) := by
  obtain ⟨r1, r2, r3, r4, r5, r6⟩ := hR
  have w6 : ab_in wr 20480 = false := by
    unfold gx_w at w1
    simp only [Bool.or_eq_false_iff] at w1
    exact w1.1.2
  refine ⟨gx_T_fr r1 hF hS w1, (me_f (c := 14033) hF hS rfl w3).trans r2, (me_f (c := 14031) hF hS rfl w4).trans r3, (me_f (c := 14030) hF hS rfl w5).trans r4, gx_P_fr hF hS w2 _ r5, fun x hx x5 => ?_⟩
  obtain ⟨a1, a2, a3⟩ := r6 x hx x5
  exact ⟨a1, a2, (me_a (k := 160) hF hS rfl w6).trans a3⟩
theorem px_R_st {r' : List wk_E} (hR : px_R h (r, s)) (hs : ∀ x ∈ r', x.1 = 5 → x ∈ r) : px_R h (r', s) := ⟨hR.1, hR.2.1, hR.2.2.1, hR.2.2.2.1, hR.2.2.2.2.1, fun x hx x5 => hR.2.2.2.2.2 x (hs x hx x5) x5⟩
/-- a node comes, or the limit is passed -/
theorem me_comesp {zk : Int} {zv : Int64} (hS : ab_Sh sx_sk h) (hm : mi_f h 14028 = 0) (hk0 : 0 ≤ zk ∧ zk < 10) (hR : px_R h (r, s)) : me_E d 208 0 [some (.inr (.inr 109)), some (.inl zk), some (.inr (.inl zv)), none] [] h (fun w h' => ab_Sh sx_sk h' ∧ ab_Fr [(14016, 14017), (14044, 14045), (20224, 20225), (20352, 20353), (20480, 20481), (20864, 20865)] h h' ∧ (∃ z, w = some (.inl z)) ∧ ((gm_c zk zv.toInt s = none ∧ mi_f h' 14044 = 1) ∨ (mi_f h' 14044 = 0 ∧ w = some (.inl (gm_len s)) ∧ mi_a h' 160 (gm_len s).toNat = gm_len s ∧ ∃ t, gm_c zk zv.toInt s = some t ∧ px_R h' (r, t)))) := by
  obtain ⟨r1, r2, r3, r4, r5, r6⟩ := hR
  dsimp only at r1 r2 r3 r4 r5 r6
  have rl := r1.1
  have el : gm_len s = mi_f h 14016 := rl.symm
  have ok : mi_in zk := ⟨by omega, by omega⟩
  refine mt_comes hS ok ?_ ?_ ?_
  · intro b1 b2 c1 c2
    refine ⟨⟨⟨by omega, by omega⟩, ⟨by omega, by omega⟩, ⟨by omega, by omega⟩, by omega, by omega⟩, fun h1 g1 g2 g3 g4 g5 g6 g7 g8 => ⟨g1, g8, ⟨_, rfl⟩, Or.inr ⟨g3, by rw [el], ?_, (gm_X s, gm_F s, gm_T s ++ [(zk + 10 * ((gm_T s).length : Int), zv.toInt, gm_D s)], gm_D s, gm_P s), ?_, ?_⟩⟩⟩
    · rw [el, g6, if_pos rfl]
    · unfold gm_c
      rw [if_neg (by omega)]
    · have n := gx_T_c r1 hk0 g2 g4 g5 g6 g7
      rw [r3] at n
      unfold px_R gm_len
      dsimp only
      simp only [gm_T_mk, gm_F_mk, gm_D_mk, gm_P_mk]
      refine ⟨n, (me_f (c := 14033) g8 hS rfl rfl).trans r2, (me_f (c := 14031) g8 hS rfl rfl).trans r3, (me_f (c := 14030) g8 hS rfl rfl).trans r4, gx_P_fr g8 hS rfl _ r5, fun x hx x5 => ?_⟩
      obtain ⟨a1, a2, a3⟩ := r6 x hx x5
      have a2 : x.2.2 < ((gm_T s).length : Int) := a2
      refine ⟨a1, by rw [List.length_append]; show x.2.2 < (((gm_T s).length + 1 : Nat) : Int); omega, ?_⟩
      rw [g6, if_neg (by omega)]
      exact a3
  · intro b1 b2 c1 c2 h1 g1 g2 g3
    refine ⟨g1, g3.wide (fun c hc => ab_swr_ok (by decide) hc), ⟨_, rfl⟩, Or.inl ⟨?_, g2⟩⟩
    unfold gm_c
    rw [if_pos (by omega)]
  · intro b1 b2 c1
    omega
def pxm_Q (h : sm_H) (m : Option gm_C) (w : Option mi_V) (h' : sm_H) : Prop := w = none ∧ ab_Sh sx_sk h' ∧ ab_Fr wr_W1 h h' ∧ ((m = none ∧ (mi_f h' 14044 = 1 ∨ 0 ≤ mi_f h' 14034)) ∨ (mi_f h' 14044 = 0 ∧ mi_f h' 14034 < 0 ∧ ∃ c, m = some c ∧ wk_stk h' = c.1 ∧ px_R h' c ∧ mi_f h' 14032 = wk_ul c.1))
/-- one more is open -/
theorem px_R_d (hR : px_R h (r, s)) (hF : ab_Fr wr h h') (hS : ab_Sh sx_sk h) (w1 : gx_w wr = false) (w2 : gx_w2 wr = false) (w3 : ab_in wr 14033 = false) (w5 : ab_in wr 14030 = false) (hD0 : -1000 ≤ gm_D s) (hD1 : gm_D s ≤ 999) (e : mi_f h' 14031 = (Int32.ofInt (mi_f h 14031) + Int32.ofInt (1 : Int)).toInt) : px_R h' (r, gm_d s) := by
  obtain ⟨r1, r2, r3, r4, r5, r6⟩ := hR
  have w6 : ab_in wr 20480 = false := by
    unfold gx_w at w1
    simp only [Bool.or_eq_false_iff] at w1
    exact w1.1.2
  unfold px_R gm_d gm_len
  dsimp only at r1 r2 r3 r4 r5 r6 ⊢
  simp only [gm_T_mk, gm_F_mk, gm_D_mk, gm_P_mk]
  refine ⟨gx_T_fr r1 hF hS w1, (me_f (c := 14033) hF hS rfl w3).trans r2, ?_, (me_f (c := 14030) hF hS rfl w5).trans r4, gx_P_fr hF hS w2 _ r5, fun x hx x5 => ?_⟩
  · rw [e, r3]
    exact (gx_wrap hD0 (by omega)).2
  · obtain ⟨a1, a2, a3⟩ := r6 x hx x5
    exact ⟨a1, a2, (me_a (k := 160) hF hS rfl w6).trans a3⟩
theorem me_enterp {zr : Int} (hS : ab_Sh sx_sk h) (hm : mi_f h 14028 = 0) (hw : mi_f h 14034 < 0) (ht0 : 0 ≤ mi_f h 14029) (ht : mi_f h 14029 ≤ 2990) (hu : mi_f h 14032 = wk_ul (wk_stk h)) (hu1 : mi_f h 14032 ≤ 12) (hu0 : 0 ≤ mi_f h 14032) (hz0 : 0 ≤ zr) (hz1 : zr < 10) (hR : px_R h (wk_stk h, s)) (hD0 : -1000 ≤ gm_D s) (hD1 : gm_D s ≤ 999) : me_E (d + 2) 207 0 [some (.inr (.inr 109)), some (.inl zr)] [] h (pxm_Q h (pm_en 0 (mi_a h) zr (wk_stk h) s)) := by
  have ok : mi_in zr := ⟨by omega, by omega⟩
  have ez : ((Int32.ofInt zr).toInt64).toInt = zr := by rw [Int32.toInt_toInt64, mi_ti ok]
  refine mt_enA hS ok ?_ ?_ ?_
  · intro b1 c1 h1 g1 g2 g3 g4
    have hR1 : px_R h1 (wk_stk h, s) := px_R_fr hR g4 hS rfl rfl rfl rfl rfl
    have f28 : mi_f h1 14028 = mi_f h 14028 := me_f (c := 14028) g4 hS rfl rfl
    refine ⟨_, me_comesp g1 (f28.trans hm) ⟨by decide, by decide⟩ hR1, ?_⟩
    intro w h2 hw2 hq
    obtain ⟨q1, q2, ⟨z, rfl⟩, q3⟩ := hq
    rw [ez] at q3
    have k29 : mi_f h2 14029 = mi_f h 14029 := (me_f (c := 14029) q2 g1 rfl rfl).trans (me_f (c := 14029) g4 hS rfl rfl)
    have k32 : mi_f h2 14032 = mi_f h 14032 := (me_f (c := 14032) q2 g1 rfl rfl).trans (me_f (c := 14032) g4 hS rfl rfl)
    have kst : wk_stk h2 = wk_stk h := (wk_stk_fr q2 g1 rfl).trans (wk_stk_fr g4 hS rfl)
    have k114 : mi_a h2 114 zr.toNat = mi_a h 114 zr.toNat := (me_a (k := 114) q2 g1 rfl rfl).trans (me_a (k := 114) g4 hS rfl rfl)
    refine mt_enB q1 ok (hw2 _ rfl) ?_
    intro b1 b2
    refine ⟨by omega, ?_⟩
    intro h3 s1 s29 s31 s32 a5 a6 a7 s4
    have hFr : ab_Fr wr_W1 h h3 := ((g4.wide (fun c hc => ab_swr_ok (by decide) hc)).trans (q2.wide (fun c hc => ab_swr_ok (by decide) hc))).trans (s4.wide (fun c hc => ab_swr_ok (by decide) hc))
    have l44 : mi_f h3 14044 = mi_f h2 14044 := me_f (c := 14044) s4 q1 rfl rfl
    have l34 : mi_f h3 14034 = mi_f h 14034 := ((me_f (c := 14034) s4 q1 rfl rfl).trans (me_f (c := 14034) q2 g1 rfl rfl)).trans (me_f (c := 14034) g4 hS rfl rfl)
    refine ⟨rfl, s1, hFr, ?_⟩
    unfold pm_en
    rw [if_neg (by omega)]
    rcases q3 with ⟨e1, e2⟩ | ⟨e1, -, -, t, e2, e3⟩
    · refine Or.inl ⟨?_, Or.inl (l44.trans e2)⟩
      rw [e1]
      rfl
    · have eD := (gm_c_t e2).2.2.2.1
      refine Or.inr ⟨l44.trans e1, by omega, ((1, mi_a h 114 zr.toNat, 0) :: (2, 1, 0) :: wk_stk h, gm_d t), ?_, ?_, ?_, ?_⟩
      · rw [e2]
        rfl
      · have := wk_push2 (by omega) s29 a5 a6 a7
        rw [k114, kst] at this
        exact this
      · refine px_R_st (px_R_d e3 s4 q1 rfl rfl rfl rfl (by omega) (by omega) s31) (fun x hx x5 => ?_)
        rcases List.mem_cons.mp hx with rfl | hx
        · exact absurd x5 (show ¬ (1 : Int) = 5 by decide)
        · rcases List.mem_cons.mp hx with rfl | hx
          · exact absurd x5 (show ¬ (2 : Int) = 5 by decide)
          · exact hx
      · show _ = 0 + (1 + wk_ul (wk_stk h))
        omega
  · intro b1 b2 c1 c2
    omega
  · intro b1 b2 c1 c2 h1 g1 g2 g3
    refine ⟨rfl, g1, g3.wide (fun c hc => ab_swr_ok (by decide) hc), Or.inl ⟨?_, Or.inl g2⟩⟩
    unfold pm_en
    rw [if_pos (by omega)]
end PX1
/-! match, single, again of the reference, in parsing, exactly -/
theorem px_mod {X Y : Int64} (x0 : 0 ≤ X.toInt) (x1 : X.toInt < 2147483648) (y0 : 0 < Y.toInt) : (X - X / Y * Y).toInt = X.toInt % Y.toInt := by
  have q0 : 0 ≤ X.toInt / Y.toInt := Int.ediv_nonneg x0 (by omega)
  have q1 : X.toInt / Y.toInt ≤ X.toInt := Int.ediv_le_self _ x0
  have p0 : 0 ≤ X.toInt / Y.toInt * Y.toInt := Int.mul_nonneg q0 (by omega)
  have p1 : X.toInt / Y.toInt * Y.toInt ≤ X.toInt := Int.ediv_mul_le _ (by omega)
  have e1 : (X / Y).toInt = X.toInt / Y.toInt := by
    rw [Int64.toInt_div, Int.tdiv_eq_ediv_of_nonneg x0]
    exact Int.bmod_eq_of_le (by omega) (by omega)
  have e2 : (X / Y * Y).toInt = X.toInt / Y.toInt * Y.toInt := by
    rw [Int64.toInt_mul, e1]
    exact Int.bmod_eq_of_le (by omega) (by omega)
  rw [Int64.toInt_sub, e2, Int.bmod_eq_of_le (by omega) (by omega), Int.emod_def, Int.mul_comm]
/-- the tokens' values are small; so are the digits behind + -/
def px_V (h : sm_H) : Prop := ∀ i : Nat, (i : Int) < mi_f h 14011 → 0 ≤ (mx_b h 154 i).toInt ∧ (mx_b h 154 i).toInt < 1073741824
def px_W (h : sm_H) (u : Int) : Prop := mi_a h 119 u.toNat = 1 → 0 ≤ mi_a h 120 u.toNat ∧ mi_a h 120 u.toNat ≤ 9
def px_in (h : sm_H) (s : gm_S) : Prop := ab_Sh sx_sk h ∧ mi_f h 14028 = 0 ∧ mi_f h 14044 = 0 ∧ mi_f h 14034 < 0 ∧ 0 ≤ mi_f h 14029 ∧ mi_f h 14032 = wk_ul (wk_stk h) ∧ 0 ≤ mi_f h 14032 ∧ mi_f h 14032 ≤ 12 ∧ px_R h (wk_stk h, s) ∧ wk_tok 0 h ∧ px_V h ∧ -1000 ≤ gm_D s ∧ gm_D s ≤ 998
def plk_Q (h : sm_H) (m : Option gm_S) (w : Option mi_V) (h' : sm_H) : Prop := w = none ∧ ab_Sh sx_sk h' ∧ ab_Fr wr_L h h' ∧ ((m = none ∧ (mi_f h' 14044 = 1 ∨ 0 ≤ mi_f h' 14034)) ∨ (mi_f h' 14044 = 0 ∧ mi_f h' 14034 < 0 ∧ ∃ t, m = some t ∧ px_R h' (wk_stk h, t)))
section PX2
variable {h : sm_H} {d : Nat} {zu : Int} {s : gm_S}
theorem px_nx {h h' : sm_H} {r : List wk_E} {s : gm_S} (hR : px_R h (r, s)) (hF : ab_Fr [(14033, 14034)] h h') (hS : ab_Sh sx_sk h) (e : mi_f h' 14033 = mi_f h 14033 + 1) : px_R h' (r, pm_nx s) := by
  obtain ⟨r1, r2, r3, r4, r5, r6⟩ := hR
  dsimp only at r1 r2 r3 r4 r5 r6
  obtain ⟨n1, n2, n3, n4⟩ := pm_nx_e (s := s)
  unfold px_R gm_len
  dsimp only
  rw [n1, n2, n3, n4]
  refine ⟨gx_T_fr r1 hF hS rfl, by omega, (me_f (c := 14031) hF hS rfl rfl).trans r3, (me_f (c := 14030) hF hS rfl rfl).trans r4, gx_P_fr hF hS rfl _ r5, fun x hx x5 => ?_⟩
  obtain ⟨a1, a2, a3⟩ := r6 x hx x5
  exact ⟨a1, a2, (me_a (k := 160) hF hS rfl rfl).trans a3⟩
theorem me_matchp (hi : px_in h s) (hu0 : 0 ≤ zu) (hu1 : zu < 60) (hs : mi_a h 119 zu.toNat = 1 ∨ mi_a h 119 zu.toNat = 2 ∨ mi_a h 119 zu.toNat = 8) (hl : mi_a h 119 zu.toNat = 8 → 0 ≤ mi_a h 120 zu.toNat ∧ mi_a h 120 zu.toNat < 20) (hW : px_W h zu) : me_E (d + 1) 214 0 [some (.inr (.inr 109)), some (.inl zu), none] [] h (plk_Q h (pm_lf (px_E h) (mi_a h 119 zu.toNat) (mi_a h 120 zu.toNat) s)) := by
  obtain ⟨hS, hm, hp, hw, -, -, -, -, hR, ht, hV, -, -⟩ := hi
  have ok : mi_in zu := ⟨by omega, by omega⟩
  obtain ⟨n0, n1, n2⟩ := ht rfl
  have b11 := me_fb (c := 14011) hS rfl
  have hidx : (mi_f h 14033).toNat < 161 := by omega
  have bk := me_ab (k := 152) (i := (mi_f h 14033).toNat) hS rfl (by decide) hidx
  have bf := me_ab (k := 153) (i := (mi_f h 14033).toNat) hS rfl (by decide) hidx
  have eF : mi_f h 14033 = gm_F s := hR.2.1
  have eK : pm_K (px_E h) s = mi_a h 152 (mi_f h 14033).toNat := by
    show mi_a h 152 (gm_F s).toNat = _
    rw [eF]
  have eV : pm_V (px_E h) s = (mx_b h 154 (mi_f h 14033).toNat).toInt := by
    show (mx_b h 154 (gm_F s).toNat).toInt = _
    rw [eF]
  have hne : mi_a h 152 (mi_f h 14033).toNat ≠ 0 → mi_f h 14033 < mi_f h 14011 := by
    intro e
    rcases Int.lt_or_eq_of_le n1 with e1 | e1
    · exact e1
    · rw [← e1] at n2
      exact absurd n2 e
  have bad : ∀ h1, pm_lf (px_E h) (mi_a h 119 zu.toNat) (mi_a h 120 zu.toNat) s = none → ab_Sh sx_sk h1 → mi_f h1 14034 = mi_a h 153 (Int.toNat (mi_f h 14033)) → ab_Fr [(14034, 14035)] h h1 → plk_Q h (pm_lf (px_E h) (mi_a h 119 zu.toNat) (mi_a h 120 zu.toNat) s) none h1 := fun h1 e g1 g2 g3 => ⟨rfl, g1, g3.wide (fun c hc => ab_swr_ok (by decide) hc), Or.inl ⟨e, Or.inr (by rw [g2]; exact bf.1)⟩⟩
  -- behind the node
  have node : ∀ (kd v : Int) (h2 h3 : sm_H), pm_lf (px_E h) (mi_a h 119 zu.toNat) (mi_a h 120 zu.toNat) s = (gm_c kd v s).map pm_nx → ab_Sh sx_sk h2 → ab_Fr [(14016, 14017), (14044, 14045), (20224, 20225), (20352, 20353), (20480, 20481), (20864, 20865)] h h2 → ((gm_c kd v s = none ∧ mi_f h2 14044 = 1) ∨ (mi_f h2 14044 = 0 ∧ ∃ t, gm_c kd v s = some t ∧ px_R h2 (wk_stk h, t))) → ab_Sh sx_sk h3 → mi_f h3 14033 = mi_f h2 14033 + 1 → ab_Fr [(14033, 14034)] h2 h3 → plk_Q h (pm_lf (px_E h) (mi_a h 119 zu.toNat) (mi_a h 120 zu.toNat) s) none h3 := by
    intro kd v h2 h3 el q1 q2 q3 r1 r2 r3
    have e44 : mi_f h3 14044 = mi_f h2 14044 := me_f (c := 14044) r3 q1 rfl rfl
    have e34 : mi_f h3 14034 = mi_f h 14034 := (me_f (c := 14034) r3 q1 rfl rfl).trans (me_f (c := 14034) q2 hS rfl rfl)
    refine ⟨rfl, r1, (q2.wide (fun c hc => ab_swr_ok (by decide) hc)).trans (r3.wide (fun c hc => ab_swr_ok (by decide) hc)), ?_⟩
    rw [el]
    rcases q3 with ⟨e1, e2⟩ | ⟨e1, t, e2, e3⟩
    · exact Or.inl ⟨by rw [e1]; rfl, Or.inl (e44.trans e2)⟩
    · exact Or.inr ⟨e44.trans e1, by omega, pm_nx t, by rw [e2]; rfl, px_nx e3 r3 q1 r2⟩
  refine mt_maA hS ok ?_ ?_ ?_ ?_ ?_ ?_ ?_ ?_
  · intro b c1 c2 c3 c4
    exfalso; omega
  · intro b c1 c2 c3 c4
    refine ⟨by omega, fun h1 g1 g2 => ?_⟩
    have e1 := me_nil g2
    subst e1
    refine ⟨_, me_comesp (d := d) g1 hm ⟨by decide, by decide⟩ hR, ?_⟩
    intro w h2 hwk hq
    obtain ⟨q1, q2, ⟨z, rfl⟩, q3⟩ := hq
    have e33 : mi_f h2 14033 = mi_f h1 14033 := me_f (c := 14033) q2 g1 rfl rfl
    refine mt_maC q1 ok (mi_inT _ : mi_in (mi_a h1 119 zu.toNat)) (hwk _ rfl) ?_
    intro b2
    refine ⟨by omega, fun h3 r1 r2 r3 => node 3 _ h2 h3 ?_ q1 q2 (q3.imp id (fun x => ⟨x.1, x.2.2.2⟩)) r1 r2 r3⟩
    unfold pm_lf
    rw [if_neg c3, if_pos c4, if_pos (by rw [eK]; omega), eV]
  · intro b c1 c2 c3
    refine ⟨by omega, fun h1 g1 g2 => ?_⟩
    have e1 := me_nil g2
    subst e1
    refine ⟨_, me_comesp (d := d) g1 hm ⟨by decide, by decide⟩ hR, ?_⟩
    intro w h2 hwk hq
    obtain ⟨q1, q2, ⟨z, rfl⟩, q3⟩ := hq
    have e33 : mi_f h2 14033 = mi_f h1 14033 := me_f (c := 14033) q2 g1 rfl rfl
    have e119 : mi_a h2 119 zu.toNat = mi_a h1 119 zu.toNat := me_a (k := 119) q2 g1 rfl rfl
    refine mt_maB q1 ok (mi_inT _ : mi_in (mi_a h1 119 zu.toNat)) (hwk _ rfl) ?_ ?_
    · intro b2 c4
      refine ⟨by omega, fun h3 r1 r2 r3 => node 2 _ h2 h3 ?_ q1 q2 (q3.imp id (fun x => ⟨x.1, x.2.2.2⟩)) r1 r2 r3⟩
      unfold pm_lf
      rw [if_pos c3, if_pos (by rw [eK]; omega), eV]
      have hlt := hne (by omega)
      obtain ⟨v0, v1⟩ := hV (mi_f h1 14033).toNat (by omega)
      obtain ⟨w0, w1⟩ := hW c3
      have ow : mi_in (mi_a h1 120 zu.toNat) := mi_inT _
      have ew : ((Int32.ofInt (mi_a h1 120 zu.toNat)).toInt64).toInt = mi_a h1 120 zu.toNat := by rw [Int32.toInt_toInt64, mi_ti ow]
      have ex : (mx_b h1 154 (mi_f h1 14033).toNat + (Int32.ofInt (mi_a h1 120 zu.toNat)).toInt64).toInt = (mx_b h1 154 (mi_f h1 14033).toNat).toInt + mi_a h1 120 zu.toNat := by
        rw [Int64.toInt_add, ew]
        exact Int.bmod_eq_of_le (by omega) (by omega)
      have e10 : (Int64.ofNat 10000).toInt = 10000 := by decide
      rw [px_mod (by rw [ex]; omega) (by rw [ex]; omega) (by rw [e10]; decide), ex, e10]
    · intro b2 c4
      exfalso; omega
  · intro b c1 c2
    refine ⟨by omega, fun h1 g1 g2 g3 => bad h1 ?_ g1 g2 g3⟩
    unfold pm_lf
    rcases hs with e | e | e
    · rw [if_pos e, if_neg (by rw [eK]; omega)]
    · rw [if_neg (by omega), if_pos e, if_neg (by rw [eK]; omega)]
    · exact absurd e c1
  · intro b c1 c2 c3 c4
    have hl := hl c1
    refine ⟨by omega, fun h1 g1 g2 g3 => ⟨rfl, g1, g3.wide (fun c hc => ab_swr_ok (by decide) hc), Or.inr ⟨(me_f (c := 14044) g3 hS rfl rfl).trans hp, by rw [me_f (c := 14034) g3 hS rfl rfl]; exact hw, pm_nx s, ?_, px_nx hR g3 hS g2⟩⟩⟩
    unfold pm_lf
    rw [if_neg c3, if_neg c4, if_pos c1, if_pos ⟨hl.1, by rw [eK]; omega⟩]
  · intro b c1 c2 c3 c4
    exfalso; omega
  · intro b c1 c2 c3
    exfalso; omega
  · intro b c1 c2
    have hl := hl c1
    refine ⟨by omega, fun h1 g1 g2 g3 => bad h1 ?_ g1 g2 g3⟩
    unfold pm_lf
    rw [if_neg (by omega), if_neg (by omega), if_pos c1, if_neg (fun q => by rw [eK] at q; omega)]
theorem px_of_pl {h' : sm_H} {m : Option gm_S} (hi : px_in h s) (hq : plk_Q h m none h') : pxm_Q h (m.map (fun t => (wk_stk h, t))) none h' := by
  obtain ⟨-, q1, q2, q5⟩ := hq
  have i1 := hi.1
  have i5 := hi.2.2.2.2.2.1
  refine ⟨rfl, q1, q2.wide (fun c hc => ab_swr_ok (by decide) hc), ?_⟩
  rcases q5 with ⟨e1, e2⟩ | ⟨e1, e4, t, e2, e3⟩
  · exact Or.inl ⟨by rw [e1]; rfl, e2⟩
  · exact Or.inr ⟨e1, e4, (wk_stk h, t), by rw [e2]; rfl, wk_stk_fr q2 i1 rfl, e3, (me_f (c := 14032) q2 i1 rfl rfl).trans i5⟩
theorem pm_sg_lf {l : Int} {g : wk_g} {E : pm_E} {u : Int} {r : List wk_E} (n9 : g 119 u.toNat ≠ 9) (n10 : g 119 u.toNat ≠ 10) : pm_sg l g E u r s = (pm_lf E (g 119 u.toNat) (g 120 u.toNat) s).map (fun t => (r, t)) := by
  unfold pm_sg
  rw [if_neg n9, if_neg n10]
theorem pm_lf_o {E : pm_E} {o w : Int} (n1 : o ≠ 1) (n2 : o ≠ 2) (n8 : o ≠ 8) : pm_lf E o w s = some s := by
  unfold pm_lf
  rw [if_neg n1, if_neg n2, if_neg n8]
theorem sp_match (hi : px_in h s) (hu : wk_us h zu) (hW : px_W h zu) (hs : mi_a h 119 zu.toNat = 1 ∨ mi_a h 119 zu.toNat = 2 ∨ mi_a h 119 zu.toNat = 8) : ∃ Q1, me_E (d + 4) 214 0 [some (.inr (.inr 109)), some (.inl zu), none] [] h Q1 ∧ ∀ w h', (∀ x, w = some x → mi_ok x) → Q1 w h' → me_E (d + 5) 213 105 [some (.inr (.inr 109)), some (.inl zu)] (mi_back w []) h' (pxm_Q h (pm_sg 0 (mi_a h) (px_E h) zu (wk_stk h) s)) := by
  have hu0 := hu.1
  have hu1 := hu.2.1
  have ok : mi_in zu := ⟨by omega, by omega⟩
  refine ⟨_, me_matchp (d := d + 3) hi hu0 hu1 hs hu.2.2.2 hW, ?_⟩
  intro w h' hw hq
  have e := hq.1
  subst e
  have q1 := hq.2.1
  refine mt_sr105 q1 ok ?_
  intro h3 r1 r2
  have e3 := me_nil r2
  subst e3
  rw [pm_sg_lf (by omega) (by omega)]
  exact px_of_pl hi hq
theorem sp_lay (hi : px_in h s) (hu : wk_us h zu) (n1 : mi_a h 119 zu.toNat ≠ 1) (n2 : mi_a h 119 zu.toNat ≠ 2) (n8 : mi_a h 119 zu.toNat ≠ 8) (n9 : mi_a h 119 zu.toNat ≠ 9) (n10 : mi_a h 119 zu.toNat ≠ 10) : ∃ Q1, me_E (d + 4) 222 0 [some (.inr (.inr 109)), some (.inl (mi_a h 119 zu.toNat))] [] h Q1 ∧ ∀ w h', (∀ x, w = some x → mi_ok x) → Q1 w h' → me_E (d + 5) 213 142 [some (.inr (.inr 109)), some (.inl zu)] (mi_back w []) h' (pxm_Q h (pm_sg 0 (mi_a h) (px_E h) zu (wk_stk h) s)) := by
  have ok : mi_in zu := ⟨by have := hu.1; omega, by have := hu.2.1; omega⟩
  obtain ⟨i1, i2, i3, i4, i5, i6, i7, i8, i9, -⟩ := hi
  refine ⟨_, me_lay i1 (mi_inT _), ?_⟩
  intro w h' hw hq
  obtain ⟨rfl, q1, q2⟩ := hq
  refine mt_sr142 q1 ok ?_
  intro h3 r1 r2
  have e3 := me_nil r2
  subst e3
  rw [pm_sg_lf n9 n10, pm_lf_o n1 n2 n8]
  exact ⟨rfl, q1, q2.wide (fun c hc => ab_swr_ok (by decide) hc), Or.inr ⟨(me_f (c := 14044) q2 i1 rfl rfl).trans i3, by rw [me_f (c := 14034) q2 i1 rfl rfl]; exact i4, (wk_stk h, s), rfl, wk_stk_fr q2 i1 rfl, px_R_fr i9 q2 i1 rfl rfl rfl rfl rfl, (me_f (c := 14032) q2 i1 rfl rfl).trans i6⟩⟩
theorem sp_enter (hi : px_in h s) (hu : wk_us h zu) (ht : mi_f h 14029 ≤ 2990) (h9 : mi_a h 119 zu.toNat = 9) : ∃ Q1, me_E (d + 4) 207 0 [some (.inr (.inr 109)), some (.inl (mi_a h 115 (mi_a h 120 zu.toNat).toNat))] [] h Q1 ∧ ∀ w h', (∀ x, w = some x → mi_ok x) → Q1 w h' → me_E (d + 5) 213 75 [some (.inr (.inr 109)), some (.inl zu)] (mi_back w []) h' (pxm_Q h (pm_sg 0 (mi_a h) (px_E h) zu (wk_stk h) s)) := by
  have ok : mi_in zu := ⟨by have := hu.1; omega, by have := hu.2.1; omega⟩
  obtain ⟨i1, i2, i3, i4, i5, i6, i7, i8, i9, i10, i11, i12, i13⟩ := hi
  obtain ⟨u1, u2, u3, u4⟩ := hu.2.2.1 h9
  refine ⟨_, me_enterp (d := d + 2) (s := s) i1 i2 i4 i5 ht i6 i8 i7 u3 u4 i9 i12 (by omega), ?_⟩
  intro w h' hw hq
  have e := hq.1
  subst e
  have q1 := hq.2.1
  refine mt_sr75 q1 ok ?_
  intro h3 r1 r2
  have e3 := me_nil r2
  subst e3
  have e : pm_sg 0 (mi_a h) (px_E h) zu (wk_stk h) s = pm_en 0 (mi_a h) (mi_a h 115 (mi_a h 120 zu.toNat).toNat) (wk_stk h) s := by
    unfold pm_sg
    rw [if_pos h9]
  rw [e]
  exact hq
theorem me_singlep (hi : px_in h s) (hu : wk_us h zu) (hW : px_W h zu) (ht : mi_f h 14029 ≤ 2990) : me_E (d + 5) 213 0 [some (.inr (.inr 109)), some (.inl zu)] [] h (pxm_Q h (pm_sg 0 (mi_a h) (px_E h) zu (wk_stk h) s)) := by
  obtain ⟨i1, i2, i3, i4, i5, i6, i7, i8, i9, i10, i11, i12, i13⟩ := id hi
  have hu0 := hu.1
  have hu1 := hu.2.1
  have ok : mi_in zu := ⟨by omega, by omega⟩
  refine mt_sg i1 ok ?_ ?_ ?_ ?_ ?_ ?_ ?_ ?_ ?_ ?_ ?_ ?_ ?_ ?_ ?_ ?_ ?_
  · intro b c1 c2 c3
    exact absurd i2 c2
  · intro b c1 c2 c3
    exact absurd i2 c2
  · intro b c1 c2
    refine ⟨by omega, fun h1 g1 g2 => ?_⟩
    have e3 := me_nil g2
    subst e3
    exact sp_match hi hu hW (by omega)
  · intro b c1 c2 c3
    exact absurd i2 c2
  · intro b c1 c2 c3
    exact absurd i2 c2
  · intro b c1 c2
    refine ⟨by omega, fun h1 g1 g2 => ?_⟩
    have e3 := me_nil g2
    subst e3
    exact sp_match hi hu hW (by omega)
  · intro c1
    refine ⟨by omega, fun h1 g1 g2 => ?_⟩
    have e3 := me_nil g2
    subst e3
    exact sp_lay hi hu (by omega) (by omega) (by omega) (by omega) (by omega)
  · intro c1
    refine ⟨by omega, fun h1 g1 g2 => ?_⟩
    have e3 := me_nil g2
    subst e3
    exact sp_lay hi hu (by omega) (by omega) (by omega) (by omega) (by omega)
  · intro c1
    refine ⟨by omega, fun h1 g1 g2 => ?_⟩
    have e3 := me_nil g2
    subst e3
    exact sp_lay hi hu (by omega) (by omega) (by omega) (by omega) (by omega)
  · intro c1
    refine ⟨by omega, fun h1 g1 g2 => ?_⟩
    have e3 := me_nil g2
    subst e3
    exact sp_lay hi hu (by omega) (by omega) (by omega) (by omega) (by omega)
  · intro c1
    refine ⟨by omega, fun h1 g1 g2 => ?_⟩
    have e3 := me_nil g2
    subst e3
    exact sp_lay hi hu (by omega) (by omega) (by omega) (by omega) (by omega)
  · intro b c1 c2 c3
    exact absurd i2 c2
  · intro b c1 c2 c3
    exact absurd i2 c2
  · intro b c1 c2
    refine ⟨by omega, fun h1 g1 g2 => ?_⟩
    have e3 := me_nil g2
    subst e3
    exact sp_match hi hu hW (by omega)
  · intro c1
    have u := hu.2.2.1 (by omega)
    refine ⟨by omega, fun h1 g1 g2 => ?_⟩
    have e3 := me_nil g2
    subst e3
    exact sp_enter hi hu ht (by omega)
  · intro b c1
    refine ⟨by omega, fun h1 g1 g2 a5 a6 a7 g3 => ?_⟩
    have h10 : mi_a h 119 zu.toNat = 10 := by omega
    have n9 : ¬ mi_a h 119 zu.toNat = 9 := by omega
    have est := wk_push1 i5 g2 a5 a6 a7
    have e : pm_sg 0 (mi_a h) (px_E h) zu (wk_stk h) s = some ((1, mi_a h 120 zu.toNat, 0) :: wk_stk h, s) := by
      unfold pm_sg
      rw [if_neg n9, if_pos h10]
    rw [e]
    refine ⟨rfl, g1, g3.wide (fun c hc => ab_swr_ok (by decide) hc), Or.inr ⟨(me_f (c := 14044) g3 i1 rfl rfl).trans i3, by rw [me_f (c := 14034) g3 i1 rfl rfl]; exact i4, ((1, mi_a h 120 zu.toNat, 0) :: wk_stk h, s), rfl, est, px_R_st (px_R_fr i9 g3 i1 rfl rfl rfl rfl rfl) (fun x hx x5 => ?_), ?_⟩⟩
    · rcases List.mem_cons.mp hx with rfl | hx
      · exact absurd x5 (show ¬ (1 : Int) = 5 by decide)
      · exact hx
    · rw [me_f (c := 14032) g3 i1 rfl rfl, i6]
      exact (wk_ul_c (by decide)).symm
  · intro c1
    refine ⟨by omega, fun h1 g1 g2 => ?_⟩
    have e3 := me_nil g2
    subst e3
    exact sp_lay hi hu (by omega) (by omega) (by omega) (by omega) (by omega)
end PX2
