/-! segments of the class: Printing, leaf, pairs -/
set_option maxRecDepth 20000 in
theorem mp_kolA_0 (h : sm_H) (d : Nat) (zp : Int) : mj_path [(136, (3, 0, sb_136)), (16, (3, 0, sb_16)), (49, (2, 1, sb_49)), (72, (2, 2, sb_72))] sx_sk h 19 [1, 1] (d + 4, 136, 0, [some (.inr (.inr 108)), some (.inl (zp)), none], [], [], []) = some ((d + 4, 136, 23, [some (.inr (.inr 108)), some (.inl (zp)), some (.inl ((0 : Int)))], [.inl ((0 : Int))], [], []), [zp < ((0 : Int)), zp < ((0 : Int))]) := rfl
theorem mi_tab_kolA_0 : ∀ e ∈ ([(136, (3, 0, sb_136)), (16, (3, 0, sb_16)), (49, (2, 1, sb_49)), (72, (2, 2, sb_72))] : mi_T), sc_P e.1 = some e.2 := mi_tb mi_P136 (mi_tb mi_P16 (mi_tb mi_P49 (mi_tb mi_P72 (mi_tb_e))))
set_option maxRecDepth 20000 in
theorem ms_kolA_0 {h : sm_H} {d : Nat} {Q : Option mi_V → sm_H → Prop} {zp : Int} (hS : ab_Sh sx_sk h) (ok_zp : mi_in zp) (ho : (zp < ((0 : Int))) ∧ (zp < ((0 : Int)))) (kon : ∀ h1, me_W [] h h1 → me_E (d + 4) 136 23 [some (.inr (.inr 108)), some (.inl (zp)), some (.inl ((0 : Int)))] [.inl ((0 : Int))] h1 Q) : me_E (d + 4) 136 0 [some (.inr (.inr 108)), some (.inl (zp)), none] [] h Q := mf_seg (mp_kolA_0 h d zp) (mi_tab_kolA_0) hS (mi_okL_c (trivial) (mi_okL_c (ok_zp) (mi_okL_n (mi_okL_e)))) (mi_okS_e) (mi_al (ho.1) (mi_al (ho.2) (mi_al_e))) (fun h1 W _ hst => kon h1 W)
set_option maxRecDepth 20000 in
theorem mp_kolA_1 (h : sm_H) (d : Nat) (zp : Int) : mj_path [(136, (3, 0, sb_136)), (16, (3, 0, sb_16)), (49, (2, 1, sb_49)), (72, (2, 2, sb_72))] sx_sk h 27 [0, 1, 0, 1] (d + 4, 136, 0, [some (.inr (.inr 108)), some (.inl (zp)), none], [], [], []) = some ((d + 4, 136, 23, [some (.inr (.inr 108)), some (.inl (zp)), some (.inl ((0 : Int)))], [.inl ((0 : Int))], [], []), [((0 : Int)) ≤ zp, ((60 : Int)) ≤ zp, ((0 : Int)) ≤ zp, ((60 : Int)) ≤ zp]) := rfl
theorem mi_tab_kolA_1 : ∀ e ∈ ([(136, (3, 0, sb_136)), (16, (3, 0, sb_16)), (49, (2, 1, sb_49)), (72, (2, 2, sb_72))] : mi_T), sc_P e.1 = some e.2 := mi_tb mi_P136 (mi_tb mi_P16 (mi_tb mi_P49 (mi_tb mi_P72 (mi_tb_e))))
set_option maxRecDepth 20000 in
theorem ms_kolA_1 {h : sm_H} {d : Nat} {Q : Option mi_V → sm_H → Prop} {zp : Int} (hS : ab_Sh sx_sk h) (ok_zp : mi_in zp) (ho : (((0 : Int)) ≤ zp) ∧ (((60 : Int)) ≤ zp) ∧ (((0 : Int)) ≤ zp) ∧ (((60 : Int)) ≤ zp)) (kon : ∀ h1, me_W [] h h1 → me_E (d + 4) 136 23 [some (.inr (.inr 108)), some (.inl (zp)), some (.inl ((0 : Int)))] [.inl ((0 : Int))] h1 Q) : me_E (d + 4) 136 0 [some (.inr (.inr 108)), some (.inl (zp)), none] [] h Q := mf_seg (mp_kolA_1 h d zp) (mi_tab_kolA_1) hS (mi_okL_c (trivial) (mi_okL_c (ok_zp) (mi_okL_n (mi_okL_e)))) (mi_okS_e) (mi_al (ho.1) (mi_al (ho.2.1) (mi_al (ho.2.2.1) (mi_al (ho.2.2.2) (mi_al_e))))) (fun h1 W _ hst => kon h1 W)
set_option maxRecDepth 20000 in
theorem mp_kolA_2 (h : sm_H) (d : Nat) (zp : Int) : mj_path [(136, (3, 0, sb_136)), (16, (3, 0, sb_16)), (49, (2, 1, sb_49)), (72, (2, 2, sb_72))] sx_sk h 33 [0, 0, 0, 0] (d + 4, 136, 0, [some (.inr (.inr 108)), some (.inl (zp)), none], [], [], []) = some ((d + 4, 136, 23, [some (.inr (.inr 108)), some (.inl (zp)), some (.inl (mi_a h 69 (Int.toNat zp)))], [.inl (mi_a h 68 (Int.toNat zp))], [], []), [((0 : Int)) ≤ zp, zp < ((60 : Int)), 0 ≤ zp ∧ zp < 60, ((0 : Int)) ≤ zp, zp < ((60 : Int)), 0 ≤ zp ∧ zp < 60]) := rfl
theorem mi_tab_kolA_2 : ∀ e ∈ ([(136, (3, 0, sb_136)), (16, (3, 0, sb_16)), (49, (2, 1, sb_49)), (72, (2, 2, sb_72))] : mi_T), sc_P e.1 = some e.2 := mi_tb mi_P136 (mi_tb mi_P16 (mi_tb mi_P49 (mi_tb mi_P72 (mi_tb_e))))
set_option maxRecDepth 20000 in
theorem ms_kolA_2 {h : sm_H} {d : Nat} {Q : Option mi_V → sm_H → Prop} {zp : Int} (hS : ab_Sh sx_sk h) (ok_zp : mi_in zp) (ho : (((0 : Int)) ≤ zp) ∧ (zp < ((60 : Int))) ∧ (0 ≤ zp ∧ zp < 60) ∧ (((0 : Int)) ≤ zp) ∧ (zp < ((60 : Int))) ∧ (0 ≤ zp ∧ zp < 60)) (kon : ∀ h1, me_W [] h h1 → me_E (d + 4) 136 23 [some (.inr (.inr 108)), some (.inl (zp)), some (.inl (mi_a h 69 (Int.toNat zp)))] [.inl (mi_a h 68 (Int.toNat zp))] h1 Q) : me_E (d + 4) 136 0 [some (.inr (.inr 108)), some (.inl (zp)), none] [] h Q := mf_seg (mp_kolA_2 h d zp) (mi_tab_kolA_2) hS (mi_okL_c (trivial) (mi_okL_c (ok_zp) (mi_okL_n (mi_okL_e)))) (mi_okS_e) (mi_al (ho.1) (mi_al (ho.2.1) (mi_al (ho.2.2.1) (mi_al (ho.2.2.2.1) (mi_al (ho.2.2.2.2.1) (mi_al (ho.2.2.2.2.2) (mi_al_e))))))) (fun h1 W _ hst => kon h1 W)
set_option maxRecDepth 20000 in
theorem mt_kolA {h : sm_H} {d : Nat} {Q : Option mi_V → sm_H → Prop} {zp : Int} (hS : ab_Sh sx_sk h) (ok_zp : mi_in zp) (k0 : (zp < ((0 : Int))) → (∀ h1, ab_Sh sx_sk h1 → ab_Fr [] h h1 → me_E (d + 4) 136 23 [some (.inr (.inr 108)), some (.inl (zp)), some (.inl ((0 : Int)))] [.inl ((0 : Int))] h1 Q)) (k1 : (((0 : Int)) ≤ zp) → (((60 : Int)) ≤ zp) → (∀ h1, ab_Sh sx_sk h1 → ab_Fr [] h h1 → me_E (d + 4) 136 23 [some (.inr (.inr 108)), some (.inl (zp)), some (.inl ((0 : Int)))] [.inl ((0 : Int))] h1 Q)) (k2 : (((0 : Int)) ≤ zp) → (zp < ((60 : Int))) → ((0 ≤ zp ∧ zp < 60)) ∧ (∀ h1, ab_Sh sx_sk h1 → ab_Fr [] h h1 → me_E (d + 4) 136 23 [some (.inr (.inr 108)), some (.inl (zp)), some (.inl (mi_a h 69 (Int.toNat zp)))] [.inl (mi_a h 68 (Int.toNat zp))] h1 Q)) : me_E (d + 4) 136 0 [some (.inr (.inr 108)), some (.inl (zp)), none] [] h Q := Or.elim (mi_em .lt (zp) (((0 : Int)))) (fun c0 => ms_kolA_0 hS ok_zp ⟨c0, c0⟩ (fun h1 W => (k0 c0) h1 W.1 (W.2.2.2.2.2 _ rfl))) (fun c0 => Or.elim (mi_em .ge (zp) (((60 : Int)))) (fun c1 => ms_kolA_1 hS ok_zp ⟨c0, c1, c0, c1⟩ (fun h1 W => (k1 c0 c1) h1 W.1 (W.2.2.2.2.2 _ rfl))) (fun c1 => ms_kolA_2 hS ok_zp ⟨c0, c1, (k2 c0 c1).1, c0, c1, (k2 c0 c1).1⟩ (fun h1 W => (k2 c0 c1).2 h1 W.1 (W.2.2.2.2.2 _ rfl))))
set_option maxRecDepth 20000 in
theorem mp_kolB_0 (h : sm_H) (d : Nat) (zp zv zs : Int) : mj_path [(136, (3, 0, sb_136)), (16, (3, 0, sb_16)), (49, (2, 1, sb_49)), (72, (2, 2, sb_72)), (137, (1, 1, sb_137))] sx_sk h 29 [0, 8, 8, 1, 8, 8] (d + 4, 136, 23, [some (.inr (.inr 108)), some (.inl (zp)), some (.inl (zv))], [.inl (zs)], [], []) = some ((d + 4, 136, 83, [some (.inr (.inr 108)), some (.inl (zp)), some (.inl (zv))], [.inl ((Int32.ofInt ((((0 : Int)) - zv) + ((10000 : Int))) - Int32.ofInt ((((0 : Int)) - zv) + ((10000 : Int))) / Int32.ofInt ((10000 : Int)) * Int32.ofInt ((10000 : Int))).toInt), .inr (.inr 108)], [.inl (13831, (mi_f h 13831) + ((1 : Int)))], []), [zs = 1 + 0 ∧ zs ≤ 8, -2147483648 ≤ (mi_f h 13831) + ((1 : Int)) ∧ (mi_f h 13831) + ((1 : Int)) ≤ 2147483647, -2147483648 ≤ ((mi_f h 13831) + ((1 : Int))) - ((1 : Int)) ∧ ((mi_f h 13831) + ((1 : Int))) - ((1 : Int)) ≤ 2147483647, (((mi_f h 13831) + ((1 : Int))) - ((1 : Int))) < ((0 : Int)), -2147483648 ≤ ((0 : Int)) - zv ∧ ((0 : Int)) - zv ≤ 2147483647, -2147483648 ≤ (((0 : Int)) - zv) + ((10000 : Int)) ∧ (((0 : Int)) - zv) + ((10000 : Int)) ≤ 2147483647, ((10000 : Int)) ≠ 0]) := rfl
theorem mi_tab_kolB_0 : ∀ e ∈ ([(136, (3, 0, sb_136)), (16, (3, 0, sb_16)), (49, (2, 1, sb_49)), (72, (2, 2, sb_72)), (137, (1, 1, sb_137))] : mi_T), sc_P e.1 = some e.2 := mi_tb mi_P136 (mi_tb mi_P16 (mi_tb mi_P49 (mi_tb mi_P72 (mi_tb mi_P137 (mi_tb_e)))))
set_option maxRecDepth 20000 in
theorem ms_kolB_0 {h : sm_H} {d : Nat} {Q : Option mi_V → sm_H → Prop} {zp zv zs : Int} (hS : ab_Sh sx_sk h) (ok_zp : mi_in zp) (ok_zv : mi_in zv) (ok_zs : mi_in zs) (ho : (zs = 1 + 0 ∧ zs ≤ 8) ∧ (-2147483648 ≤ (mi_f h 13831) + ((1 : Int)) ∧ (mi_f h 13831) + ((1 : Int)) ≤ 2147483647) ∧ (-2147483648 ≤ ((mi_f h 13831) + ((1 : Int))) - ((1 : Int)) ∧ ((mi_f h 13831) + ((1 : Int))) - ((1 : Int)) ≤ 2147483647) ∧ ((((mi_f h 13831) + ((1 : Int))) - ((1 : Int))) < ((0 : Int))) ∧ (-2147483648 ≤ ((0 : Int)) - zv ∧ ((0 : Int)) - zv ≤ 2147483647) ∧ (-2147483648 ≤ (((0 : Int)) - zv) + ((10000 : Int)) ∧ (((0 : Int)) - zv) + ((10000 : Int)) ≤ 2147483647) ∧ (((10000 : Int)) ≠ 0)) (kon : ∀ h1, me_W [.inl (13831, (mi_f h 13831) + ((1 : Int)))] h h1 → ∃ Q1, me_E (d + 3) 138 0 (mi_entry 3 [.inr (.inr 108), .inl ((Int32.ofInt ((((0 : Int)) - zv) + ((10000 : Int))) - Int32.ofInt ((((0 : Int)) - zv) + ((10000 : Int))) / Int32.ofInt ((10000 : Int)) * Int32.ofInt ((10000 : Int))).toInt)]) [] h1 Q1 ∧ ∀ w h2, (∀ x, w = some x → mi_ok x) → Q1 w h2 → me_E (d + 4) 136 86 [some (.inr (.inr 108)), some (.inl (zp)), some (.inl (zv))] (mi_back w []) h2 Q) : me_E (d + 4) 136 23 [some (.inr (.inr 108)), some (.inl (zp)), some (.inl (zv))] [.inl (zs)] h Q := mf_seg (mp_kolB_0 h d zp zv zs) (mi_tab_kolB_0) hS (mi_okL_c (trivial) (mi_okL_c (ok_zp) (mi_okL_c (ok_zv) (mi_okL_e)))) (mi_okS_cons (ok_zs) (mi_okS_e)) (mi_al (ho.1) (mi_al (ho.2.1) (mi_al (ho.2.2.1) (mi_al (ho.2.2.2.1) (mi_al (ho.2.2.2.2.1) (mi_al (ho.2.2.2.2.2.1) (mi_al (ho.2.2.2.2.2.2) (mi_al_e)))))))) (fun h1 W _ hst => let ⟨_, k1, k2⟩ := kon h1 W; mf_call (M := (3, 0, sb_136)) (M' := (3, 0, sb_138)) rfl rfl rfl rfl (Nat.le_of_ble_eq_true rfl) (Nat.le_of_ble_eq_true rfl) W.1 k1 k2)
set_option maxRecDepth 20000 in
theorem mp_kolB_1 (h : sm_H) (d : Nat) (zp zv zs : Int) : mj_path [(136, (3, 0, sb_136)), (16, (3, 0, sb_16)), (49, (2, 1, sb_49)), (72, (2, 2, sb_72)), (137, (1, 1, sb_137))] sx_sk h 33 [0, 8, 8, 0, 1, 8, 8] (d + 4, 136, 23, [some (.inr (.inr 108)), some (.inl (zp)), some (.inl (zv))], [.inl (zs)], [], []) = some ((d + 4, 136, 83, [some (.inr (.inr 108)), some (.inl (zp)), some (.inl (zv))], [.inl ((Int32.ofInt ((((0 : Int)) - zv) + ((10000 : Int))) - Int32.ofInt ((((0 : Int)) - zv) + ((10000 : Int))) / Int32.ofInt ((10000 : Int)) * Int32.ofInt ((10000 : Int))).toInt), .inr (.inr 108)], [.inl (13831, (mi_f h 13831) + ((1 : Int)))], []), [zs = 1 + 0 ∧ zs ≤ 8, -2147483648 ≤ (mi_f h 13831) + ((1 : Int)) ∧ (mi_f h 13831) + ((1 : Int)) ≤ 2147483647, -2147483648 ≤ ((mi_f h 13831) + ((1 : Int))) - ((1 : Int)) ∧ ((mi_f h 13831) + ((1 : Int))) - ((1 : Int)) ≤ 2147483647, ((0 : Int)) ≤ (((mi_f h 13831) + ((1 : Int))) - ((1 : Int))), ((100 : Int)) ≤ (((mi_f h 13831) + ((1 : Int))) - ((1 : Int))), -2147483648 ≤ ((0 : Int)) - zv ∧ ((0 : Int)) - zv ≤ 2147483647, -2147483648 ≤ (((0 : Int)) - zv) + ((10000 : Int)) ∧ (((0 : Int)) - zv) + ((10000 : Int)) ≤ 2147483647, ((10000 : Int)) ≠ 0]) := rfl
theorem mi_tab_kolB_1 : ∀ e ∈ ([(136, (3, 0, sb_136)), (16, (3, 0, sb_16)), (49, (2, 1, sb_49)), (72, (2, 2, sb_72)), (137, (1, 1, sb_137))] : mi_T), sc_P e.1 = some e.2 := mi_tb mi_P136 (mi_tb mi_P16 (mi_tb mi_P49 (mi_tb mi_P72 (mi_tb mi_P137 (mi_tb_e)))))
set_option maxRecDepth 20000 in
theorem ms_kolB_1 {h : sm_H} {d : Nat} {Q : Option mi_V → sm_H → Prop} {zp zv zs : Int} (hS : ab_Sh sx_sk h) (ok_zp : mi_in zp) (ok_zv : mi_in zv) (ok_zs : mi_in zs) (ho : (zs = 1 + 0 ∧ zs ≤ 8) ∧ (-2147483648 ≤ (mi_f h 13831) + ((1 : Int)) ∧ (mi_f h 13831) + ((1 : Int)) ≤ 2147483647) ∧ (-2147483648 ≤ ((mi_f h 13831) + ((1 : Int))) - ((1 : Int)) ∧ ((mi_f h 13831) + ((1 : Int))) - ((1 : Int)) ≤ 2147483647) ∧ (((0 : Int)) ≤ (((mi_f h 13831) + ((1 : Int))) - ((1 : Int)))) ∧ (((100 : Int)) ≤ (((mi_f h 13831) + ((1 : Int))) - ((1 : Int)))) ∧ (-2147483648 ≤ ((0 : Int)) - zv ∧ ((0 : Int)) - zv ≤ 2147483647) ∧ (-2147483648 ≤ (((0 : Int)) - zv) + ((10000 : Int)) ∧ (((0 : Int)) - zv) + ((10000 : Int)) ≤ 2147483647) ∧ (((10000 : Int)) ≠ 0)) (kon : ∀ h1, me_W [.inl (13831, (mi_f h 13831) + ((1 : Int)))] h h1 → ∃ Q1, me_E (d + 3) 138 0 (mi_entry 3 [.inr (.inr 108), .inl ((Int32.ofInt ((((0 : Int)) - zv) + ((10000 : Int))) - Int32.ofInt ((((0 : Int)) - zv) + ((10000 : Int))) / Int32.ofInt ((10000 : Int)) * Int32.ofInt ((10000 : Int))).toInt)]) [] h1 Q1 ∧ ∀ w h2, (∀ x, w = some x → mi_ok x) → Q1 w h2 → me_E (d + 4) 136 86 [some (.inr (.inr 108)), some (.inl (zp)), some (.inl (zv))] (mi_back w []) h2 Q) : me_E (d + 4) 136 23 [some (.inr (.inr 108)), some (.inl (zp)), some (.inl (zv))] [.inl (zs)] h Q := mf_seg (mp_kolB_1 h d zp zv zs) (mi_tab_kolB_1) hS (mi_okL_c (trivial) (mi_okL_c (ok_zp) (mi_okL_c (ok_zv) (mi_okL_e)))) (mi_okS_cons (ok_zs) (mi_okS_e)) (mi_al (ho.1) (mi_al (ho.2.1) (mi_al (ho.2.2.1) (mi_al (ho.2.2.2.1) (mi_al (ho.2.2.2.2.1) (mi_al (ho.2.2.2.2.2.1) (mi_al (ho.2.2.2.2.2.2.1) (mi_al (ho.2.2.2.2.2.2.2) (mi_al_e))))))))) (fun h1 W _ hst => let ⟨_, k1, k2⟩ := kon h1 W; mf_call (M := (3, 0, sb_136)) (M' := (3, 0, sb_138)) rfl rfl rfl rfl (Nat.le_of_ble_eq_true rfl) (Nat.le_of_ble_eq_true rfl) W.1 k1 k2)
set_option maxRecDepth 20000 in
theorem mp_kolB_2 (h : sm_H) (d : Nat) (zp zv zs : Int) : mj_path [(136, (3, 0, sb_136)), (16, (3, 0, sb_16)), (49, (2, 1, sb_49)), (72, (2, 2, sb_72)), (137, (1, 1, sb_137))] sx_sk h 36 [0, 8, 8, 0, 0, 8, 8] (d + 4, 136, 23, [some (.inr (.inr 108)), some (.inl (zp)), some (.inl (zv))], [.inl (zs)], [], []) = some ((d + 4, 136, 83, [some (.inr (.inr 108)), some (.inl (zp)), some (.inl (zv))], [.inl ((Int32.ofInt (((mi_a h 96 (Int.toNat (((mi_f h 13831) + ((1 : Int))) - ((1 : Int))))) - zv) + ((10000 : Int))) - Int32.ofInt (((mi_a h 96 (Int.toNat (((mi_f h 13831) + ((1 : Int))) - ((1 : Int))))) - zv) + ((10000 : Int))) / Int32.ofInt ((10000 : Int)) * Int32.ofInt ((10000 : Int))).toInt), .inr (.inr 108)], [.inl (13831, (mi_f h 13831) + ((1 : Int)))], []), [zs = 1 + 0 ∧ zs ≤ 8, -2147483648 ≤ (mi_f h 13831) + ((1 : Int)) ∧ (mi_f h 13831) + ((1 : Int)) ≤ 2147483647, -2147483648 ≤ ((mi_f h 13831) + ((1 : Int))) - ((1 : Int)) ∧ ((mi_f h 13831) + ((1 : Int))) - ((1 : Int)) ≤ 2147483647, ((0 : Int)) ≤ (((mi_f h 13831) + ((1 : Int))) - ((1 : Int))), (((mi_f h 13831) + ((1 : Int))) - ((1 : Int))) < ((100 : Int)), 0 ≤ (((mi_f h 13831) + ((1 : Int))) - ((1 : Int))) ∧ (((mi_f h 13831) + ((1 : Int))) - ((1 : Int))) < 100, -2147483648 ≤ (mi_a h 96 (Int.toNat (((mi_f h 13831) + ((1 : Int))) - ((1 : Int))))) - zv ∧ (mi_a h 96 (Int.toNat (((mi_f h 13831) + ((1 : Int))) - ((1 : Int))))) - zv ≤ 2147483647, -2147483648 ≤ ((mi_a h 96 (Int.toNat (((mi_f h 13831) + ((1 : Int))) - ((1 : Int))))) - zv) + ((10000 : Int)) ∧ ((mi_a h 96 (Int.toNat (((mi_f h 13831) + ((1 : Int))) - ((1 : Int))))) - zv) + ((10000 : Int)) ≤ 2147483647, ((10000 : Int)) ≠ 0]) := rfl
theorem mi_tab_kolB_2 : ∀ e ∈ ([(136, (3, 0, sb_136)), (16, (3, 0, sb_16)), (49, (2, 1, sb_49)), (72, (2, 2, sb_72)), (137, (1, 1, sb_137))] : mi_T), sc_P e.1 = some e.2 := mi_tb mi_P136 (mi_tb mi_P16 (mi_tb mi_P49 (mi_tb mi_P72 (mi_tb mi_P137 (mi_tb_e)))))
set_option maxRecDepth 20000 in
theorem ms_kolB_2 {h : sm_H} {d : Nat} {Q : Option mi_V → sm_H → Prop} {zp zv zs : Int} (hS : ab_Sh sx_sk h) (ok_zp : mi_in zp) (ok_zv : mi_in zv) (ok_zs : mi_in zs) (ho : (zs = 1 + 0 ∧ zs ≤ 8) ∧ (-2147483648 ≤ (mi_f h 13831) + ((1 : Int)) ∧ (mi_f h 13831) + ((1 : Int)) ≤ 2147483647) ∧ (-2147483648 ≤ ((mi_f h 13831) + ((1 : Int))) - ((1 : Int)) ∧ ((mi_f h 13831) + ((1 : Int))) - ((1 : Int)) ≤ 2147483647) ∧ (((0 : Int)) ≤ (((mi_f h 13831) + ((1 : Int))) - ((1 : Int)))) ∧ ((((mi_f h 13831) + ((1 : Int))) - ((1 : Int))) < ((100 : Int))) ∧ (0 ≤ (((mi_f h 13831) + ((1 : Int))) - ((1 : Int))) ∧ (((mi_f h 13831) + ((1 : Int))) - ((1 : Int))) < 100) ∧ (-2147483648 ≤ (mi_a h 96 (Int.toNat (((mi_f h 13831) + ((1 : Int))) - ((1 : Int))))) - zv ∧ (mi_a h 96 (Int.toNat (((mi_f h 13831) + ((1 : Int))) - ((1 : Int))))) - zv ≤ 2147483647) ∧ (-2147483648 ≤ ((mi_a h 96 (Int.toNat (((mi_f h 13831) + ((1 : Int))) - ((1 : Int))))) - zv) + ((10000 : Int)) ∧ ((mi_a h 96 (Int.toNat (((mi_f h 13831) + ((1 : Int))) - ((1 : Int))))) - zv) + ((10000 : Int)) ≤ 2147483647) ∧ (((10000 : Int)) ≠ 0)) (kon : ∀ h1, me_W [.inl (13831, (mi_f h 13831) + ((1 : Int)))] h h1 → ∃ Q1, me_E (d + 3) 138 0 (mi_entry 3 [.inr (.inr 108), .inl ((Int32.ofInt (((mi_a h 96 (Int.toNat (((mi_f h 13831) + ((1 : Int))) - ((1 : Int))))) - zv) + ((10000 : Int))) - Int32.ofInt (((mi_a h 96 (Int.toNat (((mi_f h 13831) + ((1 : Int))) - ((1 : Int))))) - zv) + ((10000 : Int))) / Int32.ofInt ((10000 : Int)) * Int32.ofInt ((10000 : Int))).toInt)]) [] h1 Q1 ∧ ∀ w h2, (∀ x, w = some x → mi_ok x) → Q1 w h2 → me_E (d + 4) 136 86 [some (.inr (.inr 108)), some (.inl (zp)), some (.inl (zv))] (mi_back w []) h2 Q) : me_E (d + 4) 136 23 [some (.inr (.inr 108)), some (.inl (zp)), some (.inl (zv))] [.inl (zs)] h Q := mf_seg (mp_kolB_2 h d zp zv zs) (mi_tab_kolB_2) hS (mi_okL_c (trivial) (mi_okL_c (ok_zp) (mi_okL_c (ok_zv) (mi_okL_e)))) (mi_okS_cons (ok_zs) (mi_okS_e)) (mi_al (ho.1) (mi_al (ho.2.1) (mi_al (ho.2.2.1) (mi_al (ho.2.2.2.1) (mi_al (ho.2.2.2.2.1) (mi_al (ho.2.2.2.2.2.1) (mi_al (ho.2.2.2.2.2.2.1) (mi_al (ho.2.2.2.2.2.2.2.1) (mi_al (ho.2.2.2.2.2.2.2.2) (mi_al_e)))))))))) (fun h1 W _ hst => let ⟨_, k1, k2⟩ := kon h1 W; mf_call (M := (3, 0, sb_136)) (M' := (3, 0, sb_138)) rfl rfl rfl rfl (Nat.le_of_ble_eq_true rfl) (Nat.le_of_ble_eq_true rfl) W.1 k1 k2)
set_option maxRecDepth 20000 in
theorem mp_kolB_3 (h : sm_H) (d : Nat) (zp zv zs : Int) : mj_path [(136, (3, 0, sb_136)), (16, (3, 0, sb_16)), (49, (2, 1, sb_49)), (72, (2, 2, sb_72)), (137, (1, 1, sb_137))] sx_sk h 23 [1, 8, 8, 1] (d + 4, 136, 23, [some (.inr (.inr 108)), some (.inl (zp)), some (.inl (zv))], [.inl (zs)], [], []) = some ((d + 4, 136, 94, [some (.inr (.inr 108)), some (.inl (zp)), some (.inl (zv))], [.inl ((0 : Int)), .inr (.inr 108)], [.inl (13831, (mi_f h 13831) + ((1 : Int)))], []), [zs = 1 + 1 ∧ zs ≤ 8, -2147483648 ≤ (mi_f h 13831) + ((1 : Int)) ∧ (mi_f h 13831) + ((1 : Int)) ≤ 2147483647, -2147483648 ≤ ((mi_f h 13831) + ((1 : Int))) - ((1 : Int)) ∧ ((mi_f h 13831) + ((1 : Int))) - ((1 : Int)) ≤ 2147483647, (((mi_f h 13831) + ((1 : Int))) - ((1 : Int))) < ((0 : Int))]) := rfl
theorem mi_tab_kolB_3 : ∀ e ∈ ([(136, (3, 0, sb_136)), (16, (3, 0, sb_16)), (49, (2, 1, sb_49)), (72, (2, 2, sb_72)), (137, (1, 1, sb_137))] : mi_T), sc_P e.1 = some e.2 := mi_tb mi_P136 (mi_tb mi_P16 (mi_tb mi_P49 (mi_tb mi_P72 (mi_tb mi_P137 (mi_tb_e)))))
set_option maxRecDepth 20000 in
theorem ms_kolB_3 {h : sm_H} {d : Nat} {Q : Option mi_V → sm_H → Prop} {zp zv zs : Int} (hS : ab_Sh sx_sk h) (ok_zp : mi_in zp) (ok_zv : mi_in zv) (ok_zs : mi_in zs) (ho : (zs = 1 + 1 ∧ zs ≤ 8) ∧ (-2147483648 ≤ (mi_f h 13831) + ((1 : Int)) ∧ (mi_f h 13831) + ((1 : Int)) ≤ 2147483647) ∧ (-2147483648 ≤ ((mi_f h 13831) + ((1 : Int))) - ((1 : Int)) ∧ ((mi_f h 13831) + ((1 : Int))) - ((1 : Int)) ≤ 2147483647) ∧ ((((mi_f h 13831) + ((1 : Int))) - ((1 : Int))) < ((0 : Int)))) (kon : ∀ h1, me_W [.inl (13831, (mi_f h 13831) + ((1 : Int)))] h h1 → ∃ Q1, me_E (d + 3) 141 0 (mi_entry 4 [.inr (.inr 108), .inl ((0 : Int))]) [] h1 Q1 ∧ ∀ w h2, (∀ x, w = some x → mi_ok x) → Q1 w h2 → me_E (d + 4) 136 97 [some (.inr (.inr 108)), some (.inl (zp)), some (.inl (zv))] (mi_back w []) h2 Q) : me_E (d + 4) 136 23 [some (.inr (.inr 108)), some (.inl (zp)), some (.inl (zv))] [.inl (zs)] h Q := mf_seg (mp_kolB_3 h d zp zv zs) (mi_tab_kolB_3) hS (mi_okL_c (trivial) (mi_okL_c (ok_zp) (mi_okL_c (ok_zv) (mi_okL_e)))) (mi_okS_cons (ok_zs) (mi_okS_e)) (mi_al (ho.1) (mi_al (ho.2.1) (mi_al (ho.2.2.1) (mi_al (ho.2.2.2) (mi_al_e))))) (fun h1 W _ hst => let ⟨_, k1, k2⟩ := kon h1 W; mf_call (M := (3, 0, sb_136)) (M' := (4, 0, sb_141)) rfl rfl rfl rfl (Nat.le_of_ble_eq_true rfl) (Nat.le_of_ble_eq_true rfl) W.1 k1 k2)
set_option maxRecDepth 20000 in
theorem mp_kolB_4 (h : sm_H) (d : Nat) (zp zv zs : Int) : mj_path [(136, (3, 0, sb_136)), (16, (3, 0, sb_16)), (49, (2, 1, sb_49)), (72, (2, 2, sb_72)), (137, (1, 1, sb_137))] sx_sk h 27 [1, 8, 8, 0, 1] (d + 4, 136, 23, [some (.inr (.inr 108)), some (.inl (zp)), some (.inl (zv))], [.inl (zs)], [], []) = some ((d + 4, 136, 94, [some (.inr (.inr 108)), some (.inl (zp)), some (.inl (zv))], [.inl ((0 : Int)), .inr (.inr 108)], [.inl (13831, (mi_f h 13831) + ((1 : Int)))], []), [zs = 1 + 1 ∧ zs ≤ 8, -2147483648 ≤ (mi_f h 13831) + ((1 : Int)) ∧ (mi_f h 13831) + ((1 : Int)) ≤ 2147483647, -2147483648 ≤ ((mi_f h 13831) + ((1 : Int))) - ((1 : Int)) ∧ ((mi_f h 13831) + ((1 : Int))) - ((1 : Int)) ≤ 2147483647, ((0 : Int)) ≤ (((mi_f h 13831) + ((1 : Int))) - ((1 : Int))), ((100 : Int)) ≤ (((mi_f h 13831) + ((1 : Int))) - ((1 : Int)))]) := rfl
theorem mi_tab_kolB_4 : ∀ e ∈ ([(136, (3, 0, sb_136)), (16, (3, 0, sb_16)), (49, (2, 1, sb_49)), (72, (2, 2, sb_72)), (137, (1, 1, sb_137))] : mi_T), sc_P e.1 = some e.2 := mi_tb mi_P136 (mi_tb mi_P16 (mi_tb mi_P49 (mi_tb mi_P72 (mi_tb mi_P137 (mi_tb_e)))))
set_option maxRecDepth 20000 in
theorem ms_kolB_4 {h : sm_H} {d : Nat} {Q : Option mi_V → sm_H → Prop} {zp zv zs : Int} (hS : ab_Sh sx_sk h) (ok_zp : mi_in zp) (ok_zv : mi_in zv) (ok_zs : mi_in zs) (ho : (zs = 1 + 1 ∧ zs ≤ 8) ∧ (-2147483648 ≤ (mi_f h 13831) + ((1 : Int)) ∧ (mi_f h 13831) + ((1 : Int)) ≤ 2147483647) ∧ (-2147483648 ≤ ((mi_f h 13831) + ((1 : Int))) - ((1 : Int)) ∧ ((mi_f h 13831) + ((1 : Int))) - ((1 : Int)) ≤ 2147483647) ∧ (((0 : Int)) ≤ (((mi_f h 13831) + ((1 : Int))) - ((1 : Int)))) ∧ (((100 : Int)) ≤ (((mi_f h 13831) + ((1 : Int))) - ((1 : Int))))) (kon : ∀ h1, me_W [.inl (13831, (mi_f h 13831) + ((1 : Int)))] h h1 → ∃ Q1, me_E (d + 3) 141 0 (mi_entry 4 [.inr (.inr 108), .inl ((0 : Int))]) [] h1 Q1 ∧ ∀ w h2, (∀ x, w = some x → mi_ok x) → Q1 w h2 → me_E (d + 4) 136 97 [some (.inr (.inr 108)), some (.inl (zp)), some (.inl (zv))] (mi_back w []) h2 Q) : me_E (d + 4) 136 23 [some (.inr (.inr 108)), some (.inl (zp)), some (.inl (zv))] [.inl (zs)] h Q := mf_seg (mp_kolB_4 h d zp zv zs) (mi_tab_kolB_4) hS (mi_okL_c (trivial) (mi_okL_c (ok_zp) (mi_okL_c (ok_zv) (mi_okL_e)))) (mi_okS_cons (ok_zs) (mi_okS_e)) (mi_al (ho.1) (mi_al (ho.2.1) (mi_al (ho.2.2.1) (mi_al (ho.2.2.2.1) (mi_al (ho.2.2.2.2) (mi_al_e)))))) (fun h1 W _ hst => let ⟨_, k1, k2⟩ := kon h1 W; mf_call (M := (3, 0, sb_136)) (M' := (4, 0, sb_141)) rfl rfl rfl rfl (Nat.le_of_ble_eq_true rfl) (Nat.le_of_ble_eq_true rfl) W.1 k1 k2)
set_option maxRecDepth 20000 in
theorem mp_kolB_5 (h : sm_H) (d : Nat) (zp zv zs : Int) : mj_path [(136, (3, 0, sb_136)), (16, (3, 0, sb_16)), (49, (2, 1, sb_49)), (72, (2, 2, sb_72)), (137, (1, 1, sb_137))] sx_sk h 30 [1, 8, 8, 0, 0] (d + 4, 136, 23, [some (.inr (.inr 108)), some (.inl (zp)), some (.inl (zv))], [.inl (zs)], [], []) = some ((d + 4, 136, 94, [some (.inr (.inr 108)), some (.inl (zp)), some (.inl (zv))], [.inl (mi_a h 96 (Int.toNat (((mi_f h 13831) + ((1 : Int))) - ((1 : Int))))), .inr (.inr 108)], [.inl (13831, (mi_f h 13831) + ((1 : Int)))], []), [zs = 1 + 1 ∧ zs ≤ 8, -2147483648 ≤ (mi_f h 13831) + ((1 : Int)) ∧ (mi_f h 13831) + ((1 : Int)) ≤ 2147483647, -2147483648 ≤ ((mi_f h 13831) + ((1 : Int))) - ((1 : Int)) ∧ ((mi_f h 13831) + ((1 : Int))) - ((1 : Int)) ≤ 2147483647, ((0 : Int)) ≤ (((mi_f h 13831) + ((1 : Int))) - ((1 : Int))), (((mi_f h 13831) + ((1 : Int))) - ((1 : Int))) < ((100 : Int)), 0 ≤ (((mi_f h 13831) + ((1 : Int))) - ((1 : Int))) ∧ (((mi_f h 13831) + ((1 : Int))) - ((1 : Int))) < 100]) := rfl
theorem mi_tab_kolB_5 : ∀ e ∈ ([(136, (3, 0, sb_136)), (16, (3, 0, sb_16)), (49, (2, 1, sb_49)), (72, (2, 2, sb_72)), (137, (1, 1, sb_137))] : mi_T), sc_P e.1 = some e.2 := mi_tb mi_P136 (mi_tb mi_P16 (mi_tb mi_P49 (mi_tb mi_P72 (mi_tb mi_P137 (mi_tb_e)))))
set_option maxRecDepth 20000 in
theorem ms_kolB_5 {h : sm_H} {d : Nat} {Q : Option mi_V → sm_H → Prop} {zp zv zs : Int} (hS : ab_Sh sx_sk h) (ok_zp : mi_in zp) (ok_zv : mi_in zv) (ok_zs : mi_in zs) (ho : (zs = 1 + 1 ∧ zs ≤ 8) ∧ (-2147483648 ≤ (mi_f h 13831) + ((1 : Int)) ∧ (mi_f h 13831) + ((1 : Int)) ≤ 2147483647) ∧ (-2147483648 ≤ ((mi_f h 13831) + ((1 : Int))) - ((1 : Int)) ∧ ((mi_f h 13831) + ((1 : Int))) - ((1 : Int)) ≤ 2147483647) ∧ (((0 : Int)) ≤ (((mi_f h 13831) + ((1 : Int))) - ((1 : Int)))) ∧ ((((mi_f h 13831) + ((1 : Int))) - ((1 : Int))) < ((100 : Int))) ∧ (0 ≤ (((mi_f h 13831) + ((1 : Int))) - ((1 : Int))) ∧ (((mi_f h 13831) + ((1 : Int))) - ((1 : Int))) < 100)) (kon : ∀ h1, me_W [.inl (13831, (mi_f h 13831) + ((1 : Int)))] h h1 → ∃ Q1, me_E (d + 3) 141 0 (mi_entry 4 [.inr (.inr 108), .inl (mi_a h 96 (Int.toNat (((mi_f h 13831) + ((1 : Int))) - ((1 : Int)))))]) [] h1 Q1 ∧ ∀ w h2, (∀ x, w = some x → mi_ok x) → Q1 w h2 → me_E (d + 4) 136 97 [some (.inr (.inr 108)), some (.inl (zp)), some (.inl (zv))] (mi_back w []) h2 Q) : me_E (d + 4) 136 23 [some (.inr (.inr 108)), some (.inl (zp)), some (.inl (zv))] [.inl (zs)] h Q := mf_seg (mp_kolB_5 h d zp zv zs) (mi_tab_kolB_5) hS (mi_okL_c (trivial) (mi_okL_c (ok_zp) (mi_okL_c (ok_zv) (mi_okL_e)))) (mi_okS_cons (ok_zs) (mi_okS_e)) (mi_al (ho.1) (mi_al (ho.2.1) (mi_al (ho.2.2.1) (mi_al (ho.2.2.2.1) (mi_al (ho.2.2.2.2.1) (mi_al (ho.2.2.2.2.2) (mi_al_e))))))) (fun h1 W _ hst => let ⟨_, k1, k2⟩ := kon h1 W; mf_call (M := (3, 0, sb_136)) (M' := (4, 0, sb_141)) rfl rfl rfl rfl (Nat.le_of_ble_eq_true rfl) (Nat.le_of_ble_eq_true rfl) W.1 k1 k2)
set_option maxRecDepth 20000 in
theorem mp_kolB_6 (h : sm_H) (d : Nat) (zp zv zs : Int) : mj_path [(136, (3, 0, sb_136)), (16, (3, 0, sb_16)), (49, (2, 1, sb_49)), (72, (2, 2, sb_72)), (137, (1, 1, sb_137))] sx_sk h 1 [2] (d + 4, 136, 23, [some (.inr (.inr 108)), some (.inl (zp)), some (.inl (zv))], [.inl (zs)], [], []) = some ((d + 4, 136, 164, [some (.inr (.inr 108)), some (.inl (zp)), some (.inl (zv))], [], [], []), [zs = 1 + 2 ∧ zs ≤ 8]) := rfl
theorem mi_tab_kolB_6 : ∀ e ∈ ([(136, (3, 0, sb_136)), (16, (3, 0, sb_16)), (49, (2, 1, sb_49)), (72, (2, 2, sb_72)), (137, (1, 1, sb_137))] : mi_T), sc_P e.1 = some e.2 := mi_tb mi_P136 (mi_tb mi_P16 (mi_tb mi_P49 (mi_tb mi_P72 (mi_tb mi_P137 (mi_tb_e)))))
set_option maxRecDepth 20000 in
theorem ms_kolB_6 {h : sm_H} {d : Nat} {Q : Option mi_V → sm_H → Prop} {zp zv zs : Int} (hS : ab_Sh sx_sk h) (ok_zp : mi_in zp) (ok_zv : mi_in zv) (ok_zs : mi_in zs) (ho : (zs = 1 + 2 ∧ zs ≤ 8)) (kon : ∀ h1, me_W [] h h1 → Q none h1) : me_E (d + 4) 136 23 [some (.inr (.inr 108)), some (.inl (zp)), some (.inl (zv))] [.inl (zs)] h Q := mf_seg (mp_kolB_6 h d zp zv zs) (mi_tab_kolB_6) hS (mi_okL_c (trivial) (mi_okL_c (ok_zp) (mi_okL_c (ok_zv) (mi_okL_e)))) (mi_okS_cons (ok_zs) (mi_okS_e)) (mi_al (ho) (mi_al_e)) (fun h1 W _ hst => mf_ret (M := (3, 0, sb_136)) rfl rfl rfl hst (mi_al_e) (kon h1 W))
set_option maxRecDepth 20000 in
theorem mp_kolB_7 (h : sm_H) (d : Nat) (zp zv zs : Int) : mj_path [(136, (3, 0, sb_136)), (16, (3, 0, sb_16)), (49, (2, 1, sb_49)), (72, (2, 2, sb_72)), (137, (1, 1, sb_137))] sx_sk h 5 [3] (d + 4, 136, 23, [some (.inr (.inr 108)), some (.inl (zp)), some (.inl (zv))], [.inl (zs)], [], []) = some ((d + 4, 136, 164, [some (.inr (.inr 108)), some (.inl (zp)), some (.inl (zv))], [], [.inl (13834, (1 : Int))], []), [zs = 1 + 3 ∧ zs ≤ 8, 0 ≤ ((1 : Int)) ∧ ((1 : Int)) ≤ 1, 0 ≤ ((1 : Int)) ∧ ((1 : Int)) ≤ 1]) := rfl
theorem mi_tab_kolB_7 : ∀ e ∈ ([(136, (3, 0, sb_136)), (16, (3, 0, sb_16)), (49, (2, 1, sb_49)), (72, (2, 2, sb_72)), (137, (1, 1, sb_137))] : mi_T), sc_P e.1 = some e.2 := mi_tb mi_P136 (mi_tb mi_P16 (mi_tb mi_P49 (mi_tb mi_P72 (mi_tb mi_P137 (mi_tb_e)))))
set_option maxRecDepth 20000 in
theorem ms_kolB_7 {h : sm_H} {d : Nat} {Q : Option mi_V → sm_H → Prop} {zp zv zs : Int} (hS : ab_Sh sx_sk h) (ok_zp : mi_in zp) (ok_zv : mi_in zv) (ok_zs : mi_in zs) (ho : (zs = 1 + 3 ∧ zs ≤ 8) ∧ (0 ≤ ((1 : Int)) ∧ ((1 : Int)) ≤ 1) ∧ (0 ≤ ((1 : Int)) ∧ ((1 : Int)) ≤ 1)) (kon : ∀ h1, me_W [.inl (13834, (1 : Int))] h h1 → Q none h1) : me_E (d + 4) 136 23 [some (.inr (.inr 108)), some (.inl (zp)), some (.inl (zv))] [.inl (zs)] h Q := mf_seg (mp_kolB_7 h d zp zv zs) (mi_tab_kolB_7) hS (mi_okL_c (trivial) (mi_okL_c (ok_zp) (mi_okL_c (ok_zv) (mi_okL_e)))) (mi_okS_cons (ok_zs) (mi_okS_e)) (mi_al (ho.1) (mi_al (ho.2.1) (mi_al (ho.2.2) (mi_al_e)))) (fun h1 W _ hst => mf_ret (M := (3, 0, sb_136)) rfl rfl rfl hst (mi_al_e) (kon h1 W))
set_option maxRecDepth 20000 in
theorem mp_kolB_8 (h : sm_H) (d : Nat) (zp zv zs : Int) : mj_path [(136, (3, 0, sb_136)), (16, (3, 0, sb_16)), (49, (2, 1, sb_49)), (72, (2, 2, sb_72)), (137, (1, 1, sb_137))] sx_sk h 5 [4] (d + 4, 136, 23, [some (.inr (.inr 108)), some (.inl (zp)), some (.inl (zv))], [.inl (zs)], [], []) = some ((d + 4, 136, 164, [some (.inr (.inr 108)), some (.inl (zp)), some (.inl (zv))], [], [.inl (13833, (1 : Int))], []), [zs = 1 + 4 ∧ zs ≤ 8, 0 ≤ ((1 : Int)) ∧ ((1 : Int)) ≤ 1, 0 ≤ ((1 : Int)) ∧ ((1 : Int)) ≤ 1]) := rfl
theorem mi_tab_kolB_8 : ∀ e ∈ ([(136, (3, 0, sb_136)), (16, (3, 0, sb_16)), (49, (2, 1, sb_49)), (72, (2, 2, sb_72)), (137, (1, 1, sb_137))] : mi_T), sc_P e.1 = some e.2 := mi_tb mi_P136 (mi_tb mi_P16 (mi_tb mi_P49 (mi_tb mi_P72 (mi_tb mi_P137 (mi_tb_e)))))
set_option maxRecDepth 20000 in
theorem ms_kolB_8 {h : sm_H} {d : Nat} {Q : Option mi_V → sm_H → Prop} {zp zv zs : Int} (hS : ab_Sh sx_sk h) (ok_zp : mi_in zp) (ok_zv : mi_in zv) (ok_zs : mi_in zs) (ho : (zs = 1 + 4 ∧ zs ≤ 8) ∧ (0 ≤ ((1 : Int)) ∧ ((1 : Int)) ≤ 1) ∧ (0 ≤ ((1 : Int)) ∧ ((1 : Int)) ≤ 1)) (kon : ∀ h1, me_W [.inl (13833, (1 : Int))] h h1 → Q none h1) : me_E (d + 4) 136 23 [some (.inr (.inr 108)), some (.inl (zp)), some (.inl (zv))] [.inl (zs)] h Q := mf_seg (mp_kolB_8 h d zp zv zs) (mi_tab_kolB_8) hS (mi_okL_c (trivial) (mi_okL_c (ok_zp) (mi_okL_c (ok_zv) (mi_okL_e)))) (mi_okS_cons (ok_zs) (mi_okS_e)) (mi_al (ho.1) (mi_al (ho.2.1) (mi_al (ho.2.2) (mi_al_e)))) (fun h1 W _ hst => mf_ret (M := (3, 0, sb_136)) rfl rfl rfl hst (mi_al_e) (kon h1 W))
set_option maxRecDepth 20000 in
theorem mp_kolB_9 (h : sm_H) (d : Nat) (zp zv zs : Int) : mj_path [(136, (3, 0, sb_136)), (16, (3, 0, sb_16)), (49, (2, 1, sb_49)), (72, (2, 2, sb_72)), (137, (1, 1, sb_137))] sx_sk h 8 [5, 8] (d + 4, 136, 23, [some (.inr (.inr 108)), some (.inl (zp)), some (.inl (zv))], [.inl (zs)], [], []) = some ((d + 4, 136, 164, [some (.inr (.inr 108)), some (.inl (zp)), some (.inl (zv))], [], [.inl (13832, (mi_f h 13832) + ((1 : Int)))], []), [zs = 1 + 5 ∧ zs ≤ 8, -2147483648 ≤ (mi_f h 13832) + ((1 : Int)) ∧ (mi_f h 13832) + ((1 : Int)) ≤ 2147483647]) := rfl
theorem mi_tab_kolB_9 : ∀ e ∈ ([(136, (3, 0, sb_136)), (16, (3, 0, sb_16)), (49, (2, 1, sb_49)), (72, (2, 2, sb_72)), (137, (1, 1, sb_137))] : mi_T), sc_P e.1 = some e.2 := mi_tb mi_P136 (mi_tb mi_P16 (mi_tb mi_P49 (mi_tb mi_P72 (mi_tb mi_P137 (mi_tb_e)))))
set_option maxRecDepth 20000 in
theorem ms_kolB_9 {h : sm_H} {d : Nat} {Q : Option mi_V → sm_H → Prop} {zp zv zs : Int} (hS : ab_Sh sx_sk h) (ok_zp : mi_in zp) (ok_zv : mi_in zv) (ok_zs : mi_in zs) (ho : (zs = 1 + 5 ∧ zs ≤ 8) ∧ (-2147483648 ≤ (mi_f h 13832) + ((1 : Int)) ∧ (mi_f h 13832) + ((1 : Int)) ≤ 2147483647)) (kon : ∀ h1, me_W [.inl (13832, (mi_f h 13832) + ((1 : Int)))] h h1 → Q none h1) : me_E (d + 4) 136 23 [some (.inr (.inr 108)), some (.inl (zp)), some (.inl (zv))] [.inl (zs)] h Q := mf_seg (mp_kolB_9 h d zp zv zs) (mi_tab_kolB_9) hS (mi_okL_c (trivial) (mi_okL_c (ok_zp) (mi_okL_c (ok_zv) (mi_okL_e)))) (mi_okS_cons (ok_zs) (mi_okS_e)) (mi_al (ho.1) (mi_al (ho.2) (mi_al_e))) (fun h1 W _ hst => mf_ret (M := (3, 0, sb_136)) rfl rfl rfl hst (mi_al_e) (kon h1 W))
set_option maxRecDepth 20000 in
theorem mp_kolB_10 (h : sm_H) (d : Nat) (zp zv zs : Int) : mj_path [(136, (3, 0, sb_136)), (16, (3, 0, sb_16)), (49, (2, 1, sb_49)), (72, (2, 2, sb_72)), (137, (1, 1, sb_137))] sx_sk h 10 [6, 8, 1] (d + 4, 136, 23, [some (.inr (.inr 108)), some (.inl (zp)), some (.inl (zv))], [.inl (zs)], [], []) = some ((d + 4, 136, 164, [some (.inr (.inr 108)), some (.inl (zp)), some (.inl (zv))], [], [.inl (13832, (0 : Int))], []), [zs = 1 + 6 ∧ zs ≤ 8, -2147483648 ≤ (mi_f h 13832) - ((1 : Int)) ∧ (mi_f h 13832) - ((1 : Int)) ≤ 2147483647, ((mi_f h 13832) - ((1 : Int))) < ((0 : Int))]) := rfl
theorem mi_tab_kolB_10 : ∀ e ∈ ([(136, (3, 0, sb_136)), (16, (3, 0, sb_16)), (49, (2, 1, sb_49)), (72, (2, 2, sb_72)), (137, (1, 1, sb_137))] : mi_T), sc_P e.1 = some e.2 := mi_tb mi_P136 (mi_tb mi_P16 (mi_tb mi_P49 (mi_tb mi_P72 (mi_tb mi_P137 (mi_tb_e)))))
set_option maxRecDepth 20000 in
theorem ms_kolB_10 {h : sm_H} {d : Nat} {Q : Option mi_V → sm_H → Prop} {zp zv zs : Int} (hS : ab_Sh sx_sk h) (ok_zp : mi_in zp) (ok_zv : mi_in zv) (ok_zs : mi_in zs) (ho : (zs = 1 + 6 ∧ zs ≤ 8) ∧ (-2147483648 ≤ (mi_f h 13832) - ((1 : Int)) ∧ (mi_f h 13832) - ((1 : Int)) ≤ 2147483647) ∧ (((mi_f h 13832) - ((1 : Int))) < ((0 : Int)))) (kon : ∀ h1, me_W [.inl (13832, (0 : Int))] h h1 → Q none h1) : me_E (d + 4) 136 23 [some (.inr (.inr 108)), some (.inl (zp)), some (.inl (zv))] [.inl (zs)] h Q := mf_seg (mp_kolB_10 h d zp zv zs) (mi_tab_kolB_10) hS (mi_okL_c (trivial) (mi_okL_c (ok_zp) (mi_okL_c (ok_zv) (mi_okL_e)))) (mi_okS_cons (ok_zs) (mi_okS_e)) (mi_al (ho.1) (mi_al (ho.2.1) (mi_al (ho.2.2) (mi_al_e)))) (fun h1 W _ hst => mf_ret (M := (3, 0, sb_136)) rfl rfl rfl hst (mi_al_e) (kon h1 W))
set_option maxRecDepth 20000 in
theorem mp_kolB_11 (h : sm_H) (d : Nat) (zp zv zs : Int) : mj_path [(136, (3, 0, sb_136)), (16, (3, 0, sb_16)), (49, (2, 1, sb_49)), (72, (2, 2, sb_72)), (137, (1, 1, sb_137))] sx_sk h 10 [6, 8, 0] (d + 4, 136, 23, [some (.inr (.inr 108)), some (.inl (zp)), some (.inl (zv))], [.inl (zs)], [], []) = some ((d + 4, 136, 164, [some (.inr (.inr 108)), some (.inl (zp)), some (.inl (zv))], [], [.inl (13832, (mi_f h 13832) - ((1 : Int)))], []), [zs = 1 + 6 ∧ zs ≤ 8, -2147483648 ≤ (mi_f h 13832) - ((1 : Int)) ∧ (mi_f h 13832) - ((1 : Int)) ≤ 2147483647, ((0 : Int)) ≤ ((mi_f h 13832) - ((1 : Int)))]) := rfl
theorem mi_tab_kolB_11 : ∀ e ∈ ([(136, (3, 0, sb_136)), (16, (3, 0, sb_16)), (49, (2, 1, sb_49)), (72, (2, 2, sb_72)), (137, (1, 1, sb_137))] : mi_T), sc_P e.1 = some e.2 := mi_tb mi_P136 (mi_tb mi_P16 (mi_tb mi_P49 (mi_tb mi_P72 (mi_tb mi_P137 (mi_tb_e)))))
set_option maxRecDepth 20000 in
theorem ms_kolB_11 {h : sm_H} {d : Nat} {Q : Option mi_V → sm_H → Prop} {zp zv zs : Int} (hS : ab_Sh sx_sk h) (ok_zp : mi_in zp) (ok_zv : mi_in zv) (ok_zs : mi_in zs) (ho : (zs = 1 + 6 ∧ zs ≤ 8) ∧ (-2147483648 ≤ (mi_f h 13832) - ((1 : Int)) ∧ (mi_f h 13832) - ((1 : Int)) ≤ 2147483647) ∧ (((0 : Int)) ≤ ((mi_f h 13832) - ((1 : Int))))) (kon : ∀ h1, me_W [.inl (13832, (mi_f h 13832) - ((1 : Int)))] h h1 → Q none h1) : me_E (d + 4) 136 23 [some (.inr (.inr 108)), some (.inl (zp)), some (.inl (zv))] [.inl (zs)] h Q := mf_seg (mp_kolB_11 h d zp zv zs) (mi_tab_kolB_11) hS (mi_okL_c (trivial) (mi_okL_c (ok_zp) (mi_okL_c (ok_zv) (mi_okL_e)))) (mi_okS_cons (ok_zs) (mi_okS_e)) (mi_al (ho.1) (mi_al (ho.2.1) (mi_al (ho.2.2) (mi_al_e)))) (fun h1 W _ hst => mf_ret (M := (3, 0, sb_136)) rfl rfl rfl hst (mi_al_e) (kon h1 W))
set_option maxRecDepth 20000 in
theorem mp_kolB_12 (h : sm_H) (d : Nat) (zp zv zs : Int) : mj_path [(136, (3, 0, sb_136)), (16, (3, 0, sb_16)), (49, (2, 1, sb_49)), (72, (2, 2, sb_72)), (137, (1, 1, sb_137))] sx_sk h 11 [7, 1] (d + 4, 136, 23, [some (.inr (.inr 108)), some (.inl (zp)), some (.inl (zv))], [.inl (zs)], [], []) = some ((d + 4, 136, 112, [some (.inr (.inr 108)), some (.inl (zp)), some (.inl (zv))], [.inl ((0 : Int)), .inr (.inr 108)], [], []), [zs = 1 + 7 ∧ zs ≤ 8, zv < ((0 : Int))]) := rfl
theorem mi_tab_kolB_12 : ∀ e ∈ ([(136, (3, 0, sb_136)), (16, (3, 0, sb_16)), (49, (2, 1, sb_49)), (72, (2, 2, sb_72)), (137, (1, 1, sb_137))] : mi_T), sc_P e.1 = some e.2 := mi_tb mi_P136 (mi_tb mi_P16 (mi_tb mi_P49 (mi_tb mi_P72 (mi_tb mi_P137 (mi_tb_e)))))
set_option maxRecDepth 20000 in
theorem ms_kolB_12 {h : sm_H} {d : Nat} {Q : Option mi_V → sm_H → Prop} {zp zv zs : Int} (hS : ab_Sh sx_sk h) (ok_zp : mi_in zp) (ok_zv : mi_in zv) (ok_zs : mi_in zs) (ho : (zs = 1 + 7 ∧ zs ≤ 8) ∧ (zv < ((0 : Int)))) (kon : ∀ h1, me_W [] h h1 → ∃ Q1, me_E (d + 3) 141 0 (mi_entry 4 [.inr (.inr 108), .inl ((0 : Int))]) [] h1 Q1 ∧ ∀ w h2, (∀ x, w = some x → mi_ok x) → Q1 w h2 → me_E (d + 4) 136 115 [some (.inr (.inr 108)), some (.inl (zp)), some (.inl (zv))] (mi_back w []) h2 Q) : me_E (d + 4) 136 23 [some (.inr (.inr 108)), some (.inl (zp)), some (.inl (zv))] [.inl (zs)] h Q := mf_seg (mp_kolB_12 h d zp zv zs) (mi_tab_kolB_12) hS (mi_okL_c (trivial) (mi_okL_c (ok_zp) (mi_okL_c (ok_zv) (mi_okL_e)))) (mi_okS_cons (ok_zs) (mi_okS_e)) (mi_al (ho.1) (mi_al (ho.2) (mi_al_e))) (fun h1 W _ hst => let ⟨_, k1, k2⟩ := kon h1 W; mf_call (M := (3, 0, sb_136)) (M' := (4, 0, sb_141)) rfl rfl rfl rfl (Nat.le_of_ble_eq_true rfl) (Nat.le_of_ble_eq_true rfl) W.1 k1 k2)
set_option maxRecDepth 20000 in
theorem mp_kolB_13 (h : sm_H) (d : Nat) (zp zv zs : Int) : mj_path [(136, (3, 0, sb_136)), (16, (3, 0, sb_16)), (49, (2, 1, sb_49)), (72, (2, 2, sb_72)), (137, (1, 1, sb_137))] sx_sk h 15 [7, 0, 1] (d + 4, 136, 23, [some (.inr (.inr 108)), some (.inl (zp)), some (.inl (zv))], [.inl (zs)], [], []) = some ((d + 4, 136, 112, [some (.inr (.inr 108)), some (.inl (zp)), some (.inl (zv))], [.inl ((0 : Int)), .inr (.inr 108)], [], []), [zs = 1 + 7 ∧ zs ≤ 8, ((0 : Int)) ≤ zv, ((20 : Int)) ≤ zv]) := rfl
theorem mi_tab_kolB_13 : ∀ e ∈ ([(136, (3, 0, sb_136)), (16, (3, 0, sb_16)), (49, (2, 1, sb_49)), (72, (2, 2, sb_72)), (137, (1, 1, sb_137))] : mi_T), sc_P e.1 = some e.2 := mi_tb mi_P136 (mi_tb mi_P16 (mi_tb mi_P49 (mi_tb mi_P72 (mi_tb mi_P137 (mi_tb_e)))))
set_option maxRecDepth 20000 in
theorem ms_kolB_13 {h : sm_H} {d : Nat} {Q : Option mi_V → sm_H → Prop} {zp zv zs : Int} (hS : ab_Sh sx_sk h) (ok_zp : mi_in zp) (ok_zv : mi_in zv) (ok_zs : mi_in zs) (ho : (zs = 1 + 7 ∧ zs ≤ 8) ∧ (((0 : Int)) ≤ zv) ∧ (((20 : Int)) ≤ zv)) (kon : ∀ h1, me_W [] h h1 → ∃ Q1, me_E (d + 3) 141 0 (mi_entry 4 [.inr (.inr 108), .inl ((0 : Int))]) [] h1 Q1 ∧ ∀ w h2, (∀ x, w = some x → mi_ok x) → Q1 w h2 → me_E (d + 4) 136 115 [some (.inr (.inr 108)), some (.inl (zp)), some (.inl (zv))] (mi_back w []) h2 Q) : me_E (d + 4) 136 23 [some (.inr (.inr 108)), some (.inl (zp)), some (.inl (zv))] [.inl (zs)] h Q := mf_seg (mp_kolB_13 h d zp zv zs) (mi_tab_kolB_13) hS (mi_okL_c (trivial) (mi_okL_c (ok_zp) (mi_okL_c (ok_zv) (mi_okL_e)))) (mi_okS_cons (ok_zs) (mi_okS_e)) (mi_al (ho.1) (mi_al (ho.2.1) (mi_al (ho.2.2) (mi_al_e)))) (fun h1 W _ hst => let ⟨_, k1, k2⟩ := kon h1 W; mf_call (M := (3, 0, sb_136)) (M' := (4, 0, sb_141)) rfl rfl rfl rfl (Nat.le_of_ble_eq_true rfl) (Nat.le_of_ble_eq_true rfl) W.1 k1 k2)
set_option maxRecDepth 20000 in
theorem mp_kolB_14 (h : sm_H) (d : Nat) (zp zv zs : Int) : mj_path [(136, (3, 0, sb_136)), (16, (3, 0, sb_16)), (49, (2, 1, sb_49)), (72, (2, 2, sb_72)), (137, (1, 1, sb_137))] sx_sk h 18 [7, 0, 0] (d + 4, 136, 23, [some (.inr (.inr 108)), some (.inl (zp)), some (.inl (zv))], [.inl (zs)], [], []) = some ((d + 4, 136, 112, [some (.inr (.inr 108)), some (.inl (zp)), some (.inl (zv))], [.inl (mi_a h 75 (Int.toNat zv)), .inr (.inr 108)], [], []), [zs = 1 + 7 ∧ zs ≤ 8, ((0 : Int)) ≤ zv, zv < ((20 : Int)), 0 ≤ zv ∧ zv < 20]) := rfl
theorem mi_tab_kolB_14 : ∀ e ∈ ([(136, (3, 0, sb_136)), (16, (3, 0, sb_16)), (49, (2, 1, sb_49)), (72, (2, 2, sb_72)), (137, (1, 1, sb_137))] : mi_T), sc_P e.1 = some e.2 := mi_tb mi_P136 (mi_tb mi_P16 (mi_tb mi_P49 (mi_tb mi_P72 (mi_tb mi_P137 (mi_tb_e)))))
set_option maxRecDepth 20000 in
theorem ms_kolB_14 {h : sm_H} {d : Nat} {Q : Option mi_V → sm_H → Prop} {zp zv zs : Int} (hS : ab_Sh sx_sk h) (ok_zp : mi_in zp) (ok_zv : mi_in zv) (ok_zs : mi_in zs) (ho : (zs = 1 + 7 ∧ zs ≤ 8) ∧ (((0 : Int)) ≤ zv) ∧ (zv < ((20 : Int))) ∧ (0 ≤ zv ∧ zv < 20)) (kon : ∀ h1, me_W [] h h1 → ∃ Q1, me_E (d + 3) 141 0 (mi_entry 4 [.inr (.inr 108), .inl (mi_a h 75 (Int.toNat zv))]) [] h1 Q1 ∧ ∀ w h2, (∀ x, w = some x → mi_ok x) → Q1 w h2 → me_E (d + 4) 136 115 [some (.inr (.inr 108)), some (.inl (zp)), some (.inl (zv))] (mi_back w []) h2 Q) : me_E (d + 4) 136 23 [some (.inr (.inr 108)), some (.inl (zp)), some (.inl (zv))] [.inl (zs)] h Q := mf_seg (mp_kolB_14 h d zp zv zs) (mi_tab_kolB_14) hS (mi_okL_c (trivial) (mi_okL_c (ok_zp) (mi_okL_c (ok_zv) (mi_okL_e)))) (mi_okS_cons (ok_zs) (mi_okS_e)) (mi_al (ho.1) (mi_al (ho.2.1) (mi_al (ho.2.2.1) (mi_al (ho.2.2.2) (mi_al_e))))) (fun h1 W _ hst => let ⟨_, k1, k2⟩ := kon h1 W; mf_call (M := (3, 0, sb_136)) (M' := (4, 0, sb_141)) rfl rfl rfl rfl (Nat.le_of_ble_eq_true rfl) (Nat.le_of_ble_eq_true rfl) W.1 k1 k2)
set_option maxRecDepth 20000 in
theorem mp_kolB_15 (h : sm_H) (d : Nat) (zp zv zs : Int) : mj_path [(136, (3, 0, sb_136)), (16, (3, 0, sb_16)), (49, (2, 1, sb_49)), (72, (2, 2, sb_72)), (137, (1, 1, sb_137))] sx_sk h 1 [1000] (d + 4, 136, 23, [some (.inr (.inr 108)), some (.inl (zp)), some (.inl (zv))], [.inl (zs)], [], []) = some ((d + 4, 136, 164, [some (.inr (.inr 108)), some (.inl (zp)), some (.inl (zv))], [], [], []), [zs < 1 ∨ 8 < zs]) := rfl
theorem mi_tab_kolB_15 : ∀ e ∈ ([(136, (3, 0, sb_136)), (16, (3, 0, sb_16)), (49, (2, 1, sb_49)), (72, (2, 2, sb_72)), (137, (1, 1, sb_137))] : mi_T), sc_P e.1 = some e.2 := mi_tb mi_P136 (mi_tb mi_P16 (mi_tb mi_P49 (mi_tb mi_P72 (mi_tb mi_P137 (mi_tb_e)))))
set_option maxRecDepth 20000 in
theorem ms_kolB_15 {h : sm_H} {d : Nat} {Q : Option mi_V → sm_H → Prop} {zp zv zs : Int} (hS : ab_Sh sx_sk h) (ok_zp : mi_in zp) (ok_zv : mi_in zv) (ok_zs : mi_in zs) (ho : (zs < 1 ∨ 8 < zs)) (kon : ∀ h1, me_W [] h h1 → Q none h1) : me_E (d + 4) 136 23 [some (.inr (.inr 108)), some (.inl (zp)), some (.inl (zv))] [.inl (zs)] h Q := mf_seg (mp_kolB_15 h d zp zv zs) (mi_tab_kolB_15) hS (mi_okL_c (trivial) (mi_okL_c (ok_zp) (mi_okL_c (ok_zv) (mi_okL_e)))) (mi_okS_cons (ok_zs) (mi_okS_e)) (mi_al (ho) (mi_al_e)) (fun h1 W _ hst => mf_ret (M := (3, 0, sb_136)) rfl rfl rfl hst (mi_al_e) (kon h1 W))
set_option maxRecDepth 20000 in
theorem mt_kolB {h : sm_H} {d : Nat} {Q : Option mi_V → sm_H → Prop} {zp zv zs : Int} (hS : ab_Sh sx_sk h) (ok_zp : mi_in zp) (ok_zv : mi_in zv) (ok_zs : mi_in zs) (k0 : ((-2147483648) ≤ mi_f h 13831 ∧ mi_f h 13831 ≤ 2147483647) → (zs = 1 + 0 ∧ zs ≤ 8) → ((((mi_f h 13831) + ((1 : Int))) - ((1 : Int))) < ((0 : Int))) → ((-2147483648 ≤ (mi_f h 13831) + ((1 : Int)) ∧ (mi_f h 13831) + ((1 : Int)) ≤ 2147483647) ∧ (-2147483648 ≤ ((mi_f h 13831) + ((1 : Int))) - ((1 : Int)) ∧ ((mi_f h 13831) + ((1 : Int))) - ((1 : Int)) ≤ 2147483647) ∧ (-2147483648 ≤ ((0 : Int)) - zv ∧ ((0 : Int)) - zv ≤ 2147483647) ∧ (-2147483648 ≤ (((0 : Int)) - zv) + ((10000 : Int)) ∧ (((0 : Int)) - zv) + ((10000 : Int)) ≤ 2147483647)) ∧ (∀ h1, ab_Sh sx_sk h1 → mi_f h1 13831 = (mi_f h 13831) + ((1 : Int)) → ab_Fr [(13831, 13832)] h h1 → ∃ Q1, me_E (d + 3) 138 0 (mi_entry 3 [.inr (.inr 108), .inl ((Int32.ofInt ((((0 : Int)) - zv) + ((10000 : Int))) - Int32.ofInt ((((0 : Int)) - zv) + ((10000 : Int))) / Int32.ofInt ((10000 : Int)) * Int32.ofInt ((10000 : Int))).toInt)]) [] h1 Q1 ∧ ∀ w h2, (∀ x, w = some x → mi_ok x) → Q1 w h2 → me_E (d + 4) 136 86 [some (.inr (.inr 108)), some (.inl (zp)), some (.inl (zv))] (mi_back w []) h2 Q)) (k1 : ((-2147483648) ≤ mi_f h 13831 ∧ mi_f h 13831 ≤ 2147483647) → (zs = 1 + 0 ∧ zs ≤ 8) → (((0 : Int)) ≤ (((mi_f h 13831) + ((1 : Int))) - ((1 : Int)))) → (((100 : Int)) ≤ (((mi_f h 13831) + ((1 : Int))) - ((1 : Int)))) → ((-2147483648 ≤ (mi_f h 13831) + ((1 : Int)) ∧ (mi_f h 13831) + ((1 : Int)) ≤ 2147483647) ∧ (-2147483648 ≤ ((mi_f h 13831) + ((1 : Int))) - ((1 : Int)) ∧ ((mi_f h 13831) + ((1 : Int))) - ((1 : Int)) ≤ 2147483647) ∧ (-2147483648 ≤ ((0 : Int)) - zv ∧ ((0 : Int)) - zv ≤ 2147483647) ∧ (-2147483648 ≤ (((0 : Int)) - zv) + ((10000 : Int)) ∧ (((0 : Int)) - zv) + ((10000 : Int)) ≤ 2147483647)) ∧ (∀ h1, ab_Sh sx_sk h1 → mi_f h1 13831 = (mi_f h 13831) + ((1 : Int)) → ab_Fr [(13831, 13832)] h h1 → ∃ Q1, me_E (d + 3) 138 0 (mi_entry 3 [.inr (.inr 108), .inl ((Int32.ofInt ((((0 : Int)) - zv) + ((10000 : Int))) - Int32.ofInt ((((0 : Int)) - zv) + ((10000 : Int))) / Int32.ofInt ((10000 : Int)) * Int32.ofInt ((10000 : Int))).toInt)]) [] h1 Q1 ∧ ∀ w h2, (∀ x, w = some x → mi_ok x) → Q1 w h2 → me_E (d + 4) 136 86 [some (.inr (.inr 108)), some (.inl (zp)), some (.inl (zv))] (mi_back w []) h2 Q)) (k2 : ((-2147483648) ≤ mi_f h 13831 ∧ mi_f h 13831 ≤ 2147483647) → (zs = 1 + 0 ∧ zs ≤ 8) → (((0 : Int)) ≤ (((mi_f h 13831) + ((1 : Int))) - ((1 : Int)))) → ((((mi_f h 13831) + ((1 : Int))) - ((1 : Int))) < ((100 : Int))) → ((-2147483648 ≤ (mi_f h 13831) + ((1 : Int)) ∧ (mi_f h 13831) + ((1 : Int)) ≤ 2147483647) ∧ (-2147483648 ≤ ((mi_f h 13831) + ((1 : Int))) - ((1 : Int)) ∧ ((mi_f h 13831) + ((1 : Int))) - ((1 : Int)) ≤ 2147483647) ∧ (0 ≤ (((mi_f h 13831) + ((1 : Int))) - ((1 : Int))) ∧ (((mi_f h 13831) + ((1 : Int))) - ((1 : Int))) < 100) ∧ (-2147483648 ≤ (mi_a h 96 (Int.toNat (((mi_f h 13831) + ((1 : Int))) - ((1 : Int))))) - zv ∧ (mi_a h 96 (Int.toNat (((mi_f h 13831) + ((1 : Int))) - ((1 : Int))))) - zv ≤ 2147483647) ∧ (-2147483648 ≤ ((mi_a h 96 (Int.toNat (((mi_f h 13831) + ((1 : Int))) - ((1 : Int))))) - zv) + ((10000 : Int)) ∧ ((mi_a h 96 (Int.toNat (((mi_f h 13831) + ((1 : Int))) - ((1 : Int))))) - zv) + ((10000 : Int)) ≤ 2147483647)) ∧ (∀ h1, ab_Sh sx_sk h1 → mi_f h1 13831 = (mi_f h 13831) + ((1 : Int)) → ab_Fr [(13831, 13832)] h h1 → ∃ Q1, me_E (d + 3) 138 0 (mi_entry 3 [.inr (.inr 108), .inl ((Int32.ofInt (((mi_a h 96 (Int.toNat (((mi_f h 13831) + ((1 : Int))) - ((1 : Int))))) - zv) + ((10000 : Int))) - Int32.ofInt (((mi_a h 96 (Int.toNat (((mi_f h 13831) + ((1 : Int))) - ((1 : Int))))) - zv) + ((10000 : Int))) / Int32.ofInt ((10000 : Int)) * Int32.ofInt ((10000 : Int))).toInt)]) [] h1 Q1 ∧ ∀ w h2, (∀ x, w = some x → mi_ok x) → Q1 w h2 → me_E (d + 4) 136 86 [some (.inr (.inr 108)), some (.inl (zp)), some (.inl (zv))] (mi_back w []) h2 Q)) (k3 : ((-2147483648) ≤ mi_f h 13831 ∧ mi_f h 13831 ≤ 2147483647) → (zs = 1 + 1 ∧ zs ≤ 8) → ((((mi_f h 13831) + ((1 : Int))) - ((1 : Int))) < ((0 : Int))) → ((-2147483648 ≤ (mi_f h 13831) + ((1 : Int)) ∧ (mi_f h 13831) + ((1 : Int)) ≤ 2147483647) ∧ (-2147483648 ≤ ((mi_f h 13831) + ((1 : Int))) - ((1 : Int)) ∧ ((mi_f h 13831) + ((1 : Int))) - ((1 : Int)) ≤ 2147483647)) ∧ (∀ h1, ab_Sh sx_sk h1 → mi_f h1 13831 = (mi_f h 13831) + ((1 : Int)) → ab_Fr [(13831, 13832)] h h1 → ∃ Q1, me_E (d + 3) 141 0 (mi_entry 4 [.inr (.inr 108), .inl ((0 : Int))]) [] h1 Q1 ∧ ∀ w h2, (∀ x, w = some x → mi_ok x) → Q1 w h2 → me_E (d + 4) 136 97 [some (.inr (.inr 108)), some (.inl (zp)), some (.inl (zv))] (mi_back w []) h2 Q)) (k4 : ((-2147483648) ≤ mi_f h 13831 ∧ mi_f h 13831 ≤ 2147483647) → (zs = 1 + 1 ∧ zs ≤ 8) → (((0 : Int)) ≤ (((mi_f h 13831) + ((1 : Int))) - ((1 : Int)))) → (((100 : Int)) ≤ (((mi_f h 13831) + ((1 : Int))) - ((1 : Int)))) → ((-2147483648 ≤ (mi_f h 13831) + ((1 : Int)) ∧ (mi_f h 13831) + ((1 : Int)) ≤ 2147483647) ∧ (-2147483648 ≤ ((mi_f h 13831) + ((1 : Int))) - ((1 : Int)) ∧ ((mi_f h 13831) + ((1 : Int))) - ((1 : Int)) ≤ 2147483647)) ∧ (∀ h1, ab_Sh sx_sk h1 → mi_f h1 13831 = (mi_f h 13831) + ((1 : Int)) → ab_Fr [(13831, 13832)] h h1 → ∃ Q1, me_E (d + 3) 141 0 (mi_entry 4 [.inr (.inr 108), .inl ((0 : Int))]) [] h1 Q1 ∧ ∀ w h2, (∀ x, w = some x → mi_ok x) → Q1 w h2 → me_E (d + 4) 136 97 [some (.inr (.inr 108)), some (.inl (zp)), some (.inl (zv))] (mi_back w []) h2 Q)) (k5 : ((-2147483648) ≤ mi_f h 13831 ∧ mi_f h 13831 ≤ 2147483647) → (zs = 1 + 1 ∧ zs ≤ 8) → (((0 : Int)) ≤ (((mi_f h 13831) + ((1 : Int))) - ((1 : Int)))) → ((((mi_f h 13831) + ((1 : Int))) - ((1 : Int))) < ((100 : Int))) → ((-2147483648 ≤ (mi_f h 13831) + ((1 : Int)) ∧ (mi_f h 13831) + ((1 : Int)) ≤ 2147483647) ∧ (-2147483648 ≤ ((mi_f h 13831) + ((1 : Int))) - ((1 : Int)) ∧ ((mi_f h 13831) + ((1 : Int))) - ((1 : Int)) ≤ 2147483647) ∧ (0 ≤ (((mi_f h 13831) + ((1 : Int))) - ((1 : Int))) ∧ (((mi_f h 13831) + ((1 : Int))) - ((1 : Int))) < 100)) ∧ (∀ h1, ab_Sh sx_sk h1 → mi_f h1 13831 = (mi_f h 13831) + ((1 : Int)) → ab_Fr [(13831, 13832)] h h1 → ∃ Q1, me_E (d + 3) 141 0 (mi_entry 4 [.inr (.inr 108), .inl (mi_a h 96 (Int.toNat (((mi_f h 13831) + ((1 : Int))) - ((1 : Int)))))]) [] h1 Q1 ∧ ∀ w h2, (∀ x, w = some x → mi_ok x) → Q1 w h2 → me_E (d + 4) 136 97 [some (.inr (.inr 108)), some (.inl (zp)), some (.inl (zv))] (mi_back w []) h2 Q)) (k6 : (zs = 1 + 2 ∧ zs ≤ 8) → (∀ h1, ab_Sh sx_sk h1 → ab_Fr [] h h1 → Q none h1)) (k7 : (zs = 1 + 3 ∧ zs ≤ 8) → (∀ h1, ab_Sh sx_sk h1 → mi_f h1 13834 = (1 : Int) → ab_Fr [(13834, 13835)] h h1 → Q none h1)) (k8 : (zs = 1 + 4 ∧ zs ≤ 8) → (∀ h1, ab_Sh sx_sk h1 → mi_f h1 13833 = (1 : Int) → ab_Fr [(13833, 13834)] h h1 → Q none h1)) (k9 : ((-2147483648) ≤ mi_f h 13832 ∧ mi_f h 13832 ≤ 2147483647) → (zs = 1 + 5 ∧ zs ≤ 8) → ((-2147483648 ≤ (mi_f h 13832) + ((1 : Int)) ∧ (mi_f h 13832) + ((1 : Int)) ≤ 2147483647)) ∧ (∀ h1, ab_Sh sx_sk h1 → mi_f h1 13832 = (mi_f h 13832) + ((1 : Int)) → ab_Fr [(13832, 13833)] h h1 → Q none h1)) (k10 : ((-2147483648) ≤ mi_f h 13832 ∧ mi_f h 13832 ≤ 2147483647) → (zs = 1 + 6 ∧ zs ≤ 8) → (((mi_f h 13832) - ((1 : Int))) < ((0 : Int))) → ((-2147483648 ≤ (mi_f h 13832) - ((1 : Int)) ∧ (mi_f h 13832) - ((1 : Int)) ≤ 2147483647)) ∧ (∀ h1, ab_Sh sx_sk h1 → mi_f h1 13832 = (0 : Int) → ab_Fr [(13832, 13833)] h h1 → Q none h1)) (k11 : ((-2147483648) ≤ mi_f h 13832 ∧ mi_f h 13832 ≤ 2147483647) → (zs = 1 + 6 ∧ zs ≤ 8) → (((0 : Int)) ≤ ((mi_f h 13832) - ((1 : Int)))) → ((-2147483648 ≤ (mi_f h 13832) - ((1 : Int)) ∧ (mi_f h 13832) - ((1 : Int)) ≤ 2147483647)) ∧ (∀ h1, ab_Sh sx_sk h1 → mi_f h1 13832 = (mi_f h 13832) - ((1 : Int)) → ab_Fr [(13832, 13833)] h h1 → Q none h1)) (k12 : (zs = 1 + 7 ∧ zs ≤ 8) → (zv < ((0 : Int))) → (∀ h1, ab_Sh sx_sk h1 → ab_Fr [] h h1 → ∃ Q1, me_E (d + 3) 141 0 (mi_entry 4 [.inr (.inr 108), .inl ((0 : Int))]) [] h1 Q1 ∧ ∀ w h2, (∀ x, w = some x → mi_ok x) → Q1 w h2 → me_E (d + 4) 136 115 [some (.inr (.inr 108)), some (.inl (zp)), some (.inl (zv))] (mi_back w []) h2 Q)) (k13 : (zs = 1 + 7 ∧ zs ≤ 8) → (((0 : Int)) ≤ zv) → (((20 : Int)) ≤ zv) → (∀ h1, ab_Sh sx_sk h1 → ab_Fr [] h h1 → ∃ Q1, me_E (d + 3) 141 0 (mi_entry 4 [.inr (.inr 108), .inl ((0 : Int))]) [] h1 Q1 ∧ ∀ w h2, (∀ x, w = some x → mi_ok x) → Q1 w h2 → me_E (d + 4) 136 115 [some (.inr (.inr 108)), some (.inl (zp)), some (.inl (zv))] (mi_back w []) h2 Q)) (k14 : (zs = 1 + 7 ∧ zs ≤ 8) → (((0 : Int)) ≤ zv) → (zv < ((20 : Int))) → ((0 ≤ zv ∧ zv < 20)) ∧ (∀ h1, ab_Sh sx_sk h1 → ab_Fr [] h h1 → ∃ Q1, me_E (d + 3) 141 0 (mi_entry 4 [.inr (.inr 108), .inl (mi_a h 75 (Int.toNat zv))]) [] h1 Q1 ∧ ∀ w h2, (∀ x, w = some x → mi_ok x) → Q1 w h2 → me_E (d + 4) 136 115 [some (.inr (.inr 108)), some (.inl (zp)), some (.inl (zv))] (mi_back w []) h2 Q)) (k15 : (zs < 1 ∨ 8 < zs) → (∀ h1, ab_Sh sx_sk h1 → ab_Fr [] h h1 → Q none h1)) : me_E (d + 4) 136 23 [some (.inr (.inr 108)), some (.inl (zp)), some (.inl (zv))] [.inl (zs)] h Q := (by
  by_cases z0 : zs < 1 ∨ 8 < zs
  · exact ms_kolB_15 hS ok_zp ok_zv ok_zs (z0) (fun h1 W => (k15 z0) h1 W.1 (W.2.2.2.2.2 _ rfl))
  by_cases e0_0 : zs = 1 + 0
  · have s0_0 : zs = 1 + 0 ∧ zs ≤ 8 := ⟨e0_0, by omega⟩
    exact Or.elim (mi_em .lt ((((mi_f h 13831) + ((1 : Int))) - ((1 : Int)))) (((0 : Int)))) (fun c1 => ms_kolB_0 hS ok_zp ok_zv ok_zs ⟨s0_0, (k0 (me_fb hS rfl) s0_0 c1).1.1, (k0 (me_fb hS rfl) s0_0 c1).1.2.1, c1, (k0 (me_fb hS rfl) s0_0 c1).1.2.2.1, (k0 (me_fb hS rfl) s0_0 c1).1.2.2.2, (by decide)⟩ (fun h1 W => (k0 (me_fb hS rfl) s0_0 c1).2 h1 W.1 (W.2.1 13831) (W.2.2.2.2.2 _ rfl))) (fun c1 => Or.elim (mi_em .ge ((((mi_f h 13831) + ((1 : Int))) - ((1 : Int)))) (((100 : Int)))) (fun c2 => ms_kolB_1 hS ok_zp ok_zv ok_zs ⟨s0_0, (k1 (me_fb hS rfl) s0_0 c1 c2).1.1, (k1 (me_fb hS rfl) s0_0 c1 c2).1.2.1, c1, c2, (k1 (me_fb hS rfl) s0_0 c1 c2).1.2.2.1, (k1 (me_fb hS rfl) s0_0 c1 c2).1.2.2.2, (by decide)⟩ (fun h1 W => (k1 (me_fb hS rfl) s0_0 c1 c2).2 h1 W.1 (W.2.1 13831) (W.2.2.2.2.2 _ rfl))) (fun c2 => ms_kolB_2 hS ok_zp ok_zv ok_zs ⟨s0_0, (k2 (me_fb hS rfl) s0_0 c1 c2).1.1, (k2 (me_fb hS rfl) s0_0 c1 c2).1.2.1, c1, c2, (k2 (me_fb hS rfl) s0_0 c1 c2).1.2.2.1, (k2 (me_fb hS rfl) s0_0 c1 c2).1.2.2.2.1, (k2 (me_fb hS rfl) s0_0 c1 c2).1.2.2.2.2, (by decide)⟩ (fun h1 W => (k2 (me_fb hS rfl) s0_0 c1 c2).2 h1 W.1 (W.2.1 13831) (W.2.2.2.2.2 _ rfl))))
  by_cases e0_1 : zs = 1 + 1
  · have s0_1 : zs = 1 + 1 ∧ zs ≤ 8 := ⟨e0_1, by omega⟩
    exact Or.elim (mi_em .lt ((((mi_f h 13831) + ((1 : Int))) - ((1 : Int)))) (((0 : Int)))) (fun c1 => ms_kolB_3 hS ok_zp ok_zv ok_zs ⟨s0_1, (k3 (me_fb hS rfl) s0_1 c1).1.1, (k3 (me_fb hS rfl) s0_1 c1).1.2, c1⟩ (fun h1 W => (k3 (me_fb hS rfl) s0_1 c1).2 h1 W.1 (W.2.1 13831) (W.2.2.2.2.2 _ rfl))) (fun c1 => Or.elim (mi_em .ge ((((mi_f h 13831) + ((1 : Int))) - ((1 : Int)))) (((100 : Int)))) (fun c2 => ms_kolB_4 hS ok_zp ok_zv ok_zs ⟨s0_1, (k4 (me_fb hS rfl) s0_1 c1 c2).1.1, (k4 (me_fb hS rfl) s0_1 c1 c2).1.2, c1, c2⟩ (fun h1 W => (k4 (me_fb hS rfl) s0_1 c1 c2).2 h1 W.1 (W.2.1 13831) (W.2.2.2.2.2 _ rfl))) (fun c2 => ms_kolB_5 hS ok_zp ok_zv ok_zs ⟨s0_1, (k5 (me_fb hS rfl) s0_1 c1 c2).1.1, (k5 (me_fb hS rfl) s0_1 c1 c2).1.2.1, c1, c2, (k5 (me_fb hS rfl) s0_1 c1 c2).1.2.2⟩ (fun h1 W => (k5 (me_fb hS rfl) s0_1 c1 c2).2 h1 W.1 (W.2.1 13831) (W.2.2.2.2.2 _ rfl))))
  by_cases e0_2 : zs = 1 + 2
  · have s0_2 : zs = 1 + 2 ∧ zs ≤ 8 := ⟨e0_2, by omega⟩
    exact ms_kolB_6 hS ok_zp ok_zv ok_zs (s0_2) (fun h1 W => (k6 s0_2) h1 W.1 (W.2.2.2.2.2 _ rfl))
  by_cases e0_3 : zs = 1 + 3
  · have s0_3 : zs = 1 + 3 ∧ zs ≤ 8 := ⟨e0_3, by omega⟩
    exact ms_kolB_7 hS ok_zp ok_zv ok_zs ⟨s0_3, (by decide), (by decide)⟩ (fun h1 W => (k7 s0_3) h1 W.1 (W.2.1 13834) (W.2.2.2.2.2 _ rfl))
  by_cases e0_4 : zs = 1 + 4
  · have s0_4 : zs = 1 + 4 ∧ zs ≤ 8 := ⟨e0_4, by omega⟩
    exact ms_kolB_8 hS ok_zp ok_zv ok_zs ⟨s0_4, (by decide), (by decide)⟩ (fun h1 W => (k8 s0_4) h1 W.1 (W.2.1 13833) (W.2.2.2.2.2 _ rfl))
  by_cases e0_5 : zs = 1 + 5
  · have s0_5 : zs = 1 + 5 ∧ zs ≤ 8 := ⟨e0_5, by omega⟩
    exact ms_kolB_9 hS ok_zp ok_zv ok_zs ⟨s0_5, (k9 (me_fb hS rfl) s0_5).1⟩ (fun h1 W => (k9 (me_fb hS rfl) s0_5).2 h1 W.1 (W.2.1 13832) (W.2.2.2.2.2 _ rfl))
  by_cases e0_6 : zs = 1 + 6
  · have s0_6 : zs = 1 + 6 ∧ zs ≤ 8 := ⟨e0_6, by omega⟩
    exact Or.elim (mi_em .lt (((mi_f h 13832) - ((1 : Int)))) (((0 : Int)))) (fun c1 => ms_kolB_10 hS ok_zp ok_zv ok_zs ⟨s0_6, (k10 (me_fb hS rfl) s0_6 c1).1, c1⟩ (fun h1 W => (k10 (me_fb hS rfl) s0_6 c1).2 h1 W.1 (W.2.1 13832) (W.2.2.2.2.2 _ rfl))) (fun c1 => ms_kolB_11 hS ok_zp ok_zv ok_zs ⟨s0_6, (k11 (me_fb hS rfl) s0_6 c1).1, c1⟩ (fun h1 W => (k11 (me_fb hS rfl) s0_6 c1).2 h1 W.1 (W.2.1 13832) (W.2.2.2.2.2 _ rfl)))
  by_cases e0_7 : zs = 1 + 7
  · have s0_7 : zs = 1 + 7 ∧ zs ≤ 8 := ⟨e0_7, by omega⟩
    exact Or.elim (mi_em .lt (zv) (((0 : Int)))) (fun c1 => ms_kolB_12 hS ok_zp ok_zv ok_zs ⟨s0_7, c1⟩ (fun h1 W => (k12 s0_7 c1) h1 W.1 (W.2.2.2.2.2 _ rfl))) (fun c1 => Or.elim (mi_em .ge (zv) (((20 : Int)))) (fun c2 => ms_kolB_13 hS ok_zp ok_zv ok_zs ⟨s0_7, c1, c2⟩ (fun h1 W => (k13 s0_7 c1 c2) h1 W.1 (W.2.2.2.2.2 _ rfl))) (fun c2 => ms_kolB_14 hS ok_zp ok_zv ok_zs ⟨s0_7, c1, c2, (k14 s0_7 c1 c2).1⟩ (fun h1 W => (k14 s0_7 c1 c2).2 h1 W.1 (W.2.2.2.2.2 _ rfl))))
  omega)
set_option maxRecDepth 20000 in
theorem mp_kolC_0 (h : sm_H) (d : Nat) (zp zv : Int) : mj_path [(136, (3, 0, sb_136))] sx_sk h 1 [] (d + 4, 136, 86, [some (.inr (.inr 108)), some (.inl (zp)), some (.inl (zv))], [], [], []) = some ((d + 4, 136, 164, [some (.inr (.inr 108)), some (.inl (zp)), some (.inl (zv))], [], [], []), []) := rfl
theorem mi_tab_kolC_0 : ∀ e ∈ ([(136, (3, 0, sb_136))] : mi_T), sc_P e.1 = some e.2 := mi_tb mi_P136 (mi_tb_e)
set_option maxRecDepth 20000 in
theorem ms_kolC_0 {h : sm_H} {d : Nat} {Q : Option mi_V → sm_H → Prop} {zp zv : Int} (hS : ab_Sh sx_sk h) (ok_zp : mi_in zp) (ok_zv : mi_in zv) (kon : ∀ h1, me_W [] h h1 → Q none h1) : me_E (d + 4) 136 86 [some (.inr (.inr 108)), some (.inl (zp)), some (.inl (zv))] [] h Q := mf_seg (mp_kolC_0 h d zp zv) (mi_tab_kolC_0) hS (mi_okL_c (trivial) (mi_okL_c (ok_zp) (mi_okL_c (ok_zv) (mi_okL_e)))) (mi_okS_e) (mi_al_e) (fun h1 W _ hst => mf_ret (M := (3, 0, sb_136)) rfl rfl rfl hst (mi_al_e) (kon h1 W))
set_option maxRecDepth 20000 in
theorem mt_kolC {h : sm_H} {d : Nat} {Q : Option mi_V → sm_H → Prop} {zp zv : Int} (hS : ab_Sh sx_sk h) (ok_zp : mi_in zp) (ok_zv : mi_in zv) (k0 : (∀ h1, ab_Sh sx_sk h1 → ab_Fr [] h h1 → Q none h1)) : me_E (d + 4) 136 86 [some (.inr (.inr 108)), some (.inl (zp)), some (.inl (zv))] [] h Q := ms_kolC_0 hS ok_zp ok_zv (fun h1 W => (k0) h1 W.1 (W.2.2.2.2.2 _ rfl))
set_option maxRecDepth 20000 in
theorem mp_kolD_0 (h : sm_H) (d : Nat) (zp zv : Int) : mj_path [(136, (3, 0, sb_136))] sx_sk h 1 [] (d + 4, 136, 97, [some (.inr (.inr 108)), some (.inl (zp)), some (.inl (zv))], [], [], []) = some ((d + 4, 136, 164, [some (.inr (.inr 108)), some (.inl (zp)), some (.inl (zv))], [], [], []), []) := rfl
theorem mi_tab_kolD_0 : ∀ e ∈ ([(136, (3, 0, sb_136))] : mi_T), sc_P e.1 = some e.2 := mi_tb mi_P136 (mi_tb_e)
set_option maxRecDepth 20000 in
theorem ms_kolD_0 {h : sm_H} {d : Nat} {Q : Option mi_V → sm_H → Prop} {zp zv : Int} (hS : ab_Sh sx_sk h) (ok_zp : mi_in zp) (ok_zv : mi_in zv) (kon : ∀ h1, me_W [] h h1 → Q none h1) : me_E (d + 4) 136 97 [some (.inr (.inr 108)), some (.inl (zp)), some (.inl (zv))] [] h Q := mf_seg (mp_kolD_0 h d zp zv) (mi_tab_kolD_0) hS (mi_okL_c (trivial) (mi_okL_c (ok_zp) (mi_okL_c (ok_zv) (mi_okL_e)))) (mi_okS_e) (mi_al_e) (fun h1 W _ hst => mf_ret (M := (3, 0, sb_136)) rfl rfl rfl hst (mi_al_e) (kon h1 W))
set_option maxRecDepth 20000 in
theorem mt_kolD {h : sm_H} {d : Nat} {Q : Option mi_V → sm_H → Prop} {zp zv : Int} (hS : ab_Sh sx_sk h) (ok_zp : mi_in zp) (ok_zv : mi_in zv) (k0 : (∀ h1, ab_Sh sx_sk h1 → ab_Fr [] h h1 → Q none h1)) : me_E (d + 4) 136 97 [some (.inr (.inr 108)), some (.inl (zp)), some (.inl (zv))] [] h Q := ms_kolD_0 hS ok_zp ok_zv (fun h1 W => (k0) h1 W.1 (W.2.2.2.2.2 _ rfl))
set_option maxRecDepth 20000 in
theorem mp_kolE_0 (h : sm_H) (d : Nat) (zp zv : Int) : mj_path [(136, (3, 0, sb_136))] sx_sk h 1 [] (d + 4, 136, 115, [some (.inr (.inr 108)), some (.inl (zp)), some (.inl (zv))], [], [], []) = some ((d + 4, 136, 164, [some (.inr (.inr 108)), some (.inl (zp)), some (.inl (zv))], [], [], []), []) := rfl
theorem mi_tab_kolE_0 : ∀ e ∈ ([(136, (3, 0, sb_136))] : mi_T), sc_P e.1 = some e.2 := mi_tb mi_P136 (mi_tb_e)
set_option maxRecDepth 20000 in
theorem ms_kolE_0 {h : sm_H} {d : Nat} {Q : Option mi_V → sm_H → Prop} {zp zv : Int} (hS : ab_Sh sx_sk h) (ok_zp : mi_in zp) (ok_zv : mi_in zv) (kon : ∀ h1, me_W [] h h1 → Q none h1) : me_E (d + 4) 136 115 [some (.inr (.inr 108)), some (.inl (zp)), some (.inl (zv))] [] h Q := mf_seg (mp_kolE_0 h d zp zv) (mi_tab_kolE_0) hS (mi_okL_c (trivial) (mi_okL_c (ok_zp) (mi_okL_c (ok_zv) (mi_okL_e)))) (mi_okS_e) (mi_al_e) (fun h1 W _ hst => mf_ret (M := (3, 0, sb_136)) rfl rfl rfl hst (mi_al_e) (kon h1 W))
set_option maxRecDepth 20000 in
theorem mt_kolE {h : sm_H} {d : Nat} {Q : Option mi_V → sm_H → Prop} {zp zv : Int} (hS : ab_Sh sx_sk h) (ok_zp : mi_in zp) (ok_zv : mi_in zv) (k0 : (∀ h1, ab_Sh sx_sk h1 → ab_Fr [] h h1 → Q none h1)) : me_E (d + 4) 136 115 [some (.inr (.inr 108)), some (.inl (zp)), some (.inl (zv))] [] h Q := ms_kolE_0 hS ok_zp ok_zv (fun h1 W => (k0) h1 W.1 (W.2.2.2.2.2 _ rfl))
set_option maxRecDepth 20000 in
theorem mp_kopb_0 (h : sm_H) (d : Nat) (zl : Int) : mj_path [(128, (3, 1, sb_128)), (16, (3, 0, sb_16)), (49, (2, 1, sb_49)), (72, (2, 2, sb_72))] sx_sk h 16 [1] (d + 4, 128, 0, [some (.inr (.inr 108)), some (.inl (zl)), none], [], [], []) = some ((d + 4, 128, 22, [some (.inr (.inr 108)), some (.inl (zl)), some (.inl (mi_f h 13831))], [.inl ((0 : Int)), .inl (mi_f h 13831), .inr (.inr 94), .inr (.inr 108)], [], []), [zl < ((0 : Int))]) := rfl
theorem mi_tab_kopb_0 : ∀ e ∈ ([(128, (3, 1, sb_128)), (16, (3, 0, sb_16)), (49, (2, 1, sb_49)), (72, (2, 2, sb_72))] : mi_T), sc_P e.1 = some e.2 := mi_tb mi_P128 (mi_tb mi_P16 (mi_tb mi_P49 (mi_tb mi_P72 (mi_tb_e))))
set_option maxRecDepth 20000 in
theorem ms_kopb_0 {h : sm_H} {d : Nat} {Q : Option mi_V → sm_H → Prop} {zl : Int} (hS : ab_Sh sx_sk h) (ok_zl : mi_in zl) (ho : (zl < ((0 : Int)))) (kon : ∀ h1, me_W [] h h1 → ∃ Q1, me_E (d + 3) 129 0 (mi_entry 5 [.inr (.inr 94), .inl (mi_f h 13831), .inl ((0 : Int))]) [] h1 Q1 ∧ ∀ w h2, (∀ x, w = some x → mi_ok x) → Q1 w h2 → me_E (d + 4) 128 25 [some (.inr (.inr 108)), some (.inl (zl)), some (.inl (mi_f h 13831))] (mi_back w [.inr (.inr 108)]) h2 Q) : me_E (d + 4) 128 0 [some (.inr (.inr 108)), some (.inl (zl)), none] [] h Q := mf_seg (mp_kopb_0 h d zl) (mi_tab_kopb_0) hS (mi_okL_c (trivial) (mi_okL_c (ok_zl) (mi_okL_n (mi_okL_e)))) (mi_okS_e) (mi_al (ho) (mi_al_e)) (fun h1 W _ hst => let ⟨_, k1, k2⟩ := kon h1 W; mf_call (M := (3, 1, sb_128)) (M' := (5, 1, sb_129)) rfl rfl rfl rfl (Nat.le_of_ble_eq_true rfl) (Nat.le_of_ble_eq_true rfl) W.1 k1 k2)
set_option maxRecDepth 20000 in
theorem mp_kopb_1 (h : sm_H) (d : Nat) (zl : Int) : mj_path [(128, (3, 1, sb_128)), (16, (3, 0, sb_16)), (49, (2, 1, sb_49)), (72, (2, 2, sb_72))] sx_sk h 20 [0, 1] (d + 4, 128, 0, [some (.inr (.inr 108)), some (.inl (zl)), none], [], [], []) = some ((d + 4, 128, 22, [some (.inr (.inr 108)), some (.inl (zl)), some (.inl (mi_f h 13831))], [.inl ((0 : Int)), .inl (mi_f h 13831), .inr (.inr 94), .inr (.inr 108)], [], []), [((0 : Int)) ≤ zl, ((60 : Int)) ≤ zl]) := rfl
theorem mi_tab_kopb_1 : ∀ e ∈ ([(128, (3, 1, sb_128)), (16, (3, 0, sb_16)), (49, (2, 1, sb_49)), (72, (2, 2, sb_72))] : mi_T), sc_P e.1 = some e.2 := mi_tb mi_P128 (mi_tb mi_P16 (mi_tb mi_P49 (mi_tb mi_P72 (mi_tb_e))))
set_option maxRecDepth 20000 in
theorem ms_kopb_1 {h : sm_H} {d : Nat} {Q : Option mi_V → sm_H → Prop} {zl : Int} (hS : ab_Sh sx_sk h) (ok_zl : mi_in zl) (ho : (((0 : Int)) ≤ zl) ∧ (((60 : Int)) ≤ zl)) (kon : ∀ h1, me_W [] h h1 → ∃ Q1, me_E (d + 3) 129 0 (mi_entry 5 [.inr (.inr 94), .inl (mi_f h 13831), .inl ((0 : Int))]) [] h1 Q1 ∧ ∀ w h2, (∀ x, w = some x → mi_ok x) → Q1 w h2 → me_E (d + 4) 128 25 [some (.inr (.inr 108)), some (.inl (zl)), some (.inl (mi_f h 13831))] (mi_back w [.inr (.inr 108)]) h2 Q) : me_E (d + 4) 128 0 [some (.inr (.inr 108)), some (.inl (zl)), none] [] h Q := mf_seg (mp_kopb_1 h d zl) (mi_tab_kopb_1) hS (mi_okL_c (trivial) (mi_okL_c (ok_zl) (mi_okL_n (mi_okL_e)))) (mi_okS_e) (mi_al (ho.1) (mi_al (ho.2) (mi_al_e))) (fun h1 W _ hst => let ⟨_, k1, k2⟩ := kon h1 W; mf_call (M := (3, 1, sb_128)) (M' := (5, 1, sb_129)) rfl rfl rfl rfl (Nat.le_of_ble_eq_true rfl) (Nat.le_of_ble_eq_true rfl) W.1 k1 k2)
set_option maxRecDepth 20000 in
theorem mp_kopb_2 (h : sm_H) (d : Nat) (zl : Int) : mj_path [(128, (3, 1, sb_128)), (16, (3, 0, sb_16)), (49, (2, 1, sb_49)), (72, (2, 2, sb_72))] sx_sk h 23 [0, 0] (d + 4, 128, 0, [some (.inr (.inr 108)), some (.inl (zl)), none], [], [], []) = some ((d + 4, 128, 22, [some (.inr (.inr 108)), some (.inl (zl)), some (.inl (mi_f h 13831))], [.inl (mi_a h 92 (Int.toNat zl)), .inl (mi_f h 13831), .inr (.inr 94), .inr (.inr 108)], [], []), [((0 : Int)) ≤ zl, zl < ((60 : Int)), 0 ≤ zl ∧ zl < 60]) := rfl
theorem mi_tab_kopb_2 : ∀ e ∈ ([(128, (3, 1, sb_128)), (16, (3, 0, sb_16)), (49, (2, 1, sb_49)), (72, (2, 2, sb_72))] : mi_T), sc_P e.1 = some e.2 := mi_tb mi_P128 (mi_tb mi_P16 (mi_tb mi_P49 (mi_tb mi_P72 (mi_tb_e))))
set_option maxRecDepth 20000 in
theorem ms_kopb_2 {h : sm_H} {d : Nat} {Q : Option mi_V → sm_H → Prop} {zl : Int} (hS : ab_Sh sx_sk h) (ok_zl : mi_in zl) (ho : (((0 : Int)) ≤ zl) ∧ (zl < ((60 : Int))) ∧ (0 ≤ zl ∧ zl < 60)) (kon : ∀ h1, me_W [] h h1 → ∃ Q1, me_E (d + 3) 129 0 (mi_entry 5 [.inr (.inr 94), .inl (mi_f h 13831), .inl (mi_a h 92 (Int.toNat zl))]) [] h1 Q1 ∧ ∀ w h2, (∀ x, w = some x → mi_ok x) → Q1 w h2 → me_E (d + 4) 128 25 [some (.inr (.inr 108)), some (.inl (zl)), some (.inl (mi_f h 13831))] (mi_back w [.inr (.inr 108)]) h2 Q) : me_E (d + 4) 128 0 [some (.inr (.inr 108)), some (.inl (zl)), none] [] h Q := mf_seg (mp_kopb_2 h d zl) (mi_tab_kopb_2) hS (mi_okL_c (trivial) (mi_okL_c (ok_zl) (mi_okL_n (mi_okL_e)))) (mi_okS_e) (mi_al (ho.1) (mi_al (ho.2.1) (mi_al (ho.2.2) (mi_al_e)))) (fun h1 W _ hst => let ⟨_, k1, k2⟩ := kon h1 W; mf_call (M := (3, 1, sb_128)) (M' := (5, 1, sb_129)) rfl rfl rfl rfl (Nat.le_of_ble_eq_true rfl) (Nat.le_of_ble_eq_true rfl) W.1 k1 k2)
set_option maxRecDepth 20000 in
theorem mt_kopb {h : sm_H} {d : Nat} {Q : Option mi_V → sm_H → Prop} {zl : Int} (hS : ab_Sh sx_sk h) (ok_zl : mi_in zl) (k0 : (zl < ((0 : Int))) → (∀ h1, ab_Sh sx_sk h1 → ab_Fr [] h h1 → ∃ Q1, me_E (d + 3) 129 0 (mi_entry 5 [.inr (.inr 94), .inl (mi_f h 13831), .inl ((0 : Int))]) [] h1 Q1 ∧ ∀ w h2, (∀ x, w = some x → mi_ok x) → Q1 w h2 → me_E (d + 4) 128 25 [some (.inr (.inr 108)), some (.inl (zl)), some (.inl (mi_f h 13831))] (mi_back w [.inr (.inr 108)]) h2 Q)) (k1 : (((0 : Int)) ≤ zl) → (((60 : Int)) ≤ zl) → (∀ h1, ab_Sh sx_sk h1 → ab_Fr [] h h1 → ∃ Q1, me_E (d + 3) 129 0 (mi_entry 5 [.inr (.inr 94), .inl (mi_f h 13831), .inl ((0 : Int))]) [] h1 Q1 ∧ ∀ w h2, (∀ x, w = some x → mi_ok x) → Q1 w h2 → me_E (d + 4) 128 25 [some (.inr (.inr 108)), some (.inl (zl)), some (.inl (mi_f h 13831))] (mi_back w [.inr (.inr 108)]) h2 Q)) (k2 : (((0 : Int)) ≤ zl) → (zl < ((60 : Int))) → ((0 ≤ zl ∧ zl < 60)) ∧ (∀ h1, ab_Sh sx_sk h1 → ab_Fr [] h h1 → ∃ Q1, me_E (d + 3) 129 0 (mi_entry 5 [.inr (.inr 94), .inl (mi_f h 13831), .inl (mi_a h 92 (Int.toNat zl))]) [] h1 Q1 ∧ ∀ w h2, (∀ x, w = some x → mi_ok x) → Q1 w h2 → me_E (d + 4) 128 25 [some (.inr (.inr 108)), some (.inl (zl)), some (.inl (mi_f h 13831))] (mi_back w [.inr (.inr 108)]) h2 Q)) : me_E (d + 4) 128 0 [some (.inr (.inr 108)), some (.inl (zl)), none] [] h Q := Or.elim (mi_em .lt (zl) (((0 : Int)))) (fun c0 => ms_kopb_0 hS ok_zl (c0) (fun h1 W => (k0 c0) h1 W.1 (W.2.2.2.2.2 _ rfl))) (fun c0 => Or.elim (mi_em .ge (zl) (((60 : Int)))) (fun c1 => ms_kopb_1 hS ok_zl ⟨c0, c1⟩ (fun h1 W => (k1 c0 c1) h1 W.1 (W.2.2.2.2.2 _ rfl))) (fun c1 => ms_kopb_2 hS ok_zl ⟨c0, c1, (k2 c0 c1).1⟩ (fun h1 W => (k2 c0 c1).2 h1 W.1 (W.2.2.2.2.2 _ rfl))))
set_option maxRecDepth 20000 in
theorem mp_kopB_0 (h : sm_H) (d : Nat) (zl zs zz : Int) : mj_path [(128, (3, 1, sb_128))] sx_sk h 2 [] (d + 4, 128, 25, [some (.inr (.inr 108)), some (.inl (zl)), some (.inl (zs))], [.inl (zz), .inr (.inr 108)], [], []) = some ((d + 4, 128, 29, [some (.inr (.inr 108)), some (.inl (zl)), some (.inl (zs))], [.inl (zs)], [.inl (13831, zz)], []), []) := rfl
theorem mi_tab_kopB_0 : ∀ e ∈ ([(128, (3, 1, sb_128))] : mi_T), sc_P e.1 = some e.2 := mi_tb mi_P128 (mi_tb_e)
set_option maxRecDepth 20000 in
theorem ms_kopB_0 {h : sm_H} {d : Nat} {Q : Option mi_V → sm_H → Prop} {zl zs zz : Int} (hS : ab_Sh sx_sk h) (ok_zl : mi_in zl) (ok_zs : mi_in zs) (ok_zz : mi_in zz) (kon : ∀ h1, me_W [.inl (13831, zz)] h h1 → Q (some (.inl (zs))) h1) : me_E (d + 4) 128 25 [some (.inr (.inr 108)), some (.inl (zl)), some (.inl (zs))] [.inl (zz), .inr (.inr 108)] h Q := mf_seg (mp_kopB_0 h d zl zs zz) (mi_tab_kopB_0) hS (mi_okL_c (trivial) (mi_okL_c (ok_zl) (mi_okL_c (ok_zs) (mi_okL_e)))) (mi_okS_cons (ok_zz) (mi_okS_cons (trivial) (mi_okS_e))) (mi_al_e) (fun h1 W _ hst => mf_ret (M := (3, 1, sb_128)) rfl rfl rfl hst (mi_al_e) (kon h1 W))
set_option maxRecDepth 20000 in
theorem mt_kopB {h : sm_H} {d : Nat} {Q : Option mi_V → sm_H → Prop} {zl zs zz : Int} (hS : ab_Sh sx_sk h) (ok_zl : mi_in zl) (ok_zs : mi_in zs) (ok_zz : mi_in zz) (k0 : (∀ h1, ab_Sh sx_sk h1 → mi_f h1 13831 = zz → ab_Fr [(13831, 13832)] h h1 → Q (some (.inl (zs))) h1)) : me_E (d + 4) 128 25 [some (.inr (.inr 108)), some (.inl (zl)), some (.inl (zs))] [.inl (zz), .inr (.inr 108)] h Q := ms_kopB_0 hS ok_zl ok_zs ok_zz (fun h1 W => (k0) h1 W.1 (W.2.1 13831) (W.2.2.2.2.2 _ rfl))
set_option maxRecDepth 20000 in
theorem mp_kobA_0 (h : sm_H) (d : Nat) (zf zm : Int) : mj_path [(129, (5, 1, sb_129))] sx_sk h 4 [] (d + 3, 129, 0, [some (.inr (.inr 94)), some (.inl (zf)), some (.inl (zm)), none, none], [], [], []) = some ((d + 3, 129, 5, [some (.inr (.inr 94)), some (.inl (zf)), some (.inl (zm)), some (.inl (zf)), some (.inl ((0 : Int)))], [], [], []), []) := rfl
theorem mi_tab_kobA_0 : ∀ e ∈ ([(129, (5, 1, sb_129))] : mi_T), sc_P e.1 = some e.2 := mi_tb mi_P129 (mi_tb_e)
set_option maxRecDepth 20000 in
theorem ms_kobA_0 {h : sm_H} {d : Nat} {Q : Option mi_V → sm_H → Prop} {zf zm : Int} (hS : ab_Sh sx_sk h) (ok_zf : mi_in zf) (ok_zm : mi_in zm) (kon : ∀ h1, me_W [] h h1 → me_E (d + 3) 129 5 [some (.inr (.inr 94)), some (.inl (zf)), some (.inl (zm)), some (.inl (zf)), some (.inl ((0 : Int)))] [] h1 Q) : me_E (d + 3) 129 0 [some (.inr (.inr 94)), some (.inl (zf)), some (.inl (zm)), none, none] [] h Q := mf_seg (mp_kobA_0 h d zf zm) (mi_tab_kobA_0) hS (mi_okL_c (trivial) (mi_okL_c (ok_zf) (mi_okL_c (ok_zm) (mi_okL_n (mi_okL_n (mi_okL_e)))))) (mi_okS_e) (mi_al_e) (fun h1 W _ hst => kon h1 W)
set_option maxRecDepth 20000 in
theorem mt_kobA {h : sm_H} {d : Nat} {Q : Option mi_V → sm_H → Prop} {zf zm : Int} (hS : ab_Sh sx_sk h) (ok_zf : mi_in zf) (ok_zm : mi_in zm) (k0 : (∀ h1, ab_Sh sx_sk h1 → ab_Fr [] h h1 → me_E (d + 3) 129 5 [some (.inr (.inr 94)), some (.inl (zf)), some (.inl (zm)), some (.inl (zf)), some (.inl ((0 : Int)))] [] h1 Q)) : me_E (d + 3) 129 0 [some (.inr (.inr 94)), some (.inl (zf)), some (.inl (zm)), none, none] [] h Q := ms_kobA_0 hS ok_zf ok_zm (fun h1 W => (k0) h1 W.1 (W.2.2.2.2.2 _ rfl))
set_option maxRecDepth 20000 in
theorem mp_kobB_0 (h : sm_H) (d : Nat) (zf zm zk zn : Int) : mj_path [(129, (5, 1, sb_129)), (16, (3, 0, sb_16)), (49, (2, 1, sb_49)), (72, (2, 2, sb_72))] sx_sk h 4 [1] (d + 3, 129, 5, [some (.inr (.inr 94)), some (.inl (zf)), some (.inl (zm)), some (.inl (zk)), some (.inl (zn))], [], [], []) = some ((d + 3, 129, 39, [some (.inr (.inr 94)), some (.inl (zf)), some (.inl (zm)), some (.inl (zk)), some (.inl (zn))], [.inl (zk)], [], []), [zm ≤ zn]) := rfl
theorem mi_tab_kobB_0 : ∀ e ∈ ([(129, (5, 1, sb_129)), (16, (3, 0, sb_16)), (49, (2, 1, sb_49)), (72, (2, 2, sb_72))] : mi_T), sc_P e.1 = some e.2 := mi_tb mi_P129 (mi_tb mi_P16 (mi_tb mi_P49 (mi_tb mi_P72 (mi_tb_e))))
set_option maxRecDepth 20000 in
theorem ms_kobB_0 {h : sm_H} {d : Nat} {Q : Option mi_V → sm_H → Prop} {zf zm zk zn : Int} (hS : ab_Sh sx_sk h) (ok_zf : mi_in zf) (ok_zm : mi_in zm) (ok_zk : mi_in zk) (ok_zn : mi_in zn) (ho : (zm ≤ zn)) (kon : ∀ h1, me_W [] h h1 → Q (some (.inl (zk))) h1) : me_E (d + 3) 129 5 [some (.inr (.inr 94)), some (.inl (zf)), some (.inl (zm)), some (.inl (zk)), some (.inl (zn))] [] h Q := mf_seg (mp_kobB_0 h d zf zm zk zn) (mi_tab_kobB_0) hS (mi_okL_c (trivial) (mi_okL_c (ok_zf) (mi_okL_c (ok_zm) (mi_okL_c (ok_zk) (mi_okL_c (ok_zn) (mi_okL_e)))))) (mi_okS_e) (mi_al (ho) (mi_al_e)) (fun h1 W _ hst => mf_ret (M := (5, 1, sb_129)) rfl rfl rfl hst (mi_al_e) (kon h1 W))
set_option maxRecDepth 20000 in
theorem mp_kobB_1 (h : sm_H) (d : Nat) (zf zm zk zn : Int) : mj_path [(129, (5, 1, sb_129)), (16, (3, 0, sb_16)), (49, (2, 1, sb_49)), (72, (2, 2, sb_72))] sx_sk h 8 [0, 1] (d + 3, 129, 5, [some (.inr (.inr 94)), some (.inl (zf)), some (.inl (zm)), some (.inl (zk)), some (.inl (zn))], [], [], []) = some ((d + 3, 129, 39, [some (.inr (.inr 94)), some (.inl (zf)), some (.inl (zm)), some (.inl (zk)), some (.inl (zn))], [.inl (zk)], [], []), [zn < zm, (mi_f h 12032) ≤ zk]) := rfl
theorem mi_tab_kobB_1 : ∀ e ∈ ([(129, (5, 1, sb_129)), (16, (3, 0, sb_16)), (49, (2, 1, sb_49)), (72, (2, 2, sb_72))] : mi_T), sc_P e.1 = some e.2 := mi_tb mi_P129 (mi_tb mi_P16 (mi_tb mi_P49 (mi_tb mi_P72 (mi_tb_e))))
set_option maxRecDepth 20000 in
theorem ms_kobB_1 {h : sm_H} {d : Nat} {Q : Option mi_V → sm_H → Prop} {zf zm zk zn : Int} (hS : ab_Sh sx_sk h) (ok_zf : mi_in zf) (ok_zm : mi_in zm) (ok_zk : mi_in zk) (ok_zn : mi_in zn) (ho : (zn < zm) ∧ ((mi_f h 12032) ≤ zk)) (kon : ∀ h1, me_W [] h h1 → Q (some (.inl (zk))) h1) : me_E (d + 3) 129 5 [some (.inr (.inr 94)), some (.inl (zf)), some (.inl (zm)), some (.inl (zk)), some (.inl (zn))] [] h Q := mf_seg (mp_kobB_1 h d zf zm zk zn) (mi_tab_kobB_1) hS (mi_okL_c (trivial) (mi_okL_c (ok_zf) (mi_okL_c (ok_zm) (mi_okL_c (ok_zk) (mi_okL_c (ok_zn) (mi_okL_e)))))) (mi_okS_e) (mi_al (ho.1) (mi_al (ho.2) (mi_al_e))) (fun h1 W _ hst => mf_ret (M := (5, 1, sb_129)) rfl rfl rfl hst (mi_al_e) (kon h1 W))
set_option maxRecDepth 20000 in
theorem mp_kobB_2 (h : sm_H) (d : Nat) (zf zm zk zn : Int) : mj_path [(129, (5, 1, sb_129)), (16, (3, 0, sb_16)), (49, (2, 1, sb_49)), (72, (2, 2, sb_72))] sx_sk h 22 [0, 0, 1, 8, 8] (d + 3, 129, 5, [some (.inr (.inr 94)), some (.inl (zf)), some (.inl (zm)), some (.inl (zk)), some (.inl (zn))], [], [], []) = some ((d + 3, 129, 5, [some (.inr (.inr 94)), some (.inl (zf)), some (.inl (zm)), some (.inl (zk + (((1 : Int)) + ((0 : Int))))), some (.inl (zn + 1))], [], [], []), [zn < zm, zk < (mi_f h 12032), zk < ((0 : Int)), -2147483648 ≤ ((1 : Int)) + ((0 : Int)) ∧ ((1 : Int)) + ((0 : Int)) ≤ 2147483647, -2147483648 ≤ zk + (((1 : Int)) + ((0 : Int))) ∧ zk + (((1 : Int)) + ((0 : Int))) ≤ 2147483647, -2147483648 ≤ zn + 1 ∧ zn + 1 ≤ 2147483647]) := rfl
theorem mi_tab_kobB_2 : ∀ e ∈ ([(129, (5, 1, sb_129)), (16, (3, 0, sb_16)), (49, (2, 1, sb_49)), (72, (2, 2, sb_72))] : mi_T), sc_P e.1 = some e.2 := mi_tb mi_P129 (mi_tb mi_P16 (mi_tb mi_P49 (mi_tb mi_P72 (mi_tb_e))))
set_option maxRecDepth 20000 in
theorem ms_kobB_2 {h : sm_H} {d : Nat} {Q : Option mi_V → sm_H → Prop} {zf zm zk zn : Int} (hS : ab_Sh sx_sk h) (ok_zf : mi_in zf) (ok_zm : mi_in zm) (ok_zk : mi_in zk) (ok_zn : mi_in zn) (ho : (zn < zm) ∧ (zk < (mi_f h 12032)) ∧ (zk < ((0 : Int))) ∧ (-2147483648 ≤ ((1 : Int)) + ((0 : Int)) ∧ ((1 : Int)) + ((0 : Int)) ≤ 2147483647) ∧ (-2147483648 ≤ zk + (((1 : Int)) + ((0 : Int))) ∧ zk + (((1 : Int)) + ((0 : Int))) ≤ 2147483647) ∧ (-2147483648 ≤ zn + 1 ∧ zn + 1 ≤ 2147483647)) (kon : ∀ h1, me_W [] h h1 → me_E (d + 3) 129 5 [some (.inr (.inr 94)), some (.inl (zf)), some (.inl (zm)), some (.inl (zk + (((1 : Int)) + ((0 : Int))))), some (.inl (zn + 1))] [] h1 Q) : me_E (d + 3) 129 5 [some (.inr (.inr 94)), some (.inl (zf)), some (.inl (zm)), some (.inl (zk)), some (.inl (zn))] [] h Q := mf_seg (mp_kobB_2 h d zf zm zk zn) (mi_tab_kobB_2) hS (mi_okL_c (trivial) (mi_okL_c (ok_zf) (mi_okL_c (ok_zm) (mi_okL_c (ok_zk) (mi_okL_c (ok_zn) (mi_okL_e)))))) (mi_okS_e) (mi_al (ho.1) (mi_al (ho.2.1) (mi_al (ho.2.2.1) (mi_al (ho.2.2.2.1) (mi_al (ho.2.2.2.2.1) (mi_al (ho.2.2.2.2.2) (mi_al_e))))))) (fun h1 W _ hst => kon h1 W)
set_option maxRecDepth 20000 in
theorem mp_kobB_3 (h : sm_H) (d : Nat) (zf zm zk zn : Int) : mj_path [(129, (5, 1, sb_129)), (16, (3, 0, sb_16)), (49, (2, 1, sb_49)), (72, (2, 2, sb_72))] sx_sk h 26 [0, 0, 0, 1, 8, 8] (d + 3, 129, 5, [some (.inr (.inr 94)), some (.inl (zf)), some (.inl (zm)), some (.inl (zk)), some (.inl (zn))], [], [], []) = some ((d + 3, 129, 5, [some (.inr (.inr 94)), some (.inl (zf)), some (.inl (zm)), some (.inl (zk + (((1 : Int)) + ((0 : Int))))), some (.inl (zn + 1))], [], [], []), [zn < zm, zk < (mi_f h 12032), ((0 : Int)) ≤ zk, ((100 : Int)) ≤ zk, -2147483648 ≤ ((1 : Int)) + ((0 : Int)) ∧ ((1 : Int)) + ((0 : Int)) ≤ 2147483647, -2147483648 ≤ zk + (((1 : Int)) + ((0 : Int))) ∧ zk + (((1 : Int)) + ((0 : Int))) ≤ 2147483647, -2147483648 ≤ zn + 1 ∧ zn + 1 ≤ 2147483647]) := rfl
theorem mi_tab_kobB_3 : ∀ e ∈ ([(129, (5, 1, sb_129)), (16, (3, 0, sb_16)), (49, (2, 1, sb_49)), (72, (2, 2, sb_72))] : mi_T), sc_P e.1 = some e.2 := mi_tb mi_P129 (mi_tb mi_P16 (mi_tb mi_P49 (mi_tb mi_P72 (mi_tb_e))))
set_option maxRecDepth 20000 in
theorem ms_kobB_3 {h : sm_H} {d : Nat} {Q : Option mi_V → sm_H → Prop} {zf zm zk zn : Int} (hS : ab_Sh sx_sk h) (ok_zf : mi_in zf) (ok_zm : mi_in zm) (ok_zk : mi_in zk) (ok_zn : mi_in zn) (ho : (zn < zm) ∧ (zk < (mi_f h 12032)) ∧ (((0 : Int)) ≤ zk) ∧ (((100 : Int)) ≤ zk) ∧ (-2147483648 ≤ ((1 : Int)) + ((0 : Int)) ∧ ((1 : Int)) + ((0 : Int)) ≤ 2147483647) ∧ (-2147483648 ≤ zk + (((1 : Int)) + ((0 : Int))) ∧ zk + (((1 : Int)) + ((0 : Int))) ≤ 2147483647) ∧ (-2147483648 ≤ zn + 1 ∧ zn + 1 ≤ 2147483647)) (kon : ∀ h1, me_W [] h h1 → me_E (d + 3) 129 5 [some (.inr (.inr 94)), some (.inl (zf)), some (.inl (zm)), some (.inl (zk + (((1 : Int)) + ((0 : Int))))), some (.inl (zn + 1))] [] h1 Q) : me_E (d + 3) 129 5 [some (.inr (.inr 94)), some (.inl (zf)), some (.inl (zm)), some (.inl (zk)), some (.inl (zn))] [] h Q := mf_seg (mp_kobB_3 h d zf zm zk zn) (mi_tab_kobB_3) hS (mi_okL_c (trivial) (mi_okL_c (ok_zf) (mi_okL_c (ok_zm) (mi_okL_c (ok_zk) (mi_okL_c (ok_zn) (mi_okL_e)))))) (mi_okS_e) (mi_al (ho.1) (mi_al (ho.2.1) (mi_al (ho.2.2.1) (mi_al (ho.2.2.2.1) (mi_al (ho.2.2.2.2.1) (mi_al (ho.2.2.2.2.2.1) (mi_al (ho.2.2.2.2.2.2) (mi_al_e)))))))) (fun h1 W _ hst => kon h1 W)
set_option maxRecDepth 20000 in
theorem mp_kobB_4 (h : sm_H) (d : Nat) (zf zm zk zn : Int) : mj_path [(129, (5, 1, sb_129)), (16, (3, 0, sb_16)), (49, (2, 1, sb_49)), (72, (2, 2, sb_72))] sx_sk h 29 [0, 0, 0, 0, 8, 8] (d + 3, 129, 5, [some (.inr (.inr 94)), some (.inl (zf)), some (.inl (zm)), some (.inl (zk)), some (.inl (zn))], [], [], []) = some ((d + 3, 129, 5, [some (.inr (.inr 94)), some (.inl (zf)), some (.inl (zm)), some (.inl (zk + (((1 : Int)) + (mi_a h 97 (Int.toNat zk))))), some (.inl (zn + 1))], [], [], []), [zn < zm, zk < (mi_f h 12032), ((0 : Int)) ≤ zk, zk < ((100 : Int)), 0 ≤ zk ∧ zk < 100, -2147483648 ≤ ((1 : Int)) + (mi_a h 97 (Int.toNat zk)) ∧ ((1 : Int)) + (mi_a h 97 (Int.toNat zk)) ≤ 2147483647, -2147483648 ≤ zk + (((1 : Int)) + (mi_a h 97 (Int.toNat zk))) ∧ zk + (((1 : Int)) + (mi_a h 97 (Int.toNat zk))) ≤ 2147483647, -2147483648 ≤ zn + 1 ∧ zn + 1 ≤ 2147483647]) := rfl
theorem mi_tab_kobB_4 : ∀ e ∈ ([(129, (5, 1, sb_129)), (16, (3, 0, sb_16)), (49, (2, 1, sb_49)), (72, (2, 2, sb_72))] : mi_T), sc_P e.1 = some e.2 := mi_tb mi_P129 (mi_tb mi_P16 (mi_tb mi_P49 (mi_tb mi_P72 (mi_tb_e))))
set_option maxRecDepth 20000 in
theorem ms_kobB_4 {h : sm_H} {d : Nat} {Q : Option mi_V → sm_H → Prop} {zf zm zk zn : Int} (hS : ab_Sh sx_sk h) (ok_zf : mi_in zf) (ok_zm : mi_in zm) (ok_zk : mi_in zk) (ok_zn : mi_in zn) (ho : (zn < zm) ∧ (zk < (mi_f h 12032)) ∧ (((0 : Int)) ≤ zk) ∧ (zk < ((100 : Int))) ∧ (0 ≤ zk ∧ zk < 100) ∧ (-2147483648 ≤ ((1 : Int)) + (mi_a h 97 (Int.toNat zk)) ∧ ((1 : Int)) + (mi_a h 97 (Int.toNat zk)) ≤ 2147483647) ∧ (-2147483648 ≤ zk + (((1 : Int)) + (mi_a h 97 (Int.toNat zk))) ∧ zk + (((1 : Int)) + (mi_a h 97 (Int.toNat zk))) ≤ 2147483647) ∧ (-2147483648 ≤ zn + 1 ∧ zn + 1 ≤ 2147483647)) (kon : ∀ h1, me_W [] h h1 → me_E (d + 3) 129 5 [some (.inr (.inr 94)), some (.inl (zf)), some (.inl (zm)), some (.inl (zk + (((1 : Int)) + (mi_a h 97 (Int.toNat zk))))), some (.inl (zn + 1))] [] h1 Q) : me_E (d + 3) 129 5 [some (.inr (.inr 94)), some (.inl (zf)), some (.inl (zm)), some (.inl (zk)), some (.inl (zn))] [] h Q := mf_seg (mp_kobB_4 h d zf zm zk zn) (mi_tab_kobB_4) hS (mi_okL_c (trivial) (mi_okL_c (ok_zf) (mi_okL_c (ok_zm) (mi_okL_c (ok_zk) (mi_okL_c (ok_zn) (mi_okL_e)))))) (mi_okS_e) (mi_al (ho.1) (mi_al (ho.2.1) (mi_al (ho.2.2.1) (mi_al (ho.2.2.2.1) (mi_al (ho.2.2.2.2.1) (mi_al (ho.2.2.2.2.2.1) (mi_al (ho.2.2.2.2.2.2.1) (mi_al (ho.2.2.2.2.2.2.2) (mi_al_e))))))))) (fun h1 W _ hst => kon h1 W)
set_option maxRecDepth 20000 in
theorem mt_kobB {h : sm_H} {d : Nat} {Q : Option mi_V → sm_H → Prop} {zf zm zk zn : Int} (hS : ab_Sh sx_sk h) (ok_zf : mi_in zf) (ok_zm : mi_in zm) (ok_zk : mi_in zk) (ok_zn : mi_in zn) (k0 : (zm ≤ zn) → (∀ h1, ab_Sh sx_sk h1 → ab_Fr [] h h1 → Q (some (.inl (zk))) h1)) (k1 : ((-2147483648) ≤ mi_f h 12032 ∧ mi_f h 12032 ≤ 2147483647) → (zn < zm) → ((mi_f h 12032) ≤ zk) → (∀ h1, ab_Sh sx_sk h1 → ab_Fr [] h h1 → Q (some (.inl (zk))) h1)) (k2 : ((-2147483648) ≤ mi_f h 12032 ∧ mi_f h 12032 ≤ 2147483647) → (zn < zm) → (zk < (mi_f h 12032)) → (zk < ((0 : Int))) → ((-2147483648 ≤ ((1 : Int)) + ((0 : Int)) ∧ ((1 : Int)) + ((0 : Int)) ≤ 2147483647) ∧ (-2147483648 ≤ zk + (((1 : Int)) + ((0 : Int))) ∧ zk + (((1 : Int)) + ((0 : Int))) ≤ 2147483647) ∧ (-2147483648 ≤ zn + 1 ∧ zn + 1 ≤ 2147483647)) ∧ (∀ h1, ab_Sh sx_sk h1 → ab_Fr [] h h1 → me_E (d + 3) 129 5 [some (.inr (.inr 94)), some (.inl (zf)), some (.inl (zm)), some (.inl (zk + (((1 : Int)) + ((0 : Int))))), some (.inl (zn + 1))] [] h1 Q)) (k3 : ((-2147483648) ≤ mi_f h 12032 ∧ mi_f h 12032 ≤ 2147483647) → (zn < zm) → (zk < (mi_f h 12032)) → (((0 : Int)) ≤ zk) → (((100 : Int)) ≤ zk) → ((-2147483648 ≤ ((1 : Int)) + ((0 : Int)) ∧ ((1 : Int)) + ((0 : Int)) ≤ 2147483647) ∧ (-2147483648 ≤ zk + (((1 : Int)) + ((0 : Int))) ∧ zk + (((1 : Int)) + ((0 : Int))) ≤ 2147483647) ∧ (-2147483648 ≤ zn + 1 ∧ zn + 1 ≤ 2147483647)) ∧ (∀ h1, ab_Sh sx_sk h1 → ab_Fr [] h h1 → me_E (d + 3) 129 5 [some (.inr (.inr 94)), some (.inl (zf)), some (.inl (zm)), some (.inl (zk + (((1 : Int)) + ((0 : Int))))), some (.inl (zn + 1))] [] h1 Q)) (k4 : ((-2147483648) ≤ mi_f h 12032 ∧ mi_f h 12032 ≤ 2147483647) → (zn < zm) → (zk < (mi_f h 12032)) → (((0 : Int)) ≤ zk) → (zk < ((100 : Int))) → ((0 ≤ zk ∧ zk < 100) ∧ (-2147483648 ≤ ((1 : Int)) + (mi_a h 97 (Int.toNat zk)) ∧ ((1 : Int)) + (mi_a h 97 (Int.toNat zk)) ≤ 2147483647) ∧ (-2147483648 ≤ zk + (((1 : Int)) + (mi_a h 97 (Int.toNat zk))) ∧ zk + (((1 : Int)) + (mi_a h 97 (Int.toNat zk))) ≤ 2147483647) ∧ (-2147483648 ≤ zn + 1 ∧ zn + 1 ≤ 2147483647)) ∧ (∀ h1, ab_Sh sx_sk h1 → ab_Fr [] h h1 → me_E (d + 3) 129 5 [some (.inr (.inr 94)), some (.inl (zf)), some (.inl (zm)), some (.inl (zk + (((1 : Int)) + (mi_a h 97 (Int.toNat zk))))), some (.inl (zn + 1))] [] h1 Q)) : me_E (d + 3) 129 5 [some (.inr (.inr 94)), some (.inl (zf)), some (.inl (zm)), some (.inl (zk)), some (.inl (zn))] [] h Q := Or.elim (mi_em .ge (zn) (zm)) (fun c0 => ms_kobB_0 hS ok_zf ok_zm ok_zk ok_zn (c0) (fun h1 W => (k0 c0) h1 W.1 (W.2.2.2.2.2 _ rfl))) (fun c0 => Or.elim (mi_em .ge (zk) ((mi_f h 12032))) (fun c1 => ms_kobB_1 hS ok_zf ok_zm ok_zk ok_zn ⟨c0, c1⟩ (fun h1 W => (k1 (me_fb hS rfl) c0 c1) h1 W.1 (W.2.2.2.2.2 _ rfl))) (fun c1 => Or.elim (mi_em .lt (zk) (((0 : Int)))) (fun c2 => ms_kobB_2 hS ok_zf ok_zm ok_zk ok_zn ⟨c0, c1, c2, (k2 (me_fb hS rfl) c0 c1 c2).1.1, (k2 (me_fb hS rfl) c0 c1 c2).1.2.1, (k2 (me_fb hS rfl) c0 c1 c2).1.2.2⟩ (fun h1 W => (k2 (me_fb hS rfl) c0 c1 c2).2 h1 W.1 (W.2.2.2.2.2 _ rfl))) (fun c2 => Or.elim (mi_em .ge (zk) (((100 : Int)))) (fun c3 => ms_kobB_3 hS ok_zf ok_zm ok_zk ok_zn ⟨c0, c1, c2, c3, (k3 (me_fb hS rfl) c0 c1 c2 c3).1.1, (k3 (me_fb hS rfl) c0 c1 c2 c3).1.2.1, (k3 (me_fb hS rfl) c0 c1 c2 c3).1.2.2⟩ (fun h1 W => (k3 (me_fb hS rfl) c0 c1 c2 c3).2 h1 W.1 (W.2.2.2.2.2 _ rfl))) (fun c3 => ms_kobB_4 hS ok_zf ok_zm ok_zk ok_zn ⟨c0, c1, c2, c3, (k4 (me_fb hS rfl) c0 c1 c2 c3).1.1, (k4 (me_fb hS rfl) c0 c1 c2 c3).1.2.1, (k4 (me_fb hS rfl) c0 c1 c2 c3).1.2.2.1, (k4 (me_fb hS rfl) c0 c1 c2 c3).1.2.2.2⟩ (fun h1 W => (k4 (me_fb hS rfl) c0 c1 c2 c3).2 h1 W.1 (W.2.2.2.2.2 _ rfl))))))
set_option maxRecDepth 20000 in
theorem mp_koch_0 (h : sm_H) (d : Nat) (zf : Int) : mj_path [(126, (2, 1, sb_126)), (16, (3, 0, sb_16)), (49, (2, 1, sb_49)), (72, (2, 2, sb_72))] sx_sk h 10 [1] (d + 2, 126, 0, [some (.inr (.inr 108)), some (.inl (zf))], [], [], []) = some ((d + 2, 126, 14, [some (.inr (.inr 108)), some (.inl (zf))], [.inl ((0 : Int))], [], []), [(mi_f h 13831) < ((0 : Int))]) := rfl
theorem mi_tab_koch_0 : ∀ e ∈ ([(126, (2, 1, sb_126)), (16, (3, 0, sb_16)), (49, (2, 1, sb_49)), (72, (2, 2, sb_72))] : mi_T), sc_P e.1 = some e.2 := mi_tb mi_P126 (mi_tb mi_P16 (mi_tb mi_P49 (mi_tb mi_P72 (mi_tb_e))))
set_option maxRecDepth 20000 in
theorem ms_koch_0 {h : sm_H} {d : Nat} {Q : Option mi_V → sm_H → Prop} {zf : Int} (hS : ab_Sh sx_sk h) (ok_zf : mi_in zf) (ho : ((mi_f h 13831) < ((0 : Int)))) (kon : ∀ h1, me_W [] h h1 → Q (some (.inl ((0 : Int)))) h1) : me_E (d + 2) 126 0 [some (.inr (.inr 108)), some (.inl (zf))] [] h Q := mf_seg (mp_koch_0 h d zf) (mi_tab_koch_0) hS (mi_okL_c (trivial) (mi_okL_c (ok_zf) (mi_okL_e))) (mi_okS_e) (mi_al (ho) (mi_al_e)) (fun h1 W _ hst => mf_ret (M := (2, 1, sb_126)) rfl rfl rfl hst (mi_al_e) (kon h1 W))
set_option maxRecDepth 20000 in
theorem mp_koch_1 (h : sm_H) (d : Nat) (zf : Int) : mj_path [(126, (2, 1, sb_126)), (16, (3, 0, sb_16)), (49, (2, 1, sb_49)), (72, (2, 2, sb_72))] sx_sk h 14 [0, 1] (d + 2, 126, 0, [some (.inr (.inr 108)), some (.inl (zf))], [], [], []) = some ((d + 2, 126, 14, [some (.inr (.inr 108)), some (.inl (zf))], [.inl ((0 : Int))], [], []), [((0 : Int)) ≤ (mi_f h 13831), ((100 : Int)) ≤ (mi_f h 13831)]) := rfl
theorem mi_tab_koch_1 : ∀ e ∈ ([(126, (2, 1, sb_126)), (16, (3, 0, sb_16)), (49, (2, 1, sb_49)), (72, (2, 2, sb_72))] : mi_T), sc_P e.1 = some e.2 := mi_tb mi_P126 (mi_tb mi_P16 (mi_tb mi_P49 (mi_tb mi_P72 (mi_tb_e))))
set_option maxRecDepth 20000 in
theorem ms_koch_1 {h : sm_H} {d : Nat} {Q : Option mi_V → sm_H → Prop} {zf : Int} (hS : ab_Sh sx_sk h) (ok_zf : mi_in zf) (ho : (((0 : Int)) ≤ (mi_f h 13831)) ∧ (((100 : Int)) ≤ (mi_f h 13831))) (kon : ∀ h1, me_W [] h h1 → Q (some (.inl ((0 : Int)))) h1) : me_E (d + 2) 126 0 [some (.inr (.inr 108)), some (.inl (zf))] [] h Q := mf_seg (mp_koch_1 h d zf) (mi_tab_koch_1) hS (mi_okL_c (trivial) (mi_okL_c (ok_zf) (mi_okL_e))) (mi_okS_e) (mi_al (ho.1) (mi_al (ho.2) (mi_al_e))) (fun h1 W _ hst => mf_ret (M := (2, 1, sb_126)) rfl rfl rfl hst (mi_al_e) (kon h1 W))
set_option maxRecDepth 20000 in
theorem mp_koch_2 (h : sm_H) (d : Nat) (zf : Int) : mj_path [(126, (2, 1, sb_126)), (16, (3, 0, sb_16)), (49, (2, 1, sb_49)), (72, (2, 2, sb_72))] sx_sk h 17 [0, 0] (d + 2, 126, 0, [some (.inr (.inr 108)), some (.inl (zf))], [], [], []) = some ((d + 2, 126, 14, [some (.inr (.inr 108)), some (.inl (zf))], [.inl (mi_a h 96 (Int.toNat (mi_f h 13831)))], [], []), [((0 : Int)) ≤ (mi_f h 13831), (mi_f h 13831) < ((100 : Int)), 0 ≤ (mi_f h 13831) ∧ (mi_f h 13831) < 100]) := rfl
theorem mi_tab_koch_2 : ∀ e ∈ ([(126, (2, 1, sb_126)), (16, (3, 0, sb_16)), (49, (2, 1, sb_49)), (72, (2, 2, sb_72))] : mi_T), sc_P e.1 = some e.2 := mi_tb mi_P126 (mi_tb mi_P16 (mi_tb mi_P49 (mi_tb mi_P72 (mi_tb_e))))
set_option maxRecDepth 20000 in
theorem ms_koch_2 {h : sm_H} {d : Nat} {Q : Option mi_V → sm_H → Prop} {zf : Int} (hS : ab_Sh sx_sk h) (ok_zf : mi_in zf) (ho : (((0 : Int)) ≤ (mi_f h 13831)) ∧ ((mi_f h 13831) < ((100 : Int))) ∧ (0 ≤ (mi_f h 13831) ∧ (mi_f h 13831) < 100)) (kon : ∀ h1, me_W [] h h1 → Q (some (.inl (mi_a h 96 (Int.toNat (mi_f h 13831))))) h1) : me_E (d + 2) 126 0 [some (.inr (.inr 108)), some (.inl (zf))] [] h Q := mf_seg (mp_koch_2 h d zf) (mi_tab_koch_2) hS (mi_okL_c (trivial) (mi_okL_c (ok_zf) (mi_okL_e))) (mi_okS_e) (mi_al (ho.1) (mi_al (ho.2.1) (mi_al (ho.2.2) (mi_al_e)))) (fun h1 W _ hst => mf_ret (M := (2, 1, sb_126)) rfl rfl rfl hst (mi_al_e) (kon h1 W))
set_option maxRecDepth 20000 in
theorem mt_koch {h : sm_H} {d : Nat} {Q : Option mi_V → sm_H → Prop} {zf : Int} (hS : ab_Sh sx_sk h) (ok_zf : mi_in zf) (k0 : ((-2147483648) ≤ mi_f h 13831 ∧ mi_f h 13831 ≤ 2147483647) → ((mi_f h 13831) < ((0 : Int))) → (∀ h1, ab_Sh sx_sk h1 → ab_Fr [] h h1 → Q (some (.inl ((0 : Int)))) h1)) (k1 : ((-2147483648) ≤ mi_f h 13831 ∧ mi_f h 13831 ≤ 2147483647) → (((0 : Int)) ≤ (mi_f h 13831)) → (((100 : Int)) ≤ (mi_f h 13831)) → (∀ h1, ab_Sh sx_sk h1 → ab_Fr [] h h1 → Q (some (.inl ((0 : Int)))) h1)) (k2 : ((-2147483648) ≤ mi_f h 13831 ∧ mi_f h 13831 ≤ 2147483647) → (((0 : Int)) ≤ (mi_f h 13831)) → ((mi_f h 13831) < ((100 : Int))) → ((0 ≤ (mi_f h 13831) ∧ (mi_f h 13831) < 100)) ∧ (∀ h1, ab_Sh sx_sk h1 → ab_Fr [] h h1 → Q (some (.inl (mi_a h 96 (Int.toNat (mi_f h 13831))))) h1)) : me_E (d + 2) 126 0 [some (.inr (.inr 108)), some (.inl (zf))] [] h Q := Or.elim (mi_em .lt ((mi_f h 13831)) (((0 : Int)))) (fun c0 => ms_koch_0 hS ok_zf (c0) (fun h1 W => (k0 (me_fb hS rfl) c0) h1 W.1 (W.2.2.2.2.2 _ rfl))) (fun c0 => Or.elim (mi_em .ge ((mi_f h 13831)) (((100 : Int)))) (fun c1 => ms_koch_1 hS ok_zf ⟨c0, c1⟩ (fun h1 W => (k1 (me_fb hS rfl) c0 c1) h1 W.1 (W.2.2.2.2.2 _ rfl))) (fun c1 => ms_koch_2 hS ok_zf ⟨c0, c1, (k2 (me_fb hS rfl) c0 c1).1⟩ (fun h1 W => (k2 (me_fb hS rfl) c0 c1).2 h1 W.1 (W.2.2.2.2.2 _ rfl))))
set_option maxRecDepth 20000 in
theorem mp_koen_0 (h : sm_H) (d : Nat) (zk zv : Int) : mj_path [(115, (3, 1, sb_115))] sx_sk h 10 [8, 8] (d + 2, 115, 0, [some (.inr (.inr 108)), some (.inl (zk)), some (.inl (zv))], [], [], []) = some ((d + 2, 115, 16, [some (.inr (.inr 108)), some (.inl (zk)), some (.inl (zv))], [.inl (((mi_f h 13831) + ((1 : Int))) - ((1 : Int)))], [.inl (13831, (mi_f h 13831) + ((1 : Int)))], []), [-2147483648 ≤ (mi_f h 13831) + ((1 : Int)) ∧ (mi_f h 13831) + ((1 : Int)) ≤ 2147483647, -2147483648 ≤ ((mi_f h 13831) + ((1 : Int))) - ((1 : Int)) ∧ ((mi_f h 13831) + ((1 : Int))) - ((1 : Int)) ≤ 2147483647]) := rfl
theorem mi_tab_koen_0 : ∀ e ∈ ([(115, (3, 1, sb_115))] : mi_T), sc_P e.1 = some e.2 := mi_tb mi_P115 (mi_tb_e)
set_option maxRecDepth 20000 in
theorem ms_koen_0 {h : sm_H} {d : Nat} {Q : Option mi_V → sm_H → Prop} {zk zv : Int} (hS : ab_Sh sx_sk h) (ok_zk : mi_in zk) (ok_zv : mi_in zv) (ho : (-2147483648 ≤ (mi_f h 13831) + ((1 : Int)) ∧ (mi_f h 13831) + ((1 : Int)) ≤ 2147483647) ∧ (-2147483648 ≤ ((mi_f h 13831) + ((1 : Int))) - ((1 : Int)) ∧ ((mi_f h 13831) + ((1 : Int))) - ((1 : Int)) ≤ 2147483647)) (kon : ∀ h1, me_W [.inl (13831, (mi_f h 13831) + ((1 : Int)))] h h1 → Q (some (.inl (((mi_f h 13831) + ((1 : Int))) - ((1 : Int))))) h1) : me_E (d + 2) 115 0 [some (.inr (.inr 108)), some (.inl (zk)), some (.inl (zv))] [] h Q := mf_seg (mp_koen_0 h d zk zv) (mi_tab_koen_0) hS (mi_okL_c (trivial) (mi_okL_c (ok_zk) (mi_okL_c (ok_zv) (mi_okL_e)))) (mi_okS_e) (mi_al (ho.1) (mi_al (ho.2) (mi_al_e))) (fun h1 W _ hst => mf_ret (M := (3, 1, sb_115)) rfl rfl rfl hst (mi_al_e) (kon h1 W))
set_option maxRecDepth 20000 in
theorem mt_koen {h : sm_H} {d : Nat} {Q : Option mi_V → sm_H → Prop} {zk zv : Int} (hS : ab_Sh sx_sk h) (ok_zk : mi_in zk) (ok_zv : mi_in zv) (k0 : ((-2147483648) ≤ mi_f h 13831 ∧ mi_f h 13831 ≤ 2147483647) → ((-2147483648 ≤ (mi_f h 13831) + ((1 : Int)) ∧ (mi_f h 13831) + ((1 : Int)) ≤ 2147483647) ∧ (-2147483648 ≤ ((mi_f h 13831) + ((1 : Int))) - ((1 : Int)) ∧ ((mi_f h 13831) + ((1 : Int))) - ((1 : Int)) ≤ 2147483647)) ∧ (∀ h1, ab_Sh sx_sk h1 → mi_f h1 13831 = (mi_f h 13831) + ((1 : Int)) → ab_Fr [(13831, 13832)] h h1 → Q (some (.inl (((mi_f h 13831) + ((1 : Int))) - ((1 : Int))))) h1)) : me_E (d + 2) 115 0 [some (.inr (.inr 108)), some (.inl (zk)), some (.inl (zv))] [] h Q := ms_koen_0 hS ok_zk ok_zv ⟨(k0 (me_fb hS rfl)).1.1, (k0 (me_fb hS rfl)).1.2⟩ (fun h1 W => (k0 (me_fb hS rfl)).2 h1 W.1 (W.2.1 13831) (W.2.2.2.2.2 _ rfl))
/-! segments of the class: walkUse, walkForm, in printing -/
set_option maxRecDepth 20000 in
theorem mp_kruA_0 (h : sm_H) (d : Nat) (zr zd : Int) : mj_path [(113, (4, 0, sb_113)), (114, (1, 0, sb_114))] sx_sk h 7 [1] (d + 8, 113, 0, [some (.inr (.inr 108)), some (.inl (zr)), some (.inl (zd)), none], [], [], []) = some ((d + 8, 113, 17, [some (.inr (.inr 108)), some (.inl (zr)), some (.inl (zd)), none], [.inl (zr), .inl ((1 : Int)), .inr (.inr 108)], [], []), [(mi_f h 13829) < ((12 : Int))]) := rfl
theorem mi_tab_kruA_0 : ∀ e ∈ ([(113, (4, 0, sb_113)), (114, (1, 0, sb_114))] : mi_T), sc_P e.1 = some e.2 := mi_tb mi_P113 (mi_tb mi_P114 (mi_tb_e))
set_option maxRecDepth 20000 in
theorem ms_kruA_0 {h : sm_H} {d : Nat} {Q : Option mi_V → sm_H → Prop} {zr zd : Int} (hS : ab_Sh sx_sk h) (ok_zr : mi_in zr) (ok_zd : mi_in zd) (ho : ((mi_f h 13829) < ((12 : Int)))) (kon : ∀ h1, me_W [] h h1 → ∃ Q1, me_E (d + 7) 115 0 (mi_entry 3 [.inr (.inr 108), .inl ((1 : Int)), .inl (zr)]) [] h1 Q1 ∧ ∀ w h2, (∀ x, w = some x → mi_ok x) → Q1 w h2 → me_E (d + 8) 113 20 [some (.inr (.inr 108)), some (.inl (zr)), some (.inl (zd)), none] (mi_back w []) h2 Q) : me_E (d + 8) 113 0 [some (.inr (.inr 108)), some (.inl (zr)), some (.inl (zd)), none] [] h Q := mf_seg (mp_kruA_0 h d zr zd) (mi_tab_kruA_0) hS (mi_okL_c (trivial) (mi_okL_c (ok_zr) (mi_okL_c (ok_zd) (mi_okL_n (mi_okL_e))))) (mi_okS_e) (mi_al (ho) (mi_al_e)) (fun h1 W _ hst => let ⟨_, k1, k2⟩ := kon h1 W; mf_call (M := (4, 0, sb_113)) (M' := (3, 1, sb_115)) rfl rfl rfl rfl (Nat.le_of_ble_eq_true rfl) (Nat.le_of_ble_eq_true rfl) W.1 k1 k2)
set_option maxRecDepth 20000 in
theorem mp_kruA_1 (h : sm_H) (d : Nat) (zr zd : Int) : mj_path [(113, (4, 0, sb_113)), (114, (1, 0, sb_114))] sx_sk h 13 [0] (d + 8, 113, 0, [some (.inr (.inr 108)), some (.inl (zr)), some (.inl (zd)), none], [], [], []) = some ((d + 8, 113, 13, [some (.inr (.inr 108)), some (.inl (zr)), some (.inl (zd)), none], [], [.inl (13827, (1 : Int)), .inl (13828, (1 : Int))], []), [((12 : Int)) ≤ (mi_f h 13829), 0 ≤ ((1 : Int)) ∧ ((1 : Int)) ≤ 1, 0 ≤ ((1 : Int)) ∧ ((1 : Int)) ≤ 1, 0 ≤ ((1 : Int)) ∧ ((1 : Int)) ≤ 1, 0 ≤ ((1 : Int)) ∧ ((1 : Int)) ≤ 1]) := rfl
theorem mi_tab_kruA_1 : ∀ e ∈ ([(113, (4, 0, sb_113)), (114, (1, 0, sb_114))] : mi_T), sc_P e.1 = some e.2 := mi_tb mi_P113 (mi_tb mi_P114 (mi_tb_e))
set_option maxRecDepth 20000 in
theorem ms_kruA_1 {h : sm_H} {d : Nat} {Q : Option mi_V → sm_H → Prop} {zr zd : Int} (hS : ab_Sh sx_sk h) (ok_zr : mi_in zr) (ok_zd : mi_in zd) (ho : (((12 : Int)) ≤ (mi_f h 13829)) ∧ (0 ≤ ((1 : Int)) ∧ ((1 : Int)) ≤ 1) ∧ (0 ≤ ((1 : Int)) ∧ ((1 : Int)) ≤ 1) ∧ (0 ≤ ((1 : Int)) ∧ ((1 : Int)) ≤ 1) ∧ (0 ≤ ((1 : Int)) ∧ ((1 : Int)) ≤ 1)) (kon : ∀ h1, me_W [.inl (13827, (1 : Int)), .inl (13828, (1 : Int))] h h1 → Q none h1) : me_E (d + 8) 113 0 [some (.inr (.inr 108)), some (.inl (zr)), some (.inl (zd)), none] [] h Q := mf_seg (mp_kruA_1 h d zr zd) (mi_tab_kruA_1) hS (mi_okL_c (trivial) (mi_okL_c (ok_zr) (mi_okL_c (ok_zd) (mi_okL_n (mi_okL_e))))) (mi_okS_e) (mi_al (ho.1) (mi_al (ho.2.1) (mi_al (ho.2.2.1) (mi_al (ho.2.2.2.1) (mi_al (ho.2.2.2.2) (mi_al_e)))))) (fun h1 W _ hst => mf_ret (M := (4, 0, sb_113)) rfl rfl rfl hst (mi_al_e) (kon h1 W))
set_option maxRecDepth 20000 in
theorem mt_kruA {h : sm_H} {d : Nat} {Q : Option mi_V → sm_H → Prop} {zr zd : Int} (hS : ab_Sh sx_sk h) (ok_zr : mi_in zr) (ok_zd : mi_in zd) (k0 : ((-2147483648) ≤ mi_f h 13829 ∧ mi_f h 13829 ≤ 2147483647) → ((mi_f h 13829) < ((12 : Int))) → (∀ h1, ab_Sh sx_sk h1 → ab_Fr [] h h1 → ∃ Q1, me_E (d + 7) 115 0 (mi_entry 3 [.inr (.inr 108), .inl ((1 : Int)), .inl (zr)]) [] h1 Q1 ∧ ∀ w h2, (∀ x, w = some x → mi_ok x) → Q1 w h2 → me_E (d + 8) 113 20 [some (.inr (.inr 108)), some (.inl (zr)), some (.inl (zd)), none] (mi_back w []) h2 Q)) (k1 : ((-2147483648) ≤ mi_f h 13829 ∧ mi_f h 13829 ≤ 2147483647) → (((12 : Int)) ≤ (mi_f h 13829)) → (∀ h1, ab_Sh sx_sk h1 → mi_f h1 13827 = (1 : Int) → mi_f h1 13828 = (1 : Int) → ab_Fr [(13827, 13829)] h h1 → Q none h1)) : me_E (d + 8) 113 0 [some (.inr (.inr 108)), some (.inl (zr)), some (.inl (zd)), none] [] h Q := Or.elim (mi_em .lt ((mi_f h 13829)) (((12 : Int)))) (fun c0 => ms_kruA_0 hS ok_zr ok_zd (c0) (fun h1 W => (k0 (me_fb hS rfl) c0) h1 W.1 (W.2.2.2.2.2 _ rfl))) (fun c0 => ms_kruA_1 hS ok_zr ok_zd ⟨c0, (by decide), (by decide), (by decide), (by decide)⟩ (fun h1 W => (k1 (me_fb hS rfl) c0) h1 W.1 (W.2.1 13827) (W.2.1 13828) (W.2.2.2.2.2 _ rfl)))
set_option maxRecDepth 20000 in
theorem mp_kruB_0 (h : sm_H) (d : Nat) (zr zd zz : Int) : mj_path [(113, (4, 0, sb_113)), (119, (1, 0, sb_119))] sx_sk h 13 [8] (d + 8, 113, 20, [some (.inr (.inr 108)), some (.inl (zr)), some (.inl (zd)), none], [.inl (zz)], [], []) = some ((d + 8, 113, 38, [some (.inr (.inr 108)), some (.inl (zr)), some (.inl (zd)), some (.inl (zz))], [.inl (zd), .inl (zr), .inr (.inr 108)], [.inl (13829, (mi_f h 13829) + ((1 : Int)))], []), [-2147483648 ≤ (mi_f h 13829) + ((1 : Int)) ∧ (mi_f h 13829) + ((1 : Int)) ≤ 2147483647]) := rfl
theorem mi_tab_kruB_0 : ∀ e ∈ ([(113, (4, 0, sb_113)), (119, (1, 0, sb_119))] : mi_T), sc_P e.1 = some e.2 := mi_tb mi_P113 (mi_tb mi_P119 (mi_tb_e))
set_option maxRecDepth 20000 in
theorem ms_kruB_0 {h : sm_H} {d : Nat} {Q : Option mi_V → sm_H → Prop} {zr zd zz : Int} (hS : ab_Sh sx_sk h) (ok_zr : mi_in zr) (ok_zd : mi_in zd) (ok_zz : mi_in zz) (ho : (-2147483648 ≤ (mi_f h 13829) + ((1 : Int)) ∧ (mi_f h 13829) + ((1 : Int)) ≤ 2147483647)) (kon : ∀ h1, me_W [.inl (13829, (mi_f h 13829) + ((1 : Int)))] h h1 → ∃ Q1, me_E (d + 7) 120 0 (mi_entry 11 [.inr (.inr 108), .inl (zr), .inl (zd)]) [] h1 Q1 ∧ ∀ w h2, (∀ x, w = some x → mi_ok x) → Q1 w h2 → me_E (d + 8) 113 41 [some (.inr (.inr 108)), some (.inl (zr)), some (.inl (zd)), some (.inl (zz))] (mi_back w []) h2 Q) : me_E (d + 8) 113 20 [some (.inr (.inr 108)), some (.inl (zr)), some (.inl (zd)), none] [.inl (zz)] h Q := mf_seg (mp_kruB_0 h d zr zd zz) (mi_tab_kruB_0) hS (mi_okL_c (trivial) (mi_okL_c (ok_zr) (mi_okL_c (ok_zd) (mi_okL_n (mi_okL_e))))) (mi_okS_cons (ok_zz) (mi_okS_e)) (mi_al (ho) (mi_al_e)) (fun h1 W _ hst => let ⟨_, k1, k2⟩ := kon h1 W; mf_call (M := (4, 0, sb_113)) (M' := (11, 0, sb_120)) rfl rfl rfl rfl (Nat.le_of_ble_eq_true rfl) (Nat.le_of_ble_eq_true rfl) W.1 k1 k2)
set_option maxRecDepth 20000 in
theorem mt_kruB {h : sm_H} {d : Nat} {Q : Option mi_V → sm_H → Prop} {zr zd zz : Int} (hS : ab_Sh sx_sk h) (ok_zr : mi_in zr) (ok_zd : mi_in zd) (ok_zz : mi_in zz) (k0 : ((-2147483648) ≤ mi_f h 13829 ∧ mi_f h 13829 ≤ 2147483647) → ((-2147483648 ≤ (mi_f h 13829) + ((1 : Int)) ∧ (mi_f h 13829) + ((1 : Int)) ≤ 2147483647)) ∧ (∀ h1, ab_Sh sx_sk h1 → mi_f h1 13829 = (mi_f h 13829) + ((1 : Int)) → ab_Fr [(13829, 13830)] h h1 → ∃ Q1, me_E (d + 7) 120 0 (mi_entry 11 [.inr (.inr 108), .inl (zr), .inl (zd)]) [] h1 Q1 ∧ ∀ w h2, (∀ x, w = some x → mi_ok x) → Q1 w h2 → me_E (d + 8) 113 41 [some (.inr (.inr 108)), some (.inl (zr)), some (.inl (zd)), some (.inl (zz))] (mi_back w []) h2 Q)) : me_E (d + 8) 113 20 [some (.inr (.inr 108)), some (.inl (zr)), some (.inl (zd)), none] [.inl (zz)] h Q := ms_kruB_0 hS ok_zr ok_zd ok_zz ((k0 (me_fb hS rfl)).1) (fun h1 W => (k0 (me_fb hS rfl)).2 h1 W.1 (W.2.1 13829) (W.2.2.2.2.2 _ rfl))
set_option maxRecDepth 20000 in
theorem mp_kruC_0 (h : sm_H) (d : Nat) (zr zd zz : Int) : mj_path [(113, (4, 0, sb_113)), (146, (2, 0, sb_146))] sx_sk h 10 [8] (d + 8, 113, 41, [some (.inr (.inr 108)), some (.inl (zr)), some (.inl (zd)), some (.inl (zz))], [], [], []) = some ((d + 8, 113, 56, [some (.inr (.inr 108)), some (.inl (zr)), some (.inl (zd)), some (.inl (zz))], [], [.inl (13829, (mi_f h 13829) - ((1 : Int)))], []), [-2147483648 ≤ (mi_f h 13829) - ((1 : Int)) ∧ (mi_f h 13829) - ((1 : Int)) ≤ 2147483647]) := rfl
theorem mi_tab_kruC_0 : ∀ e ∈ ([(113, (4, 0, sb_113)), (146, (2, 0, sb_146))] : mi_T), sc_P e.1 = some e.2 := mi_tb mi_P113 (mi_tb mi_P146 (mi_tb_e))
set_option maxRecDepth 20000 in
theorem ms_kruC_0 {h : sm_H} {d : Nat} {Q : Option mi_V → sm_H → Prop} {zr zd zz : Int} (hS : ab_Sh sx_sk h) (ok_zr : mi_in zr) (ok_zd : mi_in zd) (ok_zz : mi_in zz) (ho : (-2147483648 ≤ (mi_f h 13829) - ((1 : Int)) ∧ (mi_f h 13829) - ((1 : Int)) ≤ 2147483647)) (kon : ∀ h1, me_W [.inl (13829, (mi_f h 13829) - ((1 : Int)))] h h1 → Q none h1) : me_E (d + 8) 113 41 [some (.inr (.inr 108)), some (.inl (zr)), some (.inl (zd)), some (.inl (zz))] [] h Q := mf_seg (mp_kruC_0 h d zr zd zz) (mi_tab_kruC_0) hS (mi_okL_c (trivial) (mi_okL_c (ok_zr) (mi_okL_c (ok_zd) (mi_okL_c (ok_zz) (mi_okL_e))))) (mi_okS_e) (mi_al (ho) (mi_al_e)) (fun h1 W _ hst => mf_ret (M := (4, 0, sb_113)) rfl rfl rfl hst (mi_al_e) (kon h1 W))
set_option maxRecDepth 20000 in
theorem mt_kruC {h : sm_H} {d : Nat} {Q : Option mi_V → sm_H → Prop} {zr zd zz : Int} (hS : ab_Sh sx_sk h) (ok_zr : mi_in zr) (ok_zd : mi_in zd) (ok_zz : mi_in zz) (k0 : ((-2147483648) ≤ mi_f h 13829 ∧ mi_f h 13829 ≤ 2147483647) → ((-2147483648 ≤ (mi_f h 13829) - ((1 : Int)) ∧ (mi_f h 13829) - ((1 : Int)) ≤ 2147483647)) ∧ (∀ h1, ab_Sh sx_sk h1 → mi_f h1 13829 = (mi_f h 13829) - ((1 : Int)) → ab_Fr [(13829, 13830)] h h1 → Q none h1)) : me_E (d + 8) 113 41 [some (.inr (.inr 108)), some (.inl (zr)), some (.inl (zd)), some (.inl (zz))] [] h Q := ms_kruC_0 hS ok_zr ok_zd ok_zz ((k0 (me_fb hS rfl)).1) (fun h1 W => (k0 (me_fb hS rfl)).2 h1 W.1 (W.2.1 13829) (W.2.2.2.2.2 _ rfl))
set_option maxRecDepth 20000 in
theorem mp_krwA_0 (h : sm_H) (d : Nat) (zf zd : Int) : mj_path [(120, (11, 0, sb_120)), (16, (3, 0, sb_16)), (49, (2, 1, sb_49)), (72, (2, 2, sb_72))] sx_sk h 6 [1] (d + 7, 120, 0, [some (.inr (.inr 108)), some (.inl (zf)), some (.inl (zd)), none, none, none, none, none, none, none, none], [], [], []) = some ((d + 7, 120, 18, [some (.inr (.inr 108)), some (.inl (zf)), some (.inl (zd)), none, none, none, none, none, none, none, none], [], [.inl (13827, (1 : Int))], []), [(mi_f h 13827) ≠ ((0 : Int)), 0 ≤ ((1 : Int)) ∧ ((1 : Int)) ≤ 1, 0 ≤ ((1 : Int)) ∧ ((1 : Int)) ≤ 1]) := rfl
theorem mi_tab_krwA_0 : ∀ e ∈ ([(120, (11, 0, sb_120)), (16, (3, 0, sb_16)), (49, (2, 1, sb_49)), (72, (2, 2, sb_72))] : mi_T), sc_P e.1 = some e.2 := mi_tb mi_P120 (mi_tb mi_P16 (mi_tb mi_P49 (mi_tb mi_P72 (mi_tb_e))))
set_option maxRecDepth 20000 in
theorem ms_krwA_0 {h : sm_H} {d : Nat} {Q : Option mi_V → sm_H → Prop} {zf zd : Int} (hS : ab_Sh sx_sk h) (ok_zf : mi_in zf) (ok_zd : mi_in zd) (ho : ((mi_f h 13827) ≠ ((0 : Int))) ∧ (0 ≤ ((1 : Int)) ∧ ((1 : Int)) ≤ 1) ∧ (0 ≤ ((1 : Int)) ∧ ((1 : Int)) ≤ 1)) (kon : ∀ h1, me_W [.inl (13827, (1 : Int))] h h1 → Q none h1) : me_E (d + 7) 120 0 [some (.inr (.inr 108)), some (.inl (zf)), some (.inl (zd)), none, none, none, none, none, none, none, none] [] h Q := mf_seg (mp_krwA_0 h d zf zd) (mi_tab_krwA_0) hS (mi_okL_c (trivial) (mi_okL_c (ok_zf) (mi_okL_c (ok_zd) (mi_okL_n (mi_okL_n (mi_okL_n (mi_okL_n (mi_okL_n (mi_okL_n (mi_okL_n (mi_okL_n (mi_okL_e)))))))))))) (mi_okS_e) (mi_al (ho.1) (mi_al (ho.2.1) (mi_al (ho.2.2) (mi_al_e)))) (fun h1 W _ hst => mf_ret (M := (11, 0, sb_120)) rfl rfl rfl hst (mi_al_e) (kon h1 W))
set_option maxRecDepth 20000 in
theorem mp_krwA_1 (h : sm_H) (d : Nat) (zf zd : Int) : mj_path [(120, (11, 0, sb_120)), (16, (3, 0, sb_16)), (49, (2, 1, sb_49)), (72, (2, 2, sb_72))] sx_sk h 23 [0, 1, 1, 1, 1] (d + 7, 120, 0, [some (.inr (.inr 108)), some (.inl (zf)), some (.inl (zd)), none, none, none, none, none, none, none, none], [], [], []) = some ((d + 7, 120, 55, [some (.inr (.inr 108)), some (.inl (zf)), some (.inl (zd)), some (.inl ((0 : Int))), some (.inl ((0 : Int))), none, none, none, none, none, none], [], [], []), [(mi_f h 13827) = ((0 : Int)), zd < ((60 : Int)), zf < ((0 : Int)), ((0 : Int)) ≤ ((1 : Int)), ((0 : Int)) = ((0 : Int))]) := rfl
theorem mi_tab_krwA_1 : ∀ e ∈ ([(120, (11, 0, sb_120)), (16, (3, 0, sb_16)), (49, (2, 1, sb_49)), (72, (2, 2, sb_72))] : mi_T), sc_P e.1 = some e.2 := mi_tb mi_P120 (mi_tb mi_P16 (mi_tb mi_P49 (mi_tb mi_P72 (mi_tb_e))))
set_option maxRecDepth 20000 in
theorem ms_krwA_1 {h : sm_H} {d : Nat} {Q : Option mi_V → sm_H → Prop} {zf zd : Int} (hS : ab_Sh sx_sk h) (ok_zf : mi_in zf) (ok_zd : mi_in zd) (ho : ((mi_f h 13827) = ((0 : Int))) ∧ (zd < ((60 : Int))) ∧ (zf < ((0 : Int))) ∧ (((0 : Int)) ≤ ((1 : Int))) ∧ (((0 : Int)) = ((0 : Int)))) (kon : ∀ h1, me_W [] h h1 → me_E (d + 7) 120 55 [some (.inr (.inr 108)), some (.inl (zf)), some (.inl (zd)), some (.inl ((0 : Int))), some (.inl ((0 : Int))), none, none, none, none, none, none] [] h1 Q) : me_E (d + 7) 120 0 [some (.inr (.inr 108)), some (.inl (zf)), some (.inl (zd)), none, none, none, none, none, none, none, none] [] h Q := mf_seg (mp_krwA_1 h d zf zd) (mi_tab_krwA_1) hS (mi_okL_c (trivial) (mi_okL_c (ok_zf) (mi_okL_c (ok_zd) (mi_okL_n (mi_okL_n (mi_okL_n (mi_okL_n (mi_okL_n (mi_okL_n (mi_okL_n (mi_okL_n (mi_okL_e)))))))))))) (mi_okS_e) (mi_al (ho.1) (mi_al (ho.2.1) (mi_al (ho.2.2.1) (mi_al (ho.2.2.2.1) (mi_al (ho.2.2.2.2) (mi_al_e)))))) (fun h1 W _ hst => kon h1 W)
set_option maxRecDepth 20000 in
theorem mp_krwA_2 (h : sm_H) (d : Nat) (zf zd : Int) : mj_path [(120, (11, 0, sb_120)), (16, (3, 0, sb_16)), (49, (2, 1, sb_49)), (72, (2, 2, sb_72))] sx_sk h 27 [0, 1, 0, 1, 1, 1] (d + 7, 120, 0, [some (.inr (.inr 108)), some (.inl (zf)), some (.inl (zd)), none, none, none, none, none, none, none, none], [], [], []) = some ((d + 7, 120, 55, [some (.inr (.inr 108)), some (.inl (zf)), some (.inl (zd)), some (.inl ((0 : Int))), some (.inl ((0 : Int))), none, none, none, none, none, none], [], [], []), [(mi_f h 13827) = ((0 : Int)), zd < ((60 : Int)), ((0 : Int)) ≤ zf, ((70 : Int)) ≤ zf, ((0 : Int)) ≤ ((1 : Int)), ((0 : Int)) = ((0 : Int))]) := rfl
theorem mi_tab_krwA_2 : ∀ e ∈ ([(120, (11, 0, sb_120)), (16, (3, 0, sb_16)), (49, (2, 1, sb_49)), (72, (2, 2, sb_72))] : mi_T), sc_P e.1 = some e.2 := mi_tb mi_P120 (mi_tb mi_P16 (mi_tb mi_P49 (mi_tb mi_P72 (mi_tb_e))))
set_option maxRecDepth 20000 in
theorem ms_krwA_2 {h : sm_H} {d : Nat} {Q : Option mi_V → sm_H → Prop} {zf zd : Int} (hS : ab_Sh sx_sk h) (ok_zf : mi_in zf) (ok_zd : mi_in zd) (ho : ((mi_f h 13827) = ((0 : Int))) ∧ (zd < ((60 : Int))) ∧ (((0 : Int)) ≤ zf) ∧ (((70 : Int)) ≤ zf) ∧ (((0 : Int)) ≤ ((1 : Int))) ∧ (((0 : Int)) = ((0 : Int)))) (kon : ∀ h1, me_W [] h h1 → me_E (d + 7) 120 55 [some (.inr (.inr 108)), some (.inl (zf)), some (.inl (zd)), some (.inl ((0 : Int))), some (.inl ((0 : Int))), none, none, none, none, none, none] [] h1 Q) : me_E (d + 7) 120 0 [some (.inr (.inr 108)), some (.inl (zf)), some (.inl (zd)), none, none, none, none, none, none, none, none] [] h Q := mf_seg (mp_krwA_2 h d zf zd) (mi_tab_krwA_2) hS (mi_okL_c (trivial) (mi_okL_c (ok_zf) (mi_okL_c (ok_zd) (mi_okL_n (mi_okL_n (mi_okL_n (mi_okL_n (mi_okL_n (mi_okL_n (mi_okL_n (mi_okL_n (mi_okL_e)))))))))))) (mi_okS_e) (mi_al (ho.1) (mi_al (ho.2.1) (mi_al (ho.2.2.1) (mi_al (ho.2.2.2.1) (mi_al (ho.2.2.2.2.1) (mi_al (ho.2.2.2.2.2) (mi_al_e))))))) (fun h1 W _ hst => kon h1 W)
set_option maxRecDepth 20000 in
theorem mp_krwA_3 (h : sm_H) (d : Nat) (zf zd : Int) : mj_path [(120, (11, 0, sb_120)), (16, (3, 0, sb_16)), (49, (2, 1, sb_49)), (72, (2, 2, sb_72))] sx_sk h 30 [0, 1, 0, 0, 1, 1] (d + 7, 120, 0, [some (.inr (.inr 108)), some (.inl (zf)), some (.inl (zd)), none, none, none, none, none, none, none, none], [], [], []) = some ((d + 7, 120, 55, [some (.inr (.inr 108)), some (.inl (zf)), some (.inl (zd)), some (.inl ((0 : Int))), some (.inl ((0 : Int))), none, none, none, none, none, none], [], [], []), [(mi_f h 13827) = ((0 : Int)), zd < ((60 : Int)), ((0 : Int)) ≤ zf, zf < ((70 : Int)), 0 ≤ zf ∧ zf < 70, (mi_a h 64 (Int.toNat zf)) ≤ ((1 : Int)), ((0 : Int)) = ((0 : Int))]) := rfl
theorem mi_tab_krwA_3 : ∀ e ∈ ([(120, (11, 0, sb_120)), (16, (3, 0, sb_16)), (49, (2, 1, sb_49)), (72, (2, 2, sb_72))] : mi_T), sc_P e.1 = some e.2 := mi_tb mi_P120 (mi_tb mi_P16 (mi_tb mi_P49 (mi_tb mi_P72 (mi_tb_e))))
set_option maxRecDepth 20000 in
theorem ms_krwA_3 {h : sm_H} {d : Nat} {Q : Option mi_V → sm_H → Prop} {zf zd : Int} (hS : ab_Sh sx_sk h) (ok_zf : mi_in zf) (ok_zd : mi_in zd) (ho : ((mi_f h 13827) = ((0 : Int))) ∧ (zd < ((60 : Int))) ∧ (((0 : Int)) ≤ zf) ∧ (zf < ((70 : Int))) ∧ (0 ≤ zf ∧ zf < 70) ∧ ((mi_a h 64 (Int.toNat zf)) ≤ ((1 : Int))) ∧ (((0 : Int)) = ((0 : Int)))) (kon : ∀ h1, me_W [] h h1 → me_E (d + 7) 120 55 [some (.inr (.inr 108)), some (.inl (zf)), some (.inl (zd)), some (.inl ((0 : Int))), some (.inl ((0 : Int))), none, none, none, none, none, none] [] h1 Q) : me_E (d + 7) 120 0 [some (.inr (.inr 108)), some (.inl (zf)), some (.inl (zd)), none, none, none, none, none, none, none, none] [] h Q := mf_seg (mp_krwA_3 h d zf zd) (mi_tab_krwA_3) hS (mi_okL_c (trivial) (mi_okL_c (ok_zf) (mi_okL_c (ok_zd) (mi_okL_n (mi_okL_n (mi_okL_n (mi_okL_n (mi_okL_n (mi_okL_n (mi_okL_n (mi_okL_n (mi_okL_e)))))))))))) (mi_okS_e) (mi_al (ho.1) (mi_al (ho.2.1) (mi_al (ho.2.2.1) (mi_al (ho.2.2.2.1) (mi_al (ho.2.2.2.2.1) (mi_al (ho.2.2.2.2.2.1) (mi_al (ho.2.2.2.2.2.2) (mi_al_e)))))))) (fun h1 W _ hst => kon h1 W)
set_option maxRecDepth 20000 in
theorem mp_krwA_4 (h : sm_H) (d : Nat) (zf zd : Int) : mj_path [(120, (11, 0, sb_120)), (16, (3, 0, sb_16)), (49, (2, 1, sb_49)), (72, (2, 2, sb_72))] sx_sk h 31 [0, 1, 0, 0, 0, 0] (d + 7, 120, 0, [some (.inr (.inr 108)), some (.inl (zf)), some (.inl (zd)), none, none, none, none, none, none, none, none], [], [], []) = some ((d + 7, 120, 46, [some (.inr (.inr 108)), some (.inl (zf)), some (.inl (zd)), some (.inl ((1 : Int))), none, none, none, none, none, none, none], [.inl (zf), .inr (.inr 108)], [], []), [(mi_f h 13827) = ((0 : Int)), zd < ((60 : Int)), ((0 : Int)) ≤ zf, zf < ((70 : Int)), 0 ≤ zf ∧ zf < 70, ((1 : Int)) < (mi_a h 64 (Int.toNat zf)), ((1 : Int)) ≠ ((0 : Int))]) := rfl
theorem mi_tab_krwA_4 : ∀ e ∈ ([(120, (11, 0, sb_120)), (16, (3, 0, sb_16)), (49, (2, 1, sb_49)), (72, (2, 2, sb_72))] : mi_T), sc_P e.1 = some e.2 := mi_tb mi_P120 (mi_tb mi_P16 (mi_tb mi_P49 (mi_tb mi_P72 (mi_tb_e))))
set_option maxRecDepth 20000 in
theorem ms_krwA_4 {h : sm_H} {d : Nat} {Q : Option mi_V → sm_H → Prop} {zf zd : Int} (hS : ab_Sh sx_sk h) (ok_zf : mi_in zf) (ok_zd : mi_in zd) (ho : ((mi_f h 13827) = ((0 : Int))) ∧ (zd < ((60 : Int))) ∧ (((0 : Int)) ≤ zf) ∧ (zf < ((70 : Int))) ∧ (0 ≤ zf ∧ zf < 70) ∧ (((1 : Int)) < (mi_a h 64 (Int.toNat zf))) ∧ (((1 : Int)) ≠ ((0 : Int)))) (kon : ∀ h1, me_W [] h h1 → ∃ Q1, me_E (d + 6) 126 0 (mi_entry 2 [.inr (.inr 108), .inl (zf)]) [] h1 Q1 ∧ ∀ w h2, (∀ x, w = some x → mi_ok x) → Q1 w h2 → me_E (d + 7) 120 49 [some (.inr (.inr 108)), some (.inl (zf)), some (.inl (zd)), some (.inl ((1 : Int))), none, none, none, none, none, none, none] (mi_back w []) h2 Q) : me_E (d + 7) 120 0 [some (.inr (.inr 108)), some (.inl (zf)), some (.inl (zd)), none, none, none, none, none, none, none, none] [] h Q := mf_seg (mp_krwA_4 h d zf zd) (mi_tab_krwA_4) hS (mi_okL_c (trivial) (mi_okL_c (ok_zf) (mi_okL_c (ok_zd) (mi_okL_n (mi_okL_n (mi_okL_n (mi_okL_n (mi_okL_n (mi_okL_n (mi_okL_n (mi_okL_n (mi_okL_e)))))))))))) (mi_okS_e) (mi_al (ho.1) (mi_al (ho.2.1) (mi_al (ho.2.2.1) (mi_al (ho.2.2.2.1) (mi_al (ho.2.2.2.2.1) (mi_al (ho.2.2.2.2.2.1) (mi_al (ho.2.2.2.2.2.2) (mi_al_e)))))))) (fun h1 W _ hst => let ⟨_, k1, k2⟩ := kon h1 W; mf_call (M := (11, 0, sb_120)) (M' := (2, 1, sb_126)) rfl rfl rfl rfl (Nat.le_of_ble_eq_true rfl) (Nat.le_of_ble_eq_true rfl) W.1 k1 k2)
set_option maxRecDepth 20000 in
theorem mp_krwA_5 (h : sm_H) (d : Nat) (zf zd : Int) : mj_path [(120, (11, 0, sb_120)), (16, (3, 0, sb_16)), (49, (2, 1, sb_49)), (72, (2, 2, sb_72))] sx_sk h 9 [0, 0] (d + 7, 120, 0, [some (.inr (.inr 108)), some (.inl (zf)), some (.inl (zd)), none, none, none, none, none, none, none, none], [], [], []) = some ((d + 7, 120, 18, [some (.inr (.inr 108)), some (.inl (zf)), some (.inl (zd)), none, none, none, none, none, none, none, none], [], [.inl (13827, (1 : Int))], []), [(mi_f h 13827) = ((0 : Int)), ((60 : Int)) ≤ zd, 0 ≤ ((1 : Int)) ∧ ((1 : Int)) ≤ 1, 0 ≤ ((1 : Int)) ∧ ((1 : Int)) ≤ 1]) := rfl
theorem mi_tab_krwA_5 : ∀ e ∈ ([(120, (11, 0, sb_120)), (16, (3, 0, sb_16)), (49, (2, 1, sb_49)), (72, (2, 2, sb_72))] : mi_T), sc_P e.1 = some e.2 := mi_tb mi_P120 (mi_tb mi_P16 (mi_tb mi_P49 (mi_tb mi_P72 (mi_tb_e))))
set_option maxRecDepth 20000 in
theorem ms_krwA_5 {h : sm_H} {d : Nat} {Q : Option mi_V → sm_H → Prop} {zf zd : Int} (hS : ab_Sh sx_sk h) (ok_zf : mi_in zf) (ok_zd : mi_in zd) (ho : ((mi_f h 13827) = ((0 : Int))) ∧ (((60 : Int)) ≤ zd) ∧ (0 ≤ ((1 : Int)) ∧ ((1 : Int)) ≤ 1) ∧ (0 ≤ ((1 : Int)) ∧ ((1 : Int)) ≤ 1)) (kon : ∀ h1, me_W [.inl (13827, (1 : Int))] h h1 → Q none h1) : me_E (d + 7) 120 0 [some (.inr (.inr 108)), some (.inl (zf)), some (.inl (zd)), none, none, none, none, none, none, none, none] [] h Q := mf_seg (mp_krwA_5 h d zf zd) (mi_tab_krwA_5) hS (mi_okL_c (trivial) (mi_okL_c (ok_zf) (mi_okL_c (ok_zd) (mi_okL_n (mi_okL_n (mi_okL_n (mi_okL_n (mi_okL_n (mi_okL_n (mi_okL_n (mi_okL_n (mi_okL_e)))))))))))) (mi_okS_e) (mi_al (ho.1) (mi_al (ho.2.1) (mi_al (ho.2.2.1) (mi_al (ho.2.2.2) (mi_al_e))))) (fun h1 W _ hst => mf_ret (M := (11, 0, sb_120)) rfl rfl rfl hst (mi_al_e) (kon h1 W))
set_option maxRecDepth 20000 in
theorem mt_krwA {h : sm_H} {d : Nat} {Q : Option mi_V → sm_H → Prop} {zf zd : Int} (hS : ab_Sh sx_sk h) (ok_zf : mi_in zf) (ok_zd : mi_in zd) (k0 : (0 ≤ mi_f h 13827 ∧ mi_f h 13827 ≤ 1) → ((mi_f h 13827) ≠ ((0 : Int))) → (∀ h1, ab_Sh sx_sk h1 → mi_f h1 13827 = (1 : Int) → ab_Fr [(13827, 13828)] h h1 → Q none h1)) (k1 : (0 ≤ mi_f h 13827 ∧ mi_f h 13827 ≤ 1) → ((mi_f h 13827) = ((0 : Int))) → (zd < ((60 : Int))) → (zf < ((0 : Int))) → (∀ h1, ab_Sh sx_sk h1 → ab_Fr [] h h1 → me_E (d + 7) 120 55 [some (.inr (.inr 108)), some (.inl (zf)), some (.inl (zd)), some (.inl ((0 : Int))), some (.inl ((0 : Int))), none, none, none, none, none, none] [] h1 Q)) (k2 : (0 ≤ mi_f h 13827 ∧ mi_f h 13827 ≤ 1) → ((mi_f h 13827) = ((0 : Int))) → (zd < ((60 : Int))) → (((0 : Int)) ≤ zf) → (((70 : Int)) ≤ zf) → (∀ h1, ab_Sh sx_sk h1 → ab_Fr [] h h1 → me_E (d + 7) 120 55 [some (.inr (.inr 108)), some (.inl (zf)), some (.inl (zd)), some (.inl ((0 : Int))), some (.inl ((0 : Int))), none, none, none, none, none, none] [] h1 Q)) (k3 : (0 ≤ mi_f h 13827 ∧ mi_f h 13827 ≤ 1) → ((mi_f h 13827) = ((0 : Int))) → (zd < ((60 : Int))) → (((0 : Int)) ≤ zf) → (zf < ((70 : Int))) → ((mi_a h 64 (Int.toNat zf)) ≤ ((1 : Int))) → ((0 ≤ zf ∧ zf < 70)) ∧ (∀ h1, ab_Sh sx_sk h1 → ab_Fr [] h h1 → me_E (d + 7) 120 55 [some (.inr (.inr 108)), some (.inl (zf)), some (.inl (zd)), some (.inl ((0 : Int))), some (.inl ((0 : Int))), none, none, none, none, none, none] [] h1 Q)) (k4 : (0 ≤ mi_f h 13827 ∧ mi_f h 13827 ≤ 1) → ((mi_f h 13827) = ((0 : Int))) → (zd < ((60 : Int))) → (((0 : Int)) ≤ zf) → (zf < ((70 : Int))) → (((1 : Int)) < (mi_a h 64 (Int.toNat zf))) → ((0 ≤ zf ∧ zf < 70)) ∧ (∀ h1, ab_Sh sx_sk h1 → ab_Fr [] h h1 → ∃ Q1, me_E (d + 6) 126 0 (mi_entry 2 [.inr (.inr 108), .inl (zf)]) [] h1 Q1 ∧ ∀ w h2, (∀ x, w = some x → mi_ok x) → Q1 w h2 → me_E (d + 7) 120 49 [some (.inr (.inr 108)), some (.inl (zf)), some (.inl (zd)), some (.inl ((1 : Int))), none, none, none, none, none, none, none] (mi_back w []) h2 Q)) (k5 : (0 ≤ mi_f h 13827 ∧ mi_f h 13827 ≤ 1) → ((mi_f h 13827) = ((0 : Int))) → (((60 : Int)) ≤ zd) → (∀ h1, ab_Sh sx_sk h1 → mi_f h1 13827 = (1 : Int) → ab_Fr [(13827, 13828)] h h1 → Q none h1)) : me_E (d + 7) 120 0 [some (.inr (.inr 108)), some (.inl (zf)), some (.inl (zd)), none, none, none, none, none, none, none, none] [] h Q := Or.elim (mi_em .ne ((mi_f h 13827)) (((0 : Int)))) (fun c0 => ms_krwA_0 hS ok_zf ok_zd ⟨c0, (by decide), (by decide)⟩ (fun h1 W => (k0 (me_fb hS rfl) c0) h1 W.1 (W.2.1 13827) (W.2.2.2.2.2 _ rfl))) (fun c0 => Or.elim (mi_em .lt (zd) (((60 : Int)))) (fun c1 => Or.elim (mi_em .lt (zf) (((0 : Int)))) (fun c2 => ms_krwA_1 hS ok_zf ok_zd ⟨c0, c1, c2, (by decide), (by decide)⟩ (fun h1 W => (k1 (me_fb hS rfl) c0 c1 c2) h1 W.1 (W.2.2.2.2.2 _ rfl))) (fun c2 => Or.elim (mi_em .ge (zf) (((70 : Int)))) (fun c3 => ms_krwA_2 hS ok_zf ok_zd ⟨c0, c1, c2, c3, (by decide), (by decide)⟩ (fun h1 W => (k2 (me_fb hS rfl) c0 c1 c2 c3) h1 W.1 (W.2.2.2.2.2 _ rfl))) (fun c3 => Or.elim (mi_em .le ((mi_a h 64 (Int.toNat zf))) (((1 : Int)))) (fun c4 => ms_krwA_3 hS ok_zf ok_zd ⟨c0, c1, c2, c3, (k3 (me_fb hS rfl) c0 c1 c2 c3 c4).1, c4, (by decide)⟩ (fun h1 W => (k3 (me_fb hS rfl) c0 c1 c2 c3 c4).2 h1 W.1 (W.2.2.2.2.2 _ rfl))) (fun c4 => ms_krwA_4 hS ok_zf ok_zd ⟨c0, c1, c2, c3, (k4 (me_fb hS rfl) c0 c1 c2 c3 c4).1, c4, (by decide)⟩ (fun h1 W => (k4 (me_fb hS rfl) c0 c1 c2 c3 c4).2 h1 W.1 (W.2.2.2.2.2 _ rfl)))))) (fun c1 => ms_krwA_5 hS ok_zf ok_zd ⟨c0, c1, (by decide), (by decide)⟩ (fun h1 W => (k5 (me_fb hS rfl) c0 c1) h1 W.1 (W.2.1 13827) (W.2.2.2.2.2 _ rfl))))
set_option maxRecDepth 20000 in
theorem mp_krwB_0 (h : sm_H) (d : Nat) (zf zd zi zz : Int) : mj_path [(120, (11, 0, sb_120))] sx_sk h 2 [] (d + 11, 120, 49, [some (.inr (.inr 108)), some (.inl (zf)), some (.inl (zd)), some (.inl (zi)), none, none, none, none, none, none, none], [.inl (zz)], [], []) = some ((d + 11, 120, 55, [some (.inr (.inr 108)), some (.inl (zf)), some (.inl (zd)), some (.inl (zi)), some (.inl (zz)), none, none, none, none, none, none], [], [], []), []) := rfl
theorem mi_tab_krwB_0 : ∀ e ∈ ([(120, (11, 0, sb_120))] : mi_T), sc_P e.1 = some e.2 := mi_tb mi_P120 (mi_tb_e)
set_option maxRecDepth 20000 in
theorem ms_krwB_0 {h : sm_H} {d : Nat} {Q : Option mi_V → sm_H → Prop} {zf zd zi zz : Int} (hS : ab_Sh sx_sk h) (ok_zf : mi_in zf) (ok_zd : mi_in zd) (ok_zi : mi_in zi) (ok_zz : mi_in zz) (kon : ∀ h1, me_W [] h h1 → me_E (d + 11) 120 55 [some (.inr (.inr 108)), some (.inl (zf)), some (.inl (zd)), some (.inl (zi)), some (.inl (zz)), none, none, none, none, none, none] [] h1 Q) : me_E (d + 11) 120 49 [some (.inr (.inr 108)), some (.inl (zf)), some (.inl (zd)), some (.inl (zi)), none, none, none, none, none, none, none] [.inl (zz)] h Q := mf_seg (mp_krwB_0 h d zf zd zi zz) (mi_tab_krwB_0) hS (mi_okL_c (trivial) (mi_okL_c (ok_zf) (mi_okL_c (ok_zd) (mi_okL_c (ok_zi) (mi_okL_n (mi_okL_n (mi_okL_n (mi_okL_n (mi_okL_n (mi_okL_n (mi_okL_n (mi_okL_e)))))))))))) (mi_okS_cons (ok_zz) (mi_okS_e)) (mi_al_e) (fun h1 W _ hst => kon h1 W)
set_option maxRecDepth 20000 in
theorem mt_krwB {h : sm_H} {d : Nat} {Q : Option mi_V → sm_H → Prop} {zf zd zi zz : Int} (hS : ab_Sh sx_sk h) (ok_zf : mi_in zf) (ok_zd : mi_in zd) (ok_zi : mi_in zi) (ok_zz : mi_in zz) (k0 : (∀ h1, ab_Sh sx_sk h1 → ab_Fr [] h h1 → me_E (d + 11) 120 55 [some (.inr (.inr 108)), some (.inl (zf)), some (.inl (zd)), some (.inl (zi)), some (.inl (zz)), none, none, none, none, none, none] [] h1 Q)) : me_E (d + 11) 120 49 [some (.inr (.inr 108)), some (.inl (zf)), some (.inl (zd)), some (.inl (zi)), none, none, none, none, none, none, none] [.inl (zz)] h Q := ms_krwB_0 hS ok_zf ok_zd ok_zi ok_zz (fun h1 W => (k0) h1 W.1 (W.2.2.2.2.2 _ rfl))
set_option maxRecDepth 20000 in
theorem mp_krwC_0 (h : sm_H) (d : Nat) (zf zd zi zw : Int) : mj_path [(120, (11, 0, sb_120))] sx_sk h 4 [1] (d + 11, 120, 55, [some (.inr (.inr 108)), some (.inl (zf)), some (.inl (zd)), some (.inl (zi)), some (.inl (zw)), none, none, none, none, none, none], [], [], []) = some ((d + 11, 120, 79, [some (.inr (.inr 108)), some (.inl (zf)), some (.inl (zd)), some (.inl (zi)), some (.inl (zw)), some (.inl ((-1 : Int))), none, none, none, none, none], [], [], []), [zi = ((0 : Int))]) := rfl
theorem mi_tab_krwC_0 : ∀ e ∈ ([(120, (11, 0, sb_120))] : mi_T), sc_P e.1 = some e.2 := mi_tb mi_P120 (mi_tb_e)
set_option maxRecDepth 20000 in
theorem ms_krwC_0 {h : sm_H} {d : Nat} {Q : Option mi_V → sm_H → Prop} {zf zd zi zw : Int} (hS : ab_Sh sx_sk h) (ok_zf : mi_in zf) (ok_zd : mi_in zd) (ok_zi : mi_in zi) (ok_zw : mi_in zw) (ho : (zi = ((0 : Int)))) (kon : ∀ h1, me_W [] h h1 → me_E (d + 11) 120 79 [some (.inr (.inr 108)), some (.inl (zf)), some (.inl (zd)), some (.inl (zi)), some (.inl (zw)), some (.inl ((-1 : Int))), none, none, none, none, none] [] h1 Q) : me_E (d + 11) 120 55 [some (.inr (.inr 108)), some (.inl (zf)), some (.inl (zd)), some (.inl (zi)), some (.inl (zw)), none, none, none, none, none, none] [] h Q := mf_seg (mp_krwC_0 h d zf zd zi zw) (mi_tab_krwC_0) hS (mi_okL_c (trivial) (mi_okL_c (ok_zf) (mi_okL_c (ok_zd) (mi_okL_c (ok_zi) (mi_okL_c (ok_zw) (mi_okL_n (mi_okL_n (mi_okL_n (mi_okL_n (mi_okL_n (mi_okL_n (mi_okL_e)))))))))))) (mi_okS_e) (mi_al (ho) (mi_al_e)) (fun h1 W _ hst => kon h1 W)
set_option maxRecDepth 20000 in
theorem mp_krwC_1 (h : sm_H) (d : Nat) (zf zd zi zw : Int) : mj_path [(120, (11, 0, sb_120))] sx_sk h 7 [0, 1] (d + 11, 120, 55, [some (.inr (.inr 108)), some (.inl (zf)), some (.inl (zd)), some (.inl (zi)), some (.inl (zw)), none, none, none, none, none, none], [], [], []) = some ((d + 11, 120, 79, [some (.inr (.inr 108)), some (.inl (zf)), some (.inl (zd)), some (.inl (zi)), some (.inl (zw)), some (.inl ((-1 : Int))), none, none, none, none, none], [], [], []), [zi ≠ ((0 : Int)), (mi_f h 13827) ≠ ((0 : Int))]) := rfl
theorem mi_tab_krwC_1 : ∀ e ∈ ([(120, (11, 0, sb_120))] : mi_T), sc_P e.1 = some e.2 := mi_tb mi_P120 (mi_tb_e)
set_option maxRecDepth 20000 in
theorem ms_krwC_1 {h : sm_H} {d : Nat} {Q : Option mi_V → sm_H → Prop} {zf zd zi zw : Int} (hS : ab_Sh sx_sk h) (ok_zf : mi_in zf) (ok_zd : mi_in zd) (ok_zi : mi_in zi) (ok_zw : mi_in zw) (ho : (zi ≠ ((0 : Int))) ∧ ((mi_f h 13827) ≠ ((0 : Int)))) (kon : ∀ h1, me_W [] h h1 → me_E (d + 11) 120 79 [some (.inr (.inr 108)), some (.inl (zf)), some (.inl (zd)), some (.inl (zi)), some (.inl (zw)), some (.inl ((-1 : Int))), none, none, none, none, none] [] h1 Q) : me_E (d + 11) 120 55 [some (.inr (.inr 108)), some (.inl (zf)), some (.inl (zd)), some (.inl (zi)), some (.inl (zw)), none, none, none, none, none, none] [] h Q := mf_seg (mp_krwC_1 h d zf zd zi zw) (mi_tab_krwC_1) hS (mi_okL_c (trivial) (mi_okL_c (ok_zf) (mi_okL_c (ok_zd) (mi_okL_c (ok_zi) (mi_okL_c (ok_zw) (mi_okL_n (mi_okL_n (mi_okL_n (mi_okL_n (mi_okL_n (mi_okL_n (mi_okL_e)))))))))))) (mi_okS_e) (mi_al (ho.1) (mi_al (ho.2) (mi_al_e))) (fun h1 W _ hst => kon h1 W)
set_option maxRecDepth 20000 in
theorem mp_krwC_2 (h : sm_H) (d : Nat) (zf zd zi zw : Int) : mj_path [(120, (11, 0, sb_120))] sx_sk h 8 [0, 0] (d + 11, 120, 55, [some (.inr (.inr 108)), some (.inl (zf)), some (.inl (zd)), some (.inl (zi)), some (.inl (zw)), none, none, none, none, none, none], [], [], []) = some ((d + 11, 120, 70, [some (.inr (.inr 108)), some (.inl (zf)), some (.inl (zd)), some (.inl (zi)), some (.inl (zw)), none, none, none, none, none, none], [.inl (zw), .inl ((4 : Int)), .inr (.inr 108)], [], []), [zi ≠ ((0 : Int)), (mi_f h 13827) = ((0 : Int))]) := rfl
theorem mi_tab_krwC_2 : ∀ e ∈ ([(120, (11, 0, sb_120))] : mi_T), sc_P e.1 = some e.2 := mi_tb mi_P120 (mi_tb_e)
set_option maxRecDepth 20000 in
theorem ms_krwC_2 {h : sm_H} {d : Nat} {Q : Option mi_V → sm_H → Prop} {zf zd zi zw : Int} (hS : ab_Sh sx_sk h) (ok_zf : mi_in zf) (ok_zd : mi_in zd) (ok_zi : mi_in zi) (ok_zw : mi_in zw) (ho : (zi ≠ ((0 : Int))) ∧ ((mi_f h 13827) = ((0 : Int)))) (kon : ∀ h1, me_W [] h h1 → ∃ Q1, me_E (d + 10) 115 0 (mi_entry 3 [.inr (.inr 108), .inl ((4 : Int)), .inl (zw)]) [] h1 Q1 ∧ ∀ w h2, (∀ x, w = some x → mi_ok x) → Q1 w h2 → me_E (d + 11) 120 73 [some (.inr (.inr 108)), some (.inl (zf)), some (.inl (zd)), some (.inl (zi)), some (.inl (zw)), none, none, none, none, none, none] (mi_back w []) h2 Q) : me_E (d + 11) 120 55 [some (.inr (.inr 108)), some (.inl (zf)), some (.inl (zd)), some (.inl (zi)), some (.inl (zw)), none, none, none, none, none, none] [] h Q := mf_seg (mp_krwC_2 h d zf zd zi zw) (mi_tab_krwC_2) hS (mi_okL_c (trivial) (mi_okL_c (ok_zf) (mi_okL_c (ok_zd) (mi_okL_c (ok_zi) (mi_okL_c (ok_zw) (mi_okL_n (mi_okL_n (mi_okL_n (mi_okL_n (mi_okL_n (mi_okL_n (mi_okL_e)))))))))))) (mi_okS_e) (mi_al (ho.1) (mi_al (ho.2) (mi_al_e))) (fun h1 W _ hst => let ⟨_, k1, k2⟩ := kon h1 W; mf_call (M := (11, 0, sb_120)) (M' := (3, 1, sb_115)) rfl rfl rfl rfl (Nat.le_of_ble_eq_true rfl) (Nat.le_of_ble_eq_true rfl) W.1 k1 k2)
set_option maxRecDepth 20000 in
theorem mt_krwC {h : sm_H} {d : Nat} {Q : Option mi_V → sm_H → Prop} {zf zd zi zw : Int} (hS : ab_Sh sx_sk h) (ok_zf : mi_in zf) (ok_zd : mi_in zd) (ok_zi : mi_in zi) (ok_zw : mi_in zw) (k0 : (zi = ((0 : Int))) → (∀ h1, ab_Sh sx_sk h1 → ab_Fr [] h h1 → me_E (d + 11) 120 79 [some (.inr (.inr 108)), some (.inl (zf)), some (.inl (zd)), some (.inl (zi)), some (.inl (zw)), some (.inl ((-1 : Int))), none, none, none, none, none] [] h1 Q)) (k1 : (0 ≤ mi_f h 13827 ∧ mi_f h 13827 ≤ 1) → (zi ≠ ((0 : Int))) → ((mi_f h 13827) ≠ ((0 : Int))) → (∀ h1, ab_Sh sx_sk h1 → ab_Fr [] h h1 → me_E (d + 11) 120 79 [some (.inr (.inr 108)), some (.inl (zf)), some (.inl (zd)), some (.inl (zi)), some (.inl (zw)), some (.inl ((-1 : Int))), none, none, none, none, none] [] h1 Q)) (k2 : (0 ≤ mi_f h 13827 ∧ mi_f h 13827 ≤ 1) → (zi ≠ ((0 : Int))) → ((mi_f h 13827) = ((0 : Int))) → (∀ h1, ab_Sh sx_sk h1 → ab_Fr [] h h1 → ∃ Q1, me_E (d + 10) 115 0 (mi_entry 3 [.inr (.inr 108), .inl ((4 : Int)), .inl (zw)]) [] h1 Q1 ∧ ∀ w h2, (∀ x, w = some x → mi_ok x) → Q1 w h2 → me_E (d + 11) 120 73 [some (.inr (.inr 108)), some (.inl (zf)), some (.inl (zd)), some (.inl (zi)), some (.inl (zw)), none, none, none, none, none, none] (mi_back w []) h2 Q)) : me_E (d + 11) 120 55 [some (.inr (.inr 108)), some (.inl (zf)), some (.inl (zd)), some (.inl (zi)), some (.inl (zw)), none, none, none, none, none, none] [] h Q := Or.elim (mi_em .eq (zi) (((0 : Int)))) (fun c0 => ms_krwC_0 hS ok_zf ok_zd ok_zi ok_zw (c0) (fun h1 W => (k0 c0) h1 W.1 (W.2.2.2.2.2 _ rfl))) (fun c0 => Or.elim (mi_em .ne ((mi_f h 13827)) (((0 : Int)))) (fun c1 => ms_krwC_1 hS ok_zf ok_zd ok_zi ok_zw ⟨c0, c1⟩ (fun h1 W => (k1 (me_fb hS rfl) c0 c1) h1 W.1 (W.2.2.2.2.2 _ rfl))) (fun c1 => ms_krwC_2 hS ok_zf ok_zd ok_zi ok_zw ⟨c0, c1⟩ (fun h1 W => (k2 (me_fb hS rfl) c0 c1) h1 W.1 (W.2.2.2.2.2 _ rfl))))
set_option maxRecDepth 20000 in
theorem mp_krwD_0 (h : sm_H) (d : Nat) (zf zd zi zw zz : Int) : mj_path [(120, (11, 0, sb_120))] sx_sk h 2 [] (d + 11, 120, 73, [some (.inr (.inr 108)), some (.inl (zf)), some (.inl (zd)), some (.inl (zi)), some (.inl (zw)), none, none, none, none, none, none], [.inl (zz)], [], []) = some ((d + 11, 120, 79, [some (.inr (.inr 108)), some (.inl (zf)), some (.inl (zd)), some (.inl (zi)), some (.inl (zw)), some (.inl (zz)), none, none, none, none, none], [], [], []), []) := rfl
theorem mi_tab_krwD_0 : ∀ e ∈ ([(120, (11, 0, sb_120))] : mi_T), sc_P e.1 = some e.2 := mi_tb mi_P120 (mi_tb_e)
set_option maxRecDepth 20000 in
theorem ms_krwD_0 {h : sm_H} {d : Nat} {Q : Option mi_V → sm_H → Prop} {zf zd zi zw zz : Int} (hS : ab_Sh sx_sk h) (ok_zf : mi_in zf) (ok_zd : mi_in zd) (ok_zi : mi_in zi) (ok_zw : mi_in zw) (ok_zz : mi_in zz) (kon : ∀ h1, me_W [] h h1 → me_E (d + 11) 120 79 [some (.inr (.inr 108)), some (.inl (zf)), some (.inl (zd)), some (.inl (zi)), some (.inl (zw)), some (.inl (zz)), none, none, none, none, none] [] h1 Q) : me_E (d + 11) 120 73 [some (.inr (.inr 108)), some (.inl (zf)), some (.inl (zd)), some (.inl (zi)), some (.inl (zw)), none, none, none, none, none, none] [.inl (zz)] h Q := mf_seg (mp_krwD_0 h d zf zd zi zw zz) (mi_tab_krwD_0) hS (mi_okL_c (trivial) (mi_okL_c (ok_zf) (mi_okL_c (ok_zd) (mi_okL_c (ok_zi) (mi_okL_c (ok_zw) (mi_okL_n (mi_okL_n (mi_okL_n (mi_okL_n (mi_okL_n (mi_okL_n (mi_okL_e)))))))))))) (mi_okS_cons (ok_zz) (mi_okS_e)) (mi_al_e) (fun h1 W _ hst => kon h1 W)
set_option maxRecDepth 20000 in
theorem mt_krwD {h : sm_H} {d : Nat} {Q : Option mi_V → sm_H → Prop} {zf zd zi zw zz : Int} (hS : ab_Sh sx_sk h) (ok_zf : mi_in zf) (ok_zd : mi_in zd) (ok_zi : mi_in zi) (ok_zw : mi_in zw) (ok_zz : mi_in zz) (k0 : (∀ h1, ab_Sh sx_sk h1 → ab_Fr [] h h1 → me_E (d + 11) 120 79 [some (.inr (.inr 108)), some (.inl (zf)), some (.inl (zd)), some (.inl (zi)), some (.inl (zw)), some (.inl (zz)), none, none, none, none, none] [] h1 Q)) : me_E (d + 11) 120 73 [some (.inr (.inr 108)), some (.inl (zf)), some (.inl (zd)), some (.inl (zi)), some (.inl (zw)), none, none, none, none, none, none] [.inl (zz)] h Q := ms_krwD_0 hS ok_zf ok_zd ok_zi ok_zw ok_zz (fun h1 W => (k0) h1 W.1 (W.2.2.2.2.2 _ rfl))
set_option maxRecDepth 20000 in
theorem mp_krwE_0 (h : sm_H) (d : Nat) (zf zd zi zw zo : Int) : mj_path [(120, (11, 0, sb_120))] sx_sk h 7 [] (d + 11, 120, 79, [some (.inr (.inr 108)), some (.inl (zf)), some (.inl (zd)), some (.inl (zi)), some (.inl (zw)), some (.inl (zo)), none, none, none, none, none], [], [], []) = some ((d + 11, 120, 93, [some (.inr (.inr 108)), some (.inl (zf)), some (.inl (zd)), some (.inl (zi)), some (.inl (zw)), some (.inl (zo)), none, none, none, none, none], [.inl (zw), .inl (zf), .inr (.inr 60), .inr (.inr 65)], [], []), []) := rfl
theorem mi_tab_krwE_0 : ∀ e ∈ ([(120, (11, 0, sb_120))] : mi_T), sc_P e.1 = some e.2 := mi_tb mi_P120 (mi_tb_e)
set_option maxRecDepth 20000 in
theorem ms_krwE_0 {h : sm_H} {d : Nat} {Q : Option mi_V → sm_H → Prop} {zf zd zi zw zo : Int} (hS : ab_Sh sx_sk h) (ok_zf : mi_in zf) (ok_zd : mi_in zd) (ok_zi : mi_in zi) (ok_zw : mi_in zw) (ok_zo : mi_in zo) (kon : ∀ h1, me_W [] h h1 → ∃ Q1, me_E (d + 10) 127 0 (mi_entry 5 [.inr (.inr 60), .inl (zf), .inl (zw)]) [] h1 Q1 ∧ ∀ w h2, (∀ x, w = some x → mi_ok x) → Q1 w h2 → me_E (d + 11) 120 96 [some (.inr (.inr 108)), some (.inl (zf)), some (.inl (zd)), some (.inl (zi)), some (.inl (zw)), some (.inl (zo)), none, none, none, none, none] (mi_back w [.inr (.inr 65)]) h2 Q) : me_E (d + 11) 120 79 [some (.inr (.inr 108)), some (.inl (zf)), some (.inl (zd)), some (.inl (zi)), some (.inl (zw)), some (.inl (zo)), none, none, none, none, none] [] h Q := mf_seg (mp_krwE_0 h d zf zd zi zw zo) (mi_tab_krwE_0) hS (mi_okL_c (trivial) (mi_okL_c (ok_zf) (mi_okL_c (ok_zd) (mi_okL_c (ok_zi) (mi_okL_c (ok_zw) (mi_okL_c (ok_zo) (mi_okL_n (mi_okL_n (mi_okL_n (mi_okL_n (mi_okL_n (mi_okL_e)))))))))))) (mi_okS_e) (mi_al_e) (fun h1 W _ hst => let ⟨_, k1, k2⟩ := kon h1 W; mf_call (M := (11, 0, sb_120)) (M' := (5, 1, sb_127)) rfl rfl rfl rfl (Nat.le_of_ble_eq_true rfl) (Nat.le_of_ble_eq_true rfl) W.1 k1 k2)
set_option maxRecDepth 20000 in
theorem mt_krwE {h : sm_H} {d : Nat} {Q : Option mi_V → sm_H → Prop} {zf zd zi zw zo : Int} (hS : ab_Sh sx_sk h) (ok_zf : mi_in zf) (ok_zd : mi_in zd) (ok_zi : mi_in zi) (ok_zw : mi_in zw) (ok_zo : mi_in zo) (k0 : (∀ h1, ab_Sh sx_sk h1 → ab_Fr [] h h1 → ∃ Q1, me_E (d + 10) 127 0 (mi_entry 5 [.inr (.inr 60), .inl (zf), .inl (zw)]) [] h1 Q1 ∧ ∀ w h2, (∀ x, w = some x → mi_ok x) → Q1 w h2 → me_E (d + 11) 120 96 [some (.inr (.inr 108)), some (.inl (zf)), some (.inl (zd)), some (.inl (zi)), some (.inl (zw)), some (.inl (zo)), none, none, none, none, none] (mi_back w [.inr (.inr 65)]) h2 Q)) : me_E (d + 11) 120 79 [some (.inr (.inr 108)), some (.inl (zf)), some (.inl (zd)), some (.inl (zi)), some (.inl (zw)), some (.inl (zo)), none, none, none, none, none] [] h Q := ms_krwE_0 hS ok_zf ok_zd ok_zi ok_zw ok_zo (fun h1 W => (k0) h1 W.1 (W.2.2.2.2.2 _ rfl))
set_option maxRecDepth 20000 in
theorem mp_krwF_0 (h : sm_H) (d : Nat) (zf zd zi zw zo zz : Int) : mj_path [(120, (11, 0, sb_120)), (16, (3, 0, sb_16)), (49, (2, 1, sb_49)), (72, (2, 2, sb_72))] sx_sk h 8 [1] (d + 11, 120, 96, [some (.inr (.inr 108)), some (.inl (zf)), some (.inl (zd)), some (.inl (zi)), some (.inl (zw)), some (.inl (zo)), none, none, none, none, none], [.inl (zz), .inr (.inr 65)], [], []) = some ((d + 11, 120, 104, [some (.inr (.inr 108)), some (.inl (zf)), some (.inl (zd)), some (.inl (zi)), some (.inl (zw)), some (.inl (zo)), some (.inl ((0 : Int))), some (.inl ((0 : Int))), none, none, none], [], [], []), [zz < ((0 : Int))]) := rfl
theorem mi_tab_krwF_0 : ∀ e ∈ ([(120, (11, 0, sb_120)), (16, (3, 0, sb_16)), (49, (2, 1, sb_49)), (72, (2, 2, sb_72))] : mi_T), sc_P e.1 = some e.2 := mi_tb mi_P120 (mi_tb mi_P16 (mi_tb mi_P49 (mi_tb mi_P72 (mi_tb_e))))
set_option maxRecDepth 20000 in
theorem ms_krwF_0 {h : sm_H} {d : Nat} {Q : Option mi_V → sm_H → Prop} {zf zd zi zw zo zz : Int} (hS : ab_Sh sx_sk h) (ok_zf : mi_in zf) (ok_zd : mi_in zd) (ok_zi : mi_in zi) (ok_zw : mi_in zw) (ok_zo : mi_in zo) (ok_zz : mi_in zz) (ho : (zz < ((0 : Int)))) (kon : ∀ h1, me_W [] h h1 → me_E (d + 11) 120 104 [some (.inr (.inr 108)), some (.inl (zf)), some (.inl (zd)), some (.inl (zi)), some (.inl (zw)), some (.inl (zo)), some (.inl ((0 : Int))), some (.inl ((0 : Int))), none, none, none] [] h1 Q) : me_E (d + 11) 120 96 [some (.inr (.inr 108)), some (.inl (zf)), some (.inl (zd)), some (.inl (zi)), some (.inl (zw)), some (.inl (zo)), none, none, none, none, none] [.inl (zz), .inr (.inr 65)] h Q := mf_seg (mp_krwF_0 h d zf zd zi zw zo zz) (mi_tab_krwF_0) hS (mi_okL_c (trivial) (mi_okL_c (ok_zf) (mi_okL_c (ok_zd) (mi_okL_c (ok_zi) (mi_okL_c (ok_zw) (mi_okL_c (ok_zo) (mi_okL_n (mi_okL_n (mi_okL_n (mi_okL_n (mi_okL_n (mi_okL_e)))))))))))) (mi_okS_cons (ok_zz) (mi_okS_cons (trivial) (mi_okS_e))) (mi_al (ho) (mi_al_e)) (fun h1 W _ hst => kon h1 W)
set_option maxRecDepth 20000 in
theorem mp_krwF_1 (h : sm_H) (d : Nat) (zf zd zi zw zo zz : Int) : mj_path [(120, (11, 0, sb_120)), (16, (3, 0, sb_16)), (49, (2, 1, sb_49)), (72, (2, 2, sb_72))] sx_sk h 12 [0, 1] (d + 11, 120, 96, [some (.inr (.inr 108)), some (.inl (zf)), some (.inl (zd)), some (.inl (zi)), some (.inl (zw)), some (.inl (zo)), none, none, none, none, none], [.inl (zz), .inr (.inr 65)], [], []) = some ((d + 11, 120, 104, [some (.inr (.inr 108)), some (.inl (zf)), some (.inl (zd)), some (.inl (zi)), some (.inl (zw)), some (.inl (zo)), some (.inl ((0 : Int))), some (.inl ((0 : Int))), none, none, none], [], [], []), [((0 : Int)) ≤ zz, ((66 : Int)) ≤ zz]) := rfl
theorem mi_tab_krwF_1 : ∀ e ∈ ([(120, (11, 0, sb_120)), (16, (3, 0, sb_16)), (49, (2, 1, sb_49)), (72, (2, 2, sb_72))] : mi_T), sc_P e.1 = some e.2 := mi_tb mi_P120 (mi_tb mi_P16 (mi_tb mi_P49 (mi_tb mi_P72 (mi_tb_e))))
set_option maxRecDepth 20000 in
theorem ms_krwF_1 {h : sm_H} {d : Nat} {Q : Option mi_V → sm_H → Prop} {zf zd zi zw zo zz : Int} (hS : ab_Sh sx_sk h) (ok_zf : mi_in zf) (ok_zd : mi_in zd) (ok_zi : mi_in zi) (ok_zw : mi_in zw) (ok_zo : mi_in zo) (ok_zz : mi_in zz) (ho : (((0 : Int)) ≤ zz) ∧ (((66 : Int)) ≤ zz)) (kon : ∀ h1, me_W [] h h1 → me_E (d + 11) 120 104 [some (.inr (.inr 108)), some (.inl (zf)), some (.inl (zd)), some (.inl (zi)), some (.inl (zw)), some (.inl (zo)), some (.inl ((0 : Int))), some (.inl ((0 : Int))), none, none, none] [] h1 Q) : me_E (d + 11) 120 96 [some (.inr (.inr 108)), some (.inl (zf)), some (.inl (zd)), some (.inl (zi)), some (.inl (zw)), some (.inl (zo)), none, none, none, none, none] [.inl (zz), .inr (.inr 65)] h Q := mf_seg (mp_krwF_1 h d zf zd zi zw zo zz) (mi_tab_krwF_1) hS (mi_okL_c (trivial) (mi_okL_c (ok_zf) (mi_okL_c (ok_zd) (mi_okL_c (ok_zi) (mi_okL_c (ok_zw) (mi_okL_c (ok_zo) (mi_okL_n (mi_okL_n (mi_okL_n (mi_okL_n (mi_okL_n (mi_okL_e)))))))))))) (mi_okS_cons (ok_zz) (mi_okS_cons (trivial) (mi_okS_e))) (mi_al (ho.1) (mi_al (ho.2) (mi_al_e))) (fun h1 W _ hst => kon h1 W)
set_option maxRecDepth 20000 in
theorem mp_krwF_2 (h : sm_H) (d : Nat) (zf zd zi zw zo zz : Int) : mj_path [(120, (11, 0, sb_120)), (16, (3, 0, sb_16)), (49, (2, 1, sb_49)), (72, (2, 2, sb_72))] sx_sk h 15 [0, 0] (d + 11, 120, 96, [some (.inr (.inr 108)), some (.inl (zf)), some (.inl (zd)), some (.inl (zi)), some (.inl (zw)), some (.inl (zo)), none, none, none, none, none], [.inl (zz), .inr (.inr 65)], [], []) = some ((d + 11, 120, 104, [some (.inr (.inr 108)), some (.inl (zf)), some (.inl (zd)), some (.inl (zi)), some (.inl (zw)), some (.inl (zo)), some (.inl (mi_a h 65 (Int.toNat zz))), some (.inl ((0 : Int))), none, none, none], [], [], []), [((0 : Int)) ≤ zz, zz < ((66 : Int)), 0 ≤ zz ∧ zz < 66]) := rfl
theorem mi_tab_krwF_2 : ∀ e ∈ ([(120, (11, 0, sb_120)), (16, (3, 0, sb_16)), (49, (2, 1, sb_49)), (72, (2, 2, sb_72))] : mi_T), sc_P e.1 = some e.2 := mi_tb mi_P120 (mi_tb mi_P16 (mi_tb mi_P49 (mi_tb mi_P72 (mi_tb_e))))
set_option maxRecDepth 20000 in
theorem ms_krwF_2 {h : sm_H} {d : Nat} {Q : Option mi_V → sm_H → Prop} {zf zd zi zw zo zz : Int} (hS : ab_Sh sx_sk h) (ok_zf : mi_in zf) (ok_zd : mi_in zd) (ok_zi : mi_in zi) (ok_zw : mi_in zw) (ok_zo : mi_in zo) (ok_zz : mi_in zz) (ho : (((0 : Int)) ≤ zz) ∧ (zz < ((66 : Int))) ∧ (0 ≤ zz ∧ zz < 66)) (kon : ∀ h1, me_W [] h h1 → me_E (d + 11) 120 104 [some (.inr (.inr 108)), some (.inl (zf)), some (.inl (zd)), some (.inl (zi)), some (.inl (zw)), some (.inl (zo)), some (.inl (mi_a h 65 (Int.toNat zz))), some (.inl ((0 : Int))), none, none, none] [] h1 Q) : me_E (d + 11) 120 96 [some (.inr (.inr 108)), some (.inl (zf)), some (.inl (zd)), some (.inl (zi)), some (.inl (zw)), some (.inl (zo)), none, none, none, none, none] [.inl (zz), .inr (.inr 65)] h Q := mf_seg (mp_krwF_2 h d zf zd zi zw zo zz) (mi_tab_krwF_2) hS (mi_okL_c (trivial) (mi_okL_c (ok_zf) (mi_okL_c (ok_zd) (mi_okL_c (ok_zi) (mi_okL_c (ok_zw) (mi_okL_c (ok_zo) (mi_okL_n (mi_okL_n (mi_okL_n (mi_okL_n (mi_okL_n (mi_okL_e)))))))))))) (mi_okS_cons (ok_zz) (mi_okS_cons (trivial) (mi_okS_e))) (mi_al (ho.1) (mi_al (ho.2.1) (mi_al (ho.2.2) (mi_al_e)))) (fun h1 W _ hst => kon h1 W)
set_option maxRecDepth 20000 in
theorem mt_krwF {h : sm_H} {d : Nat} {Q : Option mi_V → sm_H → Prop} {zf zd zi zw zo zz : Int} (hS : ab_Sh sx_sk h) (ok_zf : mi_in zf) (ok_zd : mi_in zd) (ok_zi : mi_in zi) (ok_zw : mi_in zw) (ok_zo : mi_in zo) (ok_zz : mi_in zz) (k0 : (zz < ((0 : Int))) → (∀ h1, ab_Sh sx_sk h1 → ab_Fr [] h h1 → me_E (d + 11) 120 104 [some (.inr (.inr 108)), some (.inl (zf)), some (.inl (zd)), some (.inl (zi)), some (.inl (zw)), some (.inl (zo)), some (.inl ((0 : Int))), some (.inl ((0 : Int))), none, none, none] [] h1 Q)) (k1 : (((0 : Int)) ≤ zz) → (((66 : Int)) ≤ zz) → (∀ h1, ab_Sh sx_sk h1 → ab_Fr [] h h1 → me_E (d + 11) 120 104 [some (.inr (.inr 108)), some (.inl (zf)), some (.inl (zd)), some (.inl (zi)), some (.inl (zw)), some (.inl (zo)), some (.inl ((0 : Int))), some (.inl ((0 : Int))), none, none, none] [] h1 Q)) (k2 : (((0 : Int)) ≤ zz) → (zz < ((66 : Int))) → ((0 ≤ zz ∧ zz < 66)) ∧ (∀ h1, ab_Sh sx_sk h1 → ab_Fr [] h h1 → me_E (d + 11) 120 104 [some (.inr (.inr 108)), some (.inl (zf)), some (.inl (zd)), some (.inl (zi)), some (.inl (zw)), some (.inl (zo)), some (.inl (mi_a h 65 (Int.toNat zz))), some (.inl ((0 : Int))), none, none, none] [] h1 Q)) : me_E (d + 11) 120 96 [some (.inr (.inr 108)), some (.inl (zf)), some (.inl (zd)), some (.inl (zi)), some (.inl (zw)), some (.inl (zo)), none, none, none, none, none] [.inl (zz), .inr (.inr 65)] h Q := Or.elim (mi_em .lt (zz) (((0 : Int)))) (fun c0 => ms_krwF_0 hS ok_zf ok_zd ok_zi ok_zw ok_zo ok_zz (c0) (fun h1 W => (k0 c0) h1 W.1 (W.2.2.2.2.2 _ rfl))) (fun c0 => Or.elim (mi_em .ge (zz) (((66 : Int)))) (fun c1 => ms_krwF_1 hS ok_zf ok_zd ok_zi ok_zw ok_zo ok_zz ⟨c0, c1⟩ (fun h1 W => (k1 c0 c1) h1 W.1 (W.2.2.2.2.2 _ rfl))) (fun c1 => ms_krwF_2 hS ok_zf ok_zd ok_zi ok_zw ok_zo ok_zz ⟨c0, c1, (k2 c0 c1).1⟩ (fun h1 W => (k2 c0 c1).2 h1 W.1 (W.2.2.2.2.2 _ rfl))))
set_option maxRecDepth 20000 in
theorem mp_krwG_0 (h : sm_H) (d : Nat) (zf zd zi zw zo zp zn : Int) (q8 q9 qa : Option mi_V) : mj_path [(120, (11, 0, sb_120)), (16, (3, 0, sb_16)), (49, (2, 1, sb_49)), (72, (2, 2, sb_72))] sx_sk h 3 [1] (d + 11, 120, 104, [some (.inr (.inr 108)), some (.inl (zf)), some (.inl (zd)), some (.inl (zi)), some (.inl (zw)), some (.inl (zo)), some (.inl (zp)), some (.inl (zn)), q8, q9, qa], [], [], []) = some ((d + 11, 120, 226, [some (.inr (.inr 108)), some (.inl (zf)), some (.inl (zd)), some (.inl (zi)), some (.inl (zw)), some (.inl (zo)), some (.inl (zp)), some (.inl (zn)), q8, q9, qa], [], [], []), [(mi_f h 13827) ≠ ((0 : Int))]) := rfl
theorem mi_tab_krwG_0 : ∀ e ∈ ([(120, (11, 0, sb_120)), (16, (3, 0, sb_16)), (49, (2, 1, sb_49)), (72, (2, 2, sb_72))] : mi_T), sc_P e.1 = some e.2 := mi_tb mi_P120 (mi_tb mi_P16 (mi_tb mi_P49 (mi_tb mi_P72 (mi_tb_e))))
set_option maxRecDepth 20000 in
theorem ms_krwG_0 {h : sm_H} {d : Nat} {Q : Option mi_V → sm_H → Prop} {zf zd zi zw zo zp zn : Int} {q8 q9 qa : Option mi_V} (hS : ab_Sh sx_sk h) (ok_zf : mi_in zf) (ok_zd : mi_in zd) (ok_zi : mi_in zi) (ok_zw : mi_in zw) (ok_zo : mi_in zo) (ok_zp : mi_in zp) (ok_zn : mi_in zn) (ok_q8 : ∀ v, q8 = some v → mi_ok v) (ok_q9 : ∀ v, q9 = some v → mi_ok v) (ok_qa : ∀ v, qa = some v → mi_ok v) (ho : ((mi_f h 13827) ≠ ((0 : Int)))) (kon : ∀ h1, me_W [] h h1 → me_E (d + 11) 120 226 [some (.inr (.inr 108)), some (.inl (zf)), some (.inl (zd)), some (.inl (zi)), some (.inl (zw)), some (.inl (zo)), some (.inl (zp)), some (.inl (zn)), q8, q9, qa] [] h1 Q) : me_E (d + 11) 120 104 [some (.inr (.inr 108)), some (.inl (zf)), some (.inl (zd)), some (.inl (zi)), some (.inl (zw)), some (.inl (zo)), some (.inl (zp)), some (.inl (zn)), q8, q9, qa] [] h Q := mf_seg (mp_krwG_0 h d zf zd zi zw zo zp zn q8 q9 qa) (mi_tab_krwG_0) hS (mi_okL_c (trivial) (mi_okL_c (ok_zf) (mi_okL_c (ok_zd) (mi_okL_c (ok_zi) (mi_okL_c (ok_zw) (mi_okL_c (ok_zo) (mi_okL_c (ok_zp) (mi_okL_c (ok_zn) (mi_okL_o ok_q8 (mi_okL_o ok_q9 (mi_okL_o ok_qa (mi_okL_e)))))))))))) (mi_okS_e) (mi_al (ho) (mi_al_e)) (fun h1 W _ hst => kon h1 W)
set_option maxRecDepth 20000 in
theorem mp_krwG_1 (h : sm_H) (d : Nat) (zf zd zi zw zo zp zn : Int) (q8 q9 qa : Option mi_V) : mj_path [(120, (11, 0, sb_120)), (16, (3, 0, sb_16)), (49, (2, 1, sb_49)), (72, (2, 2, sb_72))] sx_sk h 6 [0, 1] (d + 11, 120, 104, [some (.inr (.inr 108)), some (.inl (zf)), some (.inl (zd)), some (.inl (zi)), some (.inl (zw)), some (.inl (zo)), some (.inl (zp)), some (.inl (zn)), q8, q9, qa], [], [], []) = some ((d + 11, 120, 226, [some (.inr (.inr 108)), some (.inl (zf)), some (.inl (zd)), some (.inl (zi)), some (.inl (zw)), some (.inl (zo)), some (.inl (zp)), some (.inl (zn)), q8, q9, qa], [], [], []), [(mi_f h 13827) = ((0 : Int)), zp = ((-1 : Int))]) := rfl
theorem mi_tab_krwG_1 : ∀ e ∈ ([(120, (11, 0, sb_120)), (16, (3, 0, sb_16)), (49, (2, 1, sb_49)), (72, (2, 2, sb_72))] : mi_T), sc_P e.1 = some e.2 := mi_tb mi_P120 (mi_tb mi_P16 (mi_tb mi_P49 (mi_tb mi_P72 (mi_tb_e))))
set_option maxRecDepth 20000 in
theorem ms_krwG_1 {h : sm_H} {d : Nat} {Q : Option mi_V → sm_H → Prop} {zf zd zi zw zo zp zn : Int} {q8 q9 qa : Option mi_V} (hS : ab_Sh sx_sk h) (ok_zf : mi_in zf) (ok_zd : mi_in zd) (ok_zi : mi_in zi) (ok_zw : mi_in zw) (ok_zo : mi_in zo) (ok_zp : mi_in zp) (ok_zn : mi_in zn) (ok_q8 : ∀ v, q8 = some v → mi_ok v) (ok_q9 : ∀ v, q9 = some v → mi_ok v) (ok_qa : ∀ v, qa = some v → mi_ok v) (ho : ((mi_f h 13827) = ((0 : Int))) ∧ (zp = ((-1 : Int)))) (kon : ∀ h1, me_W [] h h1 → me_E (d + 11) 120 226 [some (.inr (.inr 108)), some (.inl (zf)), some (.inl (zd)), some (.inl (zi)), some (.inl (zw)), some (.inl (zo)), some (.inl (zp)), some (.inl (zn)), q8, q9, qa] [] h1 Q) : me_E (d + 11) 120 104 [some (.inr (.inr 108)), some (.inl (zf)), some (.inl (zd)), some (.inl (zi)), some (.inl (zw)), some (.inl (zo)), some (.inl (zp)), some (.inl (zn)), q8, q9, qa] [] h Q := mf_seg (mp_krwG_1 h d zf zd zi zw zo zp zn q8 q9 qa) (mi_tab_krwG_1) hS (mi_okL_c (trivial) (mi_okL_c (ok_zf) (mi_okL_c (ok_zd) (mi_okL_c (ok_zi) (mi_okL_c (ok_zw) (mi_okL_c (ok_zo) (mi_okL_c (ok_zp) (mi_okL_c (ok_zn) (mi_okL_o ok_q8 (mi_okL_o ok_q9 (mi_okL_o ok_qa (mi_okL_e)))))))))))) (mi_okS_e) (mi_al (ho.1) (mi_al (ho.2) (mi_al_e))) (fun h1 W _ hst => kon h1 W)
set_option maxRecDepth 20000 in
theorem mp_krwG_2 (h : sm_H) (d : Nat) (zf zd zi zw zo zp zn : Int) (q8 q9 qa : Option mi_V) : mj_path [(120, (11, 0, sb_120)), (16, (3, 0, sb_16)), (49, (2, 1, sb_49)), (72, (2, 2, sb_72))] sx_sk h 9 [0, 0, 1] (d + 11, 120, 104, [some (.inr (.inr 108)), some (.inl (zf)), some (.inl (zd)), some (.inl (zi)), some (.inl (zw)), some (.inl (zo)), some (.inl (zp)), some (.inl (zn)), q8, q9, qa], [], [], []) = some ((d + 11, 120, 226, [some (.inr (.inr 108)), some (.inl (zf)), some (.inl (zd)), some (.inl (zi)), some (.inl (zw)), some (.inl (zo)), some (.inl (zp)), some (.inl (zn)), q8, q9, qa], [], [], []), [(mi_f h 13827) = ((0 : Int)), zp ≠ ((-1 : Int)), ((60 : Int)) ≤ zn]) := rfl
theorem mi_tab_krwG_2 : ∀ e ∈ ([(120, (11, 0, sb_120)), (16, (3, 0, sb_16)), (49, (2, 1, sb_49)), (72, (2, 2, sb_72))] : mi_T), sc_P e.1 = some e.2 := mi_tb mi_P120 (mi_tb mi_P16 (mi_tb mi_P49 (mi_tb mi_P72 (mi_tb_e))))
set_option maxRecDepth 20000 in
theorem ms_krwG_2 {h : sm_H} {d : Nat} {Q : Option mi_V → sm_H → Prop} {zf zd zi zw zo zp zn : Int} {q8 q9 qa : Option mi_V} (hS : ab_Sh sx_sk h) (ok_zf : mi_in zf) (ok_zd : mi_in zd) (ok_zi : mi_in zi) (ok_zw : mi_in zw) (ok_zo : mi_in zo) (ok_zp : mi_in zp) (ok_zn : mi_in zn) (ok_q8 : ∀ v, q8 = some v → mi_ok v) (ok_q9 : ∀ v, q9 = some v → mi_ok v) (ok_qa : ∀ v, qa = some v → mi_ok v) (ho : ((mi_f h 13827) = ((0 : Int))) ∧ (zp ≠ ((-1 : Int))) ∧ (((60 : Int)) ≤ zn)) (kon : ∀ h1, me_W [] h h1 → me_E (d + 11) 120 226 [some (.inr (.inr 108)), some (.inl (zf)), some (.inl (zd)), some (.inl (zi)), some (.inl (zw)), some (.inl (zo)), some (.inl (zp)), some (.inl (zn)), q8, q9, qa] [] h1 Q) : me_E (d + 11) 120 104 [some (.inr (.inr 108)), some (.inl (zf)), some (.inl (zd)), some (.inl (zi)), some (.inl (zw)), some (.inl (zo)), some (.inl (zp)), some (.inl (zn)), q8, q9, qa] [] h Q := mf_seg (mp_krwG_2 h d zf zd zi zw zo zp zn q8 q9 qa) (mi_tab_krwG_2) hS (mi_okL_c (trivial) (mi_okL_c (ok_zf) (mi_okL_c (ok_zd) (mi_okL_c (ok_zi) (mi_okL_c (ok_zw) (mi_okL_c (ok_zo) (mi_okL_c (ok_zp) (mi_okL_c (ok_zn) (mi_okL_o ok_q8 (mi_okL_o ok_q9 (mi_okL_o ok_qa (mi_okL_e)))))))))))) (mi_okS_e) (mi_al (ho.1) (mi_al (ho.2.1) (mi_al (ho.2.2) (mi_al_e)))) (fun h1 W _ hst => kon h1 W)
set_option maxRecDepth 20000 in
theorem mp_krwG_3 (h : sm_H) (d : Nat) (zf zd zi zw zo zp zn : Int) (q8 q9 qa : Option mi_V) : mj_path [(120, (11, 0, sb_120)), (16, (3, 0, sb_16)), (49, (2, 1, sb_49)), (72, (2, 2, sb_72))] sx_sk h 25 [0, 0, 0, 1, 1] (d + 11, 120, 104, [some (.inr (.inr 108)), some (.inl (zf)), some (.inl (zd)), some (.inl (zi)), some (.inl (zw)), some (.inl (zo)), some (.inl (zp)), some (.inl (zn)), q8, q9, qa], [], [], []) = some ((d + 11, 120, 203, [some (.inr (.inr 108)), some (.inl (zf)), some (.inl (zd)), some (.inl (zi)), some (.inl (zw)), some (.inl (zo)), some (.inl (zp)), some (.inl (zn)), some (.inl (zp)), q9, qa], [.inl (zd), .inl (zp), .inr (.inr 108)], [], []), [(mi_f h 13827) = ((0 : Int)), zp ≠ ((-1 : Int)), zn < ((60 : Int)), zp < ((0 : Int)), ((0 : Int)) ≠ ((1 : Int))]) := rfl
theorem mi_tab_krwG_3 : ∀ e ∈ ([(120, (11, 0, sb_120)), (16, (3, 0, sb_16)), (49, (2, 1, sb_49)), (72, (2, 2, sb_72))] : mi_T), sc_P e.1 = some e.2 := mi_tb mi_P120 (mi_tb mi_P16 (mi_tb mi_P49 (mi_tb mi_P72 (mi_tb_e))))
set_option maxRecDepth 20000 in
theorem ms_krwG_3 {h : sm_H} {d : Nat} {Q : Option mi_V → sm_H → Prop} {zf zd zi zw zo zp zn : Int} {q8 q9 qa : Option mi_V} (hS : ab_Sh sx_sk h) (ok_zf : mi_in zf) (ok_zd : mi_in zd) (ok_zi : mi_in zi) (ok_zw : mi_in zw) (ok_zo : mi_in zo) (ok_zp : mi_in zp) (ok_zn : mi_in zn) (ok_q8 : ∀ v, q8 = some v → mi_ok v) (ok_q9 : ∀ v, q9 = some v → mi_ok v) (ok_qa : ∀ v, qa = some v → mi_ok v) (ho : ((mi_f h 13827) = ((0 : Int))) ∧ (zp ≠ ((-1 : Int))) ∧ (zn < ((60 : Int))) ∧ (zp < ((0 : Int))) ∧ (((0 : Int)) ≠ ((1 : Int)))) (kon : ∀ h1, me_W [] h h1 → ∃ Q1, me_E (d + 10) 131 0 (mi_entry 7 [.inr (.inr 108), .inl (zp), .inl (zd)]) [] h1 Q1 ∧ ∀ w h2, (∀ x, w = some x → mi_ok x) → Q1 w h2 → me_E (d + 11) 120 206 [some (.inr (.inr 108)), some (.inl (zf)), some (.inl (zd)), some (.inl (zi)), some (.inl (zw)), some (.inl (zo)), some (.inl (zp)), some (.inl (zn)), some (.inl (zp)), q9, qa] (mi_back w []) h2 Q) : me_E (d + 11) 120 104 [some (.inr (.inr 108)), some (.inl (zf)), some (.inl (zd)), some (.inl (zi)), some (.inl (zw)), some (.inl (zo)), some (.inl (zp)), some (.inl (zn)), q8, q9, qa] [] h Q := mf_seg (mp_krwG_3 h d zf zd zi zw zo zp zn q8 q9 qa) (mi_tab_krwG_3) hS (mi_okL_c (trivial) (mi_okL_c (ok_zf) (mi_okL_c (ok_zd) (mi_okL_c (ok_zi) (mi_okL_c (ok_zw) (mi_okL_c (ok_zo) (mi_okL_c (ok_zp) (mi_okL_c (ok_zn) (mi_okL_o ok_q8 (mi_okL_o ok_q9 (mi_okL_o ok_qa (mi_okL_e)))))))))))) (mi_okS_e) (mi_al (ho.1) (mi_al (ho.2.1) (mi_al (ho.2.2.1) (mi_al (ho.2.2.2.1) (mi_al (ho.2.2.2.2) (mi_al_e)))))) (fun h1 W _ hst => let ⟨_, k1, k2⟩ := kon h1 W; mf_call (M := (11, 0, sb_120)) (M' := (7, 0, sb_131)) rfl rfl rfl rfl (Nat.le_of_ble_eq_true rfl) (Nat.le_of_ble_eq_true rfl) W.1 k1 k2)
set_option maxRecDepth 20000 in
theorem mp_krwG_4 (h : sm_H) (d : Nat) (zf zd zi zw zo zp zn : Int) (q8 q9 qa : Option mi_V) : mj_path [(120, (11, 0, sb_120)), (16, (3, 0, sb_16)), (49, (2, 1, sb_49)), (72, (2, 2, sb_72))] sx_sk h 29 [0, 0, 0, 0, 1, 1] (d + 11, 120, 104, [some (.inr (.inr 108)), some (.inl (zf)), some (.inl (zd)), some (.inl (zi)), some (.inl (zw)), some (.inl (zo)), some (.inl (zp)), some (.inl (zn)), q8, q9, qa], [], [], []) = some ((d + 11, 120, 203, [some (.inr (.inr 108)), some (.inl (zf)), some (.inl (zd)), some (.inl (zi)), some (.inl (zw)), some (.inl (zo)), some (.inl (zp)), some (.inl (zn)), some (.inl (zp)), q9, qa], [.inl (zd), .inl (zp), .inr (.inr 108)], [], []), [(mi_f h 13827) = ((0 : Int)), zp ≠ ((-1 : Int)), zn < ((60 : Int)), ((0 : Int)) ≤ zp, ((60 : Int)) ≤ zp, ((0 : Int)) ≠ ((1 : Int))]) := rfl
theorem mi_tab_krwG_4 : ∀ e ∈ ([(120, (11, 0, sb_120)), (16, (3, 0, sb_16)), (49, (2, 1, sb_49)), (72, (2, 2, sb_72))] : mi_T), sc_P e.1 = some e.2 := mi_tb mi_P120 (mi_tb mi_P16 (mi_tb mi_P49 (mi_tb mi_P72 (mi_tb_e))))
set_option maxRecDepth 20000 in
theorem ms_krwG_4 {h : sm_H} {d : Nat} {Q : Option mi_V → sm_H → Prop} {zf zd zi zw zo zp zn : Int} {q8 q9 qa : Option mi_V} (hS : ab_Sh sx_sk h) (ok_zf : mi_in zf) (ok_zd : mi_in zd) (ok_zi : mi_in zi) (ok_zw : mi_in zw) (ok_zo : mi_in zo) (ok_zp : mi_in zp) (ok_zn : mi_in zn) (ok_q8 : ∀ v, q8 = some v → mi_ok v) (ok_q9 : ∀ v, q9 = some v → mi_ok v) (ok_qa : ∀ v, qa = some v → mi_ok v) (ho : ((mi_f h 13827) = ((0 : Int))) ∧ (zp ≠ ((-1 : Int))) ∧ (zn < ((60 : Int))) ∧ (((0 : Int)) ≤ zp) ∧ (((60 : Int)) ≤ zp) ∧ (((0 : Int)) ≠ ((1 : Int)))) (kon : ∀ h1, me_W [] h h1 → ∃ Q1, me_E (d + 10) 131 0 (mi_entry 7 [.inr (.inr 108), .inl (zp), .inl (zd)]) [] h1 Q1 ∧ ∀ w h2, (∀ x, w = some x → mi_ok x) → Q1 w h2 → me_E (d + 11) 120 206 [some (.inr (.inr 108)), some (.inl (zf)), some (.inl (zd)), some (.inl (zi)), some (.inl (zw)), some (.inl (zo)), some (.inl (zp)), some (.inl (zn)), some (.inl (zp)), q9, qa] (mi_back w []) h2 Q) : me_E (d + 11) 120 104 [some (.inr (.inr 108)), some (.inl (zf)), some (.inl (zd)), some (.inl (zi)), some (.inl (zw)), some (.inl (zo)), some (.inl (zp)), some (.inl (zn)), q8, q9, qa] [] h Q := mf_seg (mp_krwG_4 h d zf zd zi zw zo zp zn q8 q9 qa) (mi_tab_krwG_4) hS (mi_okL_c (trivial) (mi_okL_c (ok_zf) (mi_okL_c (ok_zd) (mi_okL_c (ok_zi) (mi_okL_c (ok_zw) (mi_okL_c (ok_zo) (mi_okL_c (ok_zp) (mi_okL_c (ok_zn) (mi_okL_o ok_q8 (mi_okL_o ok_q9 (mi_okL_o ok_qa (mi_okL_e)))))))))))) (mi_okS_e) (mi_al (ho.1) (mi_al (ho.2.1) (mi_al (ho.2.2.1) (mi_al (ho.2.2.2.1) (mi_al (ho.2.2.2.2.1) (mi_al (ho.2.2.2.2.2) (mi_al_e))))))) (fun h1 W _ hst => let ⟨_, k1, k2⟩ := kon h1 W; mf_call (M := (11, 0, sb_120)) (M' := (7, 0, sb_131)) rfl rfl rfl rfl (Nat.le_of_ble_eq_true rfl) (Nat.le_of_ble_eq_true rfl) W.1 k1 k2)
set_option maxRecDepth 20000 in
theorem mp_krwG_5 (h : sm_H) (d : Nat) (zf zd zi zw zo zp zn : Int) (q8 q9 qa : Option mi_V) : mj_path [(120, (11, 0, sb_120)), (16, (3, 0, sb_16)), (49, (2, 1, sb_49)), (72, (2, 2, sb_72))] sx_sk h 32 [0, 0, 0, 0, 0, 1] (d + 11, 120, 104, [some (.inr (.inr 108)), some (.inl (zf)), some (.inl (zd)), some (.inl (zi)), some (.inl (zw)), some (.inl (zo)), some (.inl (zp)), some (.inl (zn)), q8, q9, qa], [], [], []) = some ((d + 11, 120, 203, [some (.inr (.inr 108)), some (.inl (zf)), some (.inl (zd)), some (.inl (zi)), some (.inl (zw)), some (.inl (zo)), some (.inl (zp)), some (.inl (zn)), some (.inl (zp)), q9, qa], [.inl (zd), .inl (zp), .inr (.inr 108)], [], []), [(mi_f h 13827) = ((0 : Int)), zp ≠ ((-1 : Int)), zn < ((60 : Int)), ((0 : Int)) ≤ zp, zp < ((60 : Int)), 0 ≤ zp ∧ zp < 60, (mi_a h 74 (Int.toNat zp)) ≠ ((1 : Int))]) := rfl
theorem mi_tab_krwG_5 : ∀ e ∈ ([(120, (11, 0, sb_120)), (16, (3, 0, sb_16)), (49, (2, 1, sb_49)), (72, (2, 2, sb_72))] : mi_T), sc_P e.1 = some e.2 := mi_tb mi_P120 (mi_tb mi_P16 (mi_tb mi_P49 (mi_tb mi_P72 (mi_tb_e))))
set_option maxRecDepth 20000 in
theorem ms_krwG_5 {h : sm_H} {d : Nat} {Q : Option mi_V → sm_H → Prop} {zf zd zi zw zo zp zn : Int} {q8 q9 qa : Option mi_V} (hS : ab_Sh sx_sk h) (ok_zf : mi_in zf) (ok_zd : mi_in zd) (ok_zi : mi_in zi) (ok_zw : mi_in zw) (ok_zo : mi_in zo) (ok_zp : mi_in zp) (ok_zn : mi_in zn) (ok_q8 : ∀ v, q8 = some v → mi_ok v) (ok_q9 : ∀ v, q9 = some v → mi_ok v) (ok_qa : ∀ v, qa = some v → mi_ok v) (ho : ((mi_f h 13827) = ((0 : Int))) ∧ (zp ≠ ((-1 : Int))) ∧ (zn < ((60 : Int))) ∧ (((0 : Int)) ≤ zp) ∧ (zp < ((60 : Int))) ∧ (0 ≤ zp ∧ zp < 60) ∧ ((mi_a h 74 (Int.toNat zp)) ≠ ((1 : Int)))) (kon : ∀ h1, me_W [] h h1 → ∃ Q1, me_E (d + 10) 131 0 (mi_entry 7 [.inr (.inr 108), .inl (zp), .inl (zd)]) [] h1 Q1 ∧ ∀ w h2, (∀ x, w = some x → mi_ok x) → Q1 w h2 → me_E (d + 11) 120 206 [some (.inr (.inr 108)), some (.inl (zf)), some (.inl (zd)), some (.inl (zi)), some (.inl (zw)), some (.inl (zo)), some (.inl (zp)), some (.inl (zn)), some (.inl (zp)), q9, qa] (mi_back w []) h2 Q) : me_E (d + 11) 120 104 [some (.inr (.inr 108)), some (.inl (zf)), some (.inl (zd)), some (.inl (zi)), some (.inl (zw)), some (.inl (zo)), some (.inl (zp)), some (.inl (zn)), q8, q9, qa] [] h Q := mf_seg (mp_krwG_5 h d zf zd zi zw zo zp zn q8 q9 qa) (mi_tab_krwG_5) hS (mi_okL_c (trivial) (mi_okL_c (ok_zf) (mi_okL_c (ok_zd) (mi_okL_c (ok_zi) (mi_okL_c (ok_zw) (mi_okL_c (ok_zo) (mi_okL_c (ok_zp) (mi_okL_c (ok_zn) (mi_okL_o ok_q8 (mi_okL_o ok_q9 (mi_okL_o ok_qa (mi_okL_e)))))))))))) (mi_okS_e) (mi_al (ho.1) (mi_al (ho.2.1) (mi_al (ho.2.2.1) (mi_al (ho.2.2.2.1) (mi_al (ho.2.2.2.2.1) (mi_al (ho.2.2.2.2.2.1) (mi_al (ho.2.2.2.2.2.2) (mi_al_e)))))))) (fun h1 W _ hst => let ⟨_, k1, k2⟩ := kon h1 W; mf_call (M := (11, 0, sb_120)) (M' := (7, 0, sb_131)) rfl rfl rfl rfl (Nat.le_of_ble_eq_true rfl) (Nat.le_of_ble_eq_true rfl) W.1 k1 k2)
set_option maxRecDepth 20000 in
theorem mp_krwG_6 (h : sm_H) (d : Nat) (zf zd zi zw zo zp zn : Int) (q8 q9 qa : Option mi_V) : mj_path [(120, (11, 0, sb_120)), (16, (3, 0, sb_16)), (49, (2, 1, sb_49)), (72, (2, 2, sb_72))] sx_sk h 48 [0, 0, 0, 0, 0, 0, 0, 0] (d + 11, 120, 104, [some (.inr (.inr 108)), some (.inl (zf)), some (.inl (zd)), some (.inl (zi)), some (.inl (zw)), some (.inl (zo)), some (.inl (zp)), some (.inl (zn)), q8, q9, qa], [], [], []) = some ((d + 11, 120, 161, [some (.inr (.inr 108)), some (.inl (zf)), some (.inl (zd)), some (.inl (zi)), some (.inl (zw)), some (.inl (zo)), some (.inl (zp)), some (.inl (zn)), some (.inl (mi_a h 71 (Int.toNat zp))), q9, qa], [.inl (mi_a h 71 (Int.toNat zp)), .inr (.inr 108)], [], []), [(mi_f h 13827) = ((0 : Int)), zp ≠ ((-1 : Int)), zn < ((60 : Int)), ((0 : Int)) ≤ zp, zp < ((60 : Int)), 0 ≤ zp ∧ zp < 60, (mi_a h 74 (Int.toNat zp)) = ((1 : Int)), ((0 : Int)) ≤ zp, zp < ((60 : Int)), 0 ≤ zp ∧ zp < 60]) := rfl
theorem mi_tab_krwG_6 : ∀ e ∈ ([(120, (11, 0, sb_120)), (16, (3, 0, sb_16)), (49, (2, 1, sb_49)), (72, (2, 2, sb_72))] : mi_T), sc_P e.1 = some e.2 := mi_tb mi_P120 (mi_tb mi_P16 (mi_tb mi_P49 (mi_tb mi_P72 (mi_tb_e))))
set_option maxRecDepth 20000 in
theorem ms_krwG_6 {h : sm_H} {d : Nat} {Q : Option mi_V → sm_H → Prop} {zf zd zi zw zo zp zn : Int} {q8 q9 qa : Option mi_V} (hS : ab_Sh sx_sk h) (ok_zf : mi_in zf) (ok_zd : mi_in zd) (ok_zi : mi_in zi) (ok_zw : mi_in zw) (ok_zo : mi_in zo) (ok_zp : mi_in zp) (ok_zn : mi_in zn) (ok_q8 : ∀ v, q8 = some v → mi_ok v) (ok_q9 : ∀ v, q9 = some v → mi_ok v) (ok_qa : ∀ v, qa = some v → mi_ok v) (ho : ((mi_f h 13827) = ((0 : Int))) ∧ (zp ≠ ((-1 : Int))) ∧ (zn < ((60 : Int))) ∧ (((0 : Int)) ≤ zp) ∧ (zp < ((60 : Int))) ∧ (0 ≤ zp ∧ zp < 60) ∧ ((mi_a h 74 (Int.toNat zp)) = ((1 : Int))) ∧ (((0 : Int)) ≤ zp) ∧ (zp < ((60 : Int))) ∧ (0 ≤ zp ∧ zp < 60)) (kon : ∀ h1, me_W [] h h1 → ∃ Q1, me_E (d + 10) 128 0 (mi_entry 3 [.inr (.inr 108), .inl (mi_a h 71 (Int.toNat zp))]) [] h1 Q1 ∧ ∀ w h2, (∀ x, w = some x → mi_ok x) → Q1 w h2 → me_E (d + 11) 120 164 [some (.inr (.inr 108)), some (.inl (zf)), some (.inl (zd)), some (.inl (zi)), some (.inl (zw)), some (.inl (zo)), some (.inl (zp)), some (.inl (zn)), some (.inl (mi_a h 71 (Int.toNat zp))), q9, qa] (mi_back w []) h2 Q) : me_E (d + 11) 120 104 [some (.inr (.inr 108)), some (.inl (zf)), some (.inl (zd)), some (.inl (zi)), some (.inl (zw)), some (.inl (zo)), some (.inl (zp)), some (.inl (zn)), q8, q9, qa] [] h Q := mf_seg (mp_krwG_6 h d zf zd zi zw zo zp zn q8 q9 qa) (mi_tab_krwG_6) hS (mi_okL_c (trivial) (mi_okL_c (ok_zf) (mi_okL_c (ok_zd) (mi_okL_c (ok_zi) (mi_okL_c (ok_zw) (mi_okL_c (ok_zo) (mi_okL_c (ok_zp) (mi_okL_c (ok_zn) (mi_okL_o ok_q8 (mi_okL_o ok_q9 (mi_okL_o ok_qa (mi_okL_e)))))))))))) (mi_okS_e) (mi_al (ho.1) (mi_al (ho.2.1) (mi_al (ho.2.2.1) (mi_al (ho.2.2.2.1) (mi_al (ho.2.2.2.2.1) (mi_al (ho.2.2.2.2.2.1) (mi_al (ho.2.2.2.2.2.2.1) (mi_al (ho.2.2.2.2.2.2.2.1) (mi_al (ho.2.2.2.2.2.2.2.2.1) (mi_al (ho.2.2.2.2.2.2.2.2.2) (mi_al_e))))))))))) (fun h1 W _ hst => let ⟨_, k1, k2⟩ := kon h1 W; mf_call (M := (11, 0, sb_120)) (M' := (3, 1, sb_128)) rfl rfl rfl rfl (Nat.le_of_ble_eq_true rfl) (Nat.le_of_ble_eq_true rfl) W.1 k1 k2)
set_option maxRecDepth 20000 in
theorem mt_krwG {h : sm_H} {d : Nat} {Q : Option mi_V → sm_H → Prop} {zf zd zi zw zo zp zn : Int} {q8 q9 qa : Option mi_V} (hS : ab_Sh sx_sk h) (ok_zf : mi_in zf) (ok_zd : mi_in zd) (ok_zi : mi_in zi) (ok_zw : mi_in zw) (ok_zo : mi_in zo) (ok_zp : mi_in zp) (ok_zn : mi_in zn) (ok_q8 : ∀ v, q8 = some v → mi_ok v) (ok_q9 : ∀ v, q9 = some v → mi_ok v) (ok_qa : ∀ v, qa = some v → mi_ok v) (k0 : (0 ≤ mi_f h 13827 ∧ mi_f h 13827 ≤ 1) → ((mi_f h 13827) ≠ ((0 : Int))) → (∀ h1, ab_Sh sx_sk h1 → ab_Fr [] h h1 → me_E (d + 11) 120 226 [some (.inr (.inr 108)), some (.inl (zf)), some (.inl (zd)), some (.inl (zi)), some (.inl (zw)), some (.inl (zo)), some (.inl (zp)), some (.inl (zn)), q8, q9, qa] [] h1 Q)) (k1 : (0 ≤ mi_f h 13827 ∧ mi_f h 13827 ≤ 1) → ((mi_f h 13827) = ((0 : Int))) → (zp = ((-1 : Int))) → (∀ h1, ab_Sh sx_sk h1 → ab_Fr [] h h1 → me_E (d + 11) 120 226 [some (.inr (.inr 108)), some (.inl (zf)), some (.inl (zd)), some (.inl (zi)), some (.inl (zw)), some (.inl (zo)), some (.inl (zp)), some (.inl (zn)), q8, q9, qa] [] h1 Q)) (k2 : (0 ≤ mi_f h 13827 ∧ mi_f h 13827 ≤ 1) → ((mi_f h 13827) = ((0 : Int))) → (zp ≠ ((-1 : Int))) → (((60 : Int)) ≤ zn) → (∀ h1, ab_Sh sx_sk h1 → ab_Fr [] h h1 → me_E (d + 11) 120 226 [some (.inr (.inr 108)), some (.inl (zf)), some (.inl (zd)), some (.inl (zi)), some (.inl (zw)), some (.inl (zo)), some (.inl (zp)), some (.inl (zn)), q8, q9, qa] [] h1 Q)) (k3 : (0 ≤ mi_f h 13827 ∧ mi_f h 13827 ≤ 1) → ((mi_f h 13827) = ((0 : Int))) → (zp ≠ ((-1 : Int))) → (zn < ((60 : Int))) → (zp < ((0 : Int))) → (∀ h1, ab_Sh sx_sk h1 → ab_Fr [] h h1 → ∃ Q1, me_E (d + 10) 131 0 (mi_entry 7 [.inr (.inr 108), .inl (zp), .inl (zd)]) [] h1 Q1 ∧ ∀ w h2, (∀ x, w = some x → mi_ok x) → Q1 w h2 → me_E (d + 11) 120 206 [some (.inr (.inr 108)), some (.inl (zf)), some (.inl (zd)), some (.inl (zi)), some (.inl (zw)), some (.inl (zo)), some (.inl (zp)), some (.inl (zn)), some (.inl (zp)), q9, qa] (mi_back w []) h2 Q)) (k4 : (0 ≤ mi_f h 13827 ∧ mi_f h 13827 ≤ 1) → ((mi_f h 13827) = ((0 : Int))) → (zp ≠ ((-1 : Int))) → (zn < ((60 : Int))) → (((0 : Int)) ≤ zp) → (((60 : Int)) ≤ zp) → (∀ h1, ab_Sh sx_sk h1 → ab_Fr [] h h1 → ∃ Q1, me_E (d + 10) 131 0 (mi_entry 7 [.inr (.inr 108), .inl (zp), .inl (zd)]) [] h1 Q1 ∧ ∀ w h2, (∀ x, w = some x → mi_ok x) → Q1 w h2 → me_E (d + 11) 120 206 [some (.inr (.inr 108)), some (.inl (zf)), some (.inl (zd)), some (.inl (zi)), some (.inl (zw)), some (.inl (zo)), some (.inl (zp)), some (.inl (zn)), some (.inl (zp)), q9, qa] (mi_back w []) h2 Q)) (k5 : (0 ≤ mi_f h 13827 ∧ mi_f h 13827 ≤ 1) → ((mi_f h 13827) = ((0 : Int))) → (zp ≠ ((-1 : Int))) → (zn < ((60 : Int))) → (((0 : Int)) ≤ zp) → (zp < ((60 : Int))) → ((mi_a h 74 (Int.toNat zp)) ≠ ((1 : Int))) → ((0 ≤ zp ∧ zp < 60)) ∧ (∀ h1, ab_Sh sx_sk h1 → ab_Fr [] h h1 → ∃ Q1, me_E (d + 10) 131 0 (mi_entry 7 [.inr (.inr 108), .inl (zp), .inl (zd)]) [] h1 Q1 ∧ ∀ w h2, (∀ x, w = some x → mi_ok x) → Q1 w h2 → me_E (d + 11) 120 206 [some (.inr (.inr 108)), some (.inl (zf)), some (.inl (zd)), some (.inl (zi)), some (.inl (zw)), some (.inl (zo)), some (.inl (zp)), some (.inl (zn)), some (.inl (zp)), q9, qa] (mi_back w []) h2 Q)) (k6 : (0 ≤ mi_f h 13827 ∧ mi_f h 13827 ≤ 1) → ((mi_f h 13827) = ((0 : Int))) → (zp ≠ ((-1 : Int))) → (zn < ((60 : Int))) → (((0 : Int)) ≤ zp) → (zp < ((60 : Int))) → ((mi_a h 74 (Int.toNat zp)) = ((1 : Int))) → ((0 ≤ zp ∧ zp < 60)) ∧ (∀ h1, ab_Sh sx_sk h1 → ab_Fr [] h h1 → ∃ Q1, me_E (d + 10) 128 0 (mi_entry 3 [.inr (.inr 108), .inl (mi_a h 71 (Int.toNat zp))]) [] h1 Q1 ∧ ∀ w h2, (∀ x, w = some x → mi_ok x) → Q1 w h2 → me_E (d + 11) 120 164 [some (.inr (.inr 108)), some (.inl (zf)), some (.inl (zd)), some (.inl (zi)), some (.inl (zw)), some (.inl (zo)), some (.inl (zp)), some (.inl (zn)), some (.inl (mi_a h 71 (Int.toNat zp))), q9, qa] (mi_back w []) h2 Q)) : me_E (d + 11) 120 104 [some (.inr (.inr 108)), some (.inl (zf)), some (.inl (zd)), some (.inl (zi)), some (.inl (zw)), some (.inl (zo)), some (.inl (zp)), some (.inl (zn)), q8, q9, qa] [] h Q := Or.elim (mi_em .ne ((mi_f h 13827)) (((0 : Int)))) (fun c0 => ms_krwG_0 hS ok_zf ok_zd ok_zi ok_zw ok_zo ok_zp ok_zn ok_q8 ok_q9 ok_qa (c0) (fun h1 W => (k0 (me_fb hS rfl) c0) h1 W.1 (W.2.2.2.2.2 _ rfl))) (fun c0 => Or.elim (mi_em .eq (zp) (((-1 : Int)))) (fun c1 => ms_krwG_1 hS ok_zf ok_zd ok_zi ok_zw ok_zo ok_zp ok_zn ok_q8 ok_q9 ok_qa ⟨c0, c1⟩ (fun h1 W => (k1 (me_fb hS rfl) c0 c1) h1 W.1 (W.2.2.2.2.2 _ rfl))) (fun c1 => Or.elim (mi_em .ge (zn) (((60 : Int)))) (fun c2 => ms_krwG_2 hS ok_zf ok_zd ok_zi ok_zw ok_zo ok_zp ok_zn ok_q8 ok_q9 ok_qa ⟨c0, c1, c2⟩ (fun h1 W => (k2 (me_fb hS rfl) c0 c1 c2) h1 W.1 (W.2.2.2.2.2 _ rfl))) (fun c2 => Or.elim (mi_em .lt (zp) (((0 : Int)))) (fun c3 => ms_krwG_3 hS ok_zf ok_zd ok_zi ok_zw ok_zo ok_zp ok_zn ok_q8 ok_q9 ok_qa ⟨c0, c1, c2, c3, (by decide)⟩ (fun h1 W => (k3 (me_fb hS rfl) c0 c1 c2 c3) h1 W.1 (W.2.2.2.2.2 _ rfl))) (fun c3 => Or.elim (mi_em .ge (zp) (((60 : Int)))) (fun c4 => ms_krwG_4 hS ok_zf ok_zd ok_zi ok_zw ok_zo ok_zp ok_zn ok_q8 ok_q9 ok_qa ⟨c0, c1, c2, c3, c4, (by decide)⟩ (fun h1 W => (k4 (me_fb hS rfl) c0 c1 c2 c3 c4) h1 W.1 (W.2.2.2.2.2 _ rfl))) (fun c4 => Or.elim (mi_em .ne ((mi_a h 74 (Int.toNat zp))) (((1 : Int)))) (fun c5 => ms_krwG_5 hS ok_zf ok_zd ok_zi ok_zw ok_zo ok_zp ok_zn ok_q8 ok_q9 ok_qa ⟨c0, c1, c2, c3, c4, (k5 (me_fb hS rfl) c0 c1 c2 c3 c4 c5).1, c5⟩ (fun h1 W => (k5 (me_fb hS rfl) c0 c1 c2 c3 c4 c5).2 h1 W.1 (W.2.2.2.2.2 _ rfl))) (fun c5 => ms_krwG_6 hS ok_zf ok_zd ok_zi ok_zw ok_zo ok_zp ok_zn ok_q8 ok_q9 ok_qa ⟨c0, c1, c2, c3, c4, (k6 (me_fb hS rfl) c0 c1 c2 c3 c4 c5).1, c5, c3, c4, (k6 (me_fb hS rfl) c0 c1 c2 c3 c4 c5).1⟩ (fun h1 W => (k6 (me_fb hS rfl) c0 c1 c2 c3 c4 c5).2 h1 W.1 (W.2.2.2.2.2 _ rfl))))))))
set_option maxRecDepth 20000 in
theorem mp_krwN_0 (h : sm_H) (d : Nat) (zf zd zi zw zo zp zn zl zz : Int) (q9 qa : Option mi_V) : mj_path [(120, (11, 0, sb_120))] sx_sk h 4 [] (d + 11, 120, 164, [some (.inr (.inr 108)), some (.inl (zf)), some (.inl (zd)), some (.inl (zi)), some (.inl (zw)), some (.inl (zo)), some (.inl (zp)), some (.inl (zn)), some (.inl (zl)), q9, qa], [.inl (zz)], [], []) = some ((d + 11, 120, 170, [some (.inr (.inr 108)), some (.inl (zf)), some (.inl (zd)), some (.inl (zi)), some (.inl (zw)), some (.inl (zo)), some (.inl (zp)), some (.inl (zn)), some (.inl (zl)), some (.inl (zz)), qa], [.inl (zd), .inl (zp), .inr (.inr 108)], [], []), []) := rfl
theorem mi_tab_krwN_0 : ∀ e ∈ ([(120, (11, 0, sb_120))] : mi_T), sc_P e.1 = some e.2 := mi_tb mi_P120 (mi_tb_e)
set_option maxRecDepth 20000 in
theorem ms_krwN_0 {h : sm_H} {d : Nat} {Q : Option mi_V → sm_H → Prop} {zf zd zi zw zo zp zn zl zz : Int} {q9 qa : Option mi_V} (hS : ab_Sh sx_sk h) (ok_zf : mi_in zf) (ok_zd : mi_in zd) (ok_zi : mi_in zi) (ok_zw : mi_in zw) (ok_zo : mi_in zo) (ok_zp : mi_in zp) (ok_zn : mi_in zn) (ok_zl : mi_in zl) (ok_zz : mi_in zz) (ok_q9 : ∀ v, q9 = some v → mi_ok v) (ok_qa : ∀ v, qa = some v → mi_ok v) (kon : ∀ h1, me_W [] h h1 → ∃ Q1, me_E (d + 10) 131 0 (mi_entry 7 [.inr (.inr 108), .inl (zp), .inl (zd)]) [] h1 Q1 ∧ ∀ w h2, (∀ x, w = some x → mi_ok x) → Q1 w h2 → me_E (d + 11) 120 173 [some (.inr (.inr 108)), some (.inl (zf)), some (.inl (zd)), some (.inl (zi)), some (.inl (zw)), some (.inl (zo)), some (.inl (zp)), some (.inl (zn)), some (.inl (zl)), some (.inl (zz)), qa] (mi_back w []) h2 Q) : me_E (d + 11) 120 164 [some (.inr (.inr 108)), some (.inl (zf)), some (.inl (zd)), some (.inl (zi)), some (.inl (zw)), some (.inl (zo)), some (.inl (zp)), some (.inl (zn)), some (.inl (zl)), q9, qa] [.inl (zz)] h Q := mf_seg (mp_krwN_0 h d zf zd zi zw zo zp zn zl zz q9 qa) (mi_tab_krwN_0) hS (mi_okL_c (trivial) (mi_okL_c (ok_zf) (mi_okL_c (ok_zd) (mi_okL_c (ok_zi) (mi_okL_c (ok_zw) (mi_okL_c (ok_zo) (mi_okL_c (ok_zp) (mi_okL_c (ok_zn) (mi_okL_c (ok_zl) (mi_okL_o ok_q9 (mi_okL_o ok_qa (mi_okL_e)))))))))))) (mi_okS_cons (ok_zz) (mi_okS_e)) (mi_al_e) (fun h1 W _ hst => let ⟨_, k1, k2⟩ := kon h1 W; mf_call (M := (11, 0, sb_120)) (M' := (7, 0, sb_131)) rfl rfl rfl rfl (Nat.le_of_ble_eq_true rfl) (Nat.le_of_ble_eq_true rfl) W.1 k1 k2)
set_option maxRecDepth 20000 in
theorem mt_krwN {h : sm_H} {d : Nat} {Q : Option mi_V → sm_H → Prop} {zf zd zi zw zo zp zn zl zz : Int} {q9 qa : Option mi_V} (hS : ab_Sh sx_sk h) (ok_zf : mi_in zf) (ok_zd : mi_in zd) (ok_zi : mi_in zi) (ok_zw : mi_in zw) (ok_zo : mi_in zo) (ok_zp : mi_in zp) (ok_zn : mi_in zn) (ok_zl : mi_in zl) (ok_zz : mi_in zz) (ok_q9 : ∀ v, q9 = some v → mi_ok v) (ok_qa : ∀ v, qa = some v → mi_ok v) (k0 : (∀ h1, ab_Sh sx_sk h1 → ab_Fr [] h h1 → ∃ Q1, me_E (d + 10) 131 0 (mi_entry 7 [.inr (.inr 108), .inl (zp), .inl (zd)]) [] h1 Q1 ∧ ∀ w h2, (∀ x, w = some x → mi_ok x) → Q1 w h2 → me_E (d + 11) 120 173 [some (.inr (.inr 108)), some (.inl (zf)), some (.inl (zd)), some (.inl (zi)), some (.inl (zw)), some (.inl (zo)), some (.inl (zp)), some (.inl (zn)), some (.inl (zl)), some (.inl (zz)), qa] (mi_back w []) h2 Q)) : me_E (d + 11) 120 164 [some (.inr (.inr 108)), some (.inl (zf)), some (.inl (zd)), some (.inl (zi)), some (.inl (zw)), some (.inl (zo)), some (.inl (zp)), some (.inl (zn)), some (.inl (zl)), q9, qa] [.inl (zz)] h Q := ms_krwN_0 hS ok_zf ok_zd ok_zi ok_zw ok_zo ok_zp ok_zn ok_zl ok_zz ok_q9 ok_qa (fun h1 W => (k0) h1 W.1 (W.2.2.2.2.2 _ rfl))
set_option maxRecDepth 20000 in
theorem mp_krwH_0 (h : sm_H) (d : Nat) (zf zd zi zw zo zp zn zl : Int) (q9 qa : Option mi_V) : mj_path [(120, (11, 0, sb_120)), (16, (3, 0, sb_16)), (49, (2, 1, sb_49)), (72, (2, 2, sb_72))] sx_sk h 12 [1] (d + 11, 120, 206, [some (.inr (.inr 108)), some (.inl (zf)), some (.inl (zd)), some (.inl (zi)), some (.inl (zw)), some (.inl (zo)), some (.inl (zp)), some (.inl (zn)), some (.inl (zl)), q9, qa], [], [], []) = some ((d + 11, 120, 104, [some (.inr (.inr 108)), some (.inl (zf)), some (.inl (zd)), some (.inl (zi)), some (.inl (zw)), some (.inl (zo)), some (.inl ((0 : Int))), some (.inl (zn + 1)), some (.inl (zl)), q9, qa], [], [], []), [zl < ((0 : Int)), -2147483648 ≤ zn + 1 ∧ zn + 1 ≤ 2147483647]) := rfl
theorem mi_tab_krwH_0 : ∀ e ∈ ([(120, (11, 0, sb_120)), (16, (3, 0, sb_16)), (49, (2, 1, sb_49)), (72, (2, 2, sb_72))] : mi_T), sc_P e.1 = some e.2 := mi_tb mi_P120 (mi_tb mi_P16 (mi_tb mi_P49 (mi_tb mi_P72 (mi_tb_e))))
set_option maxRecDepth 20000 in
theorem ms_krwH_0 {h : sm_H} {d : Nat} {Q : Option mi_V → sm_H → Prop} {zf zd zi zw zo zp zn zl : Int} {q9 qa : Option mi_V} (hS : ab_Sh sx_sk h) (ok_zf : mi_in zf) (ok_zd : mi_in zd) (ok_zi : mi_in zi) (ok_zw : mi_in zw) (ok_zo : mi_in zo) (ok_zp : mi_in zp) (ok_zn : mi_in zn) (ok_zl : mi_in zl) (ok_q9 : ∀ v, q9 = some v → mi_ok v) (ok_qa : ∀ v, qa = some v → mi_ok v) (ho : (zl < ((0 : Int))) ∧ (-2147483648 ≤ zn + 1 ∧ zn + 1 ≤ 2147483647)) (kon : ∀ h1, me_W [] h h1 → me_E (d + 11) 120 104 [some (.inr (.inr 108)), some (.inl (zf)), some (.inl (zd)), some (.inl (zi)), some (.inl (zw)), some (.inl (zo)), some (.inl ((0 : Int))), some (.inl (zn + 1)), some (.inl (zl)), q9, qa] [] h1 Q) : me_E (d + 11) 120 206 [some (.inr (.inr 108)), some (.inl (zf)), some (.inl (zd)), some (.inl (zi)), some (.inl (zw)), some (.inl (zo)), some (.inl (zp)), some (.inl (zn)), some (.inl (zl)), q9, qa] [] h Q := mf_seg (mp_krwH_0 h d zf zd zi zw zo zp zn zl q9 qa) (mi_tab_krwH_0) hS (mi_okL_c (trivial) (mi_okL_c (ok_zf) (mi_okL_c (ok_zd) (mi_okL_c (ok_zi) (mi_okL_c (ok_zw) (mi_okL_c (ok_zo) (mi_okL_c (ok_zp) (mi_okL_c (ok_zn) (mi_okL_c (ok_zl) (mi_okL_o ok_q9 (mi_okL_o ok_qa (mi_okL_e)))))))))))) (mi_okS_e) (mi_al (ho.1) (mi_al (ho.2) (mi_al_e))) (fun h1 W _ hst => kon h1 W)
set_option maxRecDepth 20000 in
theorem mp_krwH_1 (h : sm_H) (d : Nat) (zf zd zi zw zo zp zn zl : Int) (q9 qa : Option mi_V) : mj_path [(120, (11, 0, sb_120)), (16, (3, 0, sb_16)), (49, (2, 1, sb_49)), (72, (2, 2, sb_72))] sx_sk h 16 [0, 1] (d + 11, 120, 206, [some (.inr (.inr 108)), some (.inl (zf)), some (.inl (zd)), some (.inl (zi)), some (.inl (zw)), some (.inl (zo)), some (.inl (zp)), some (.inl (zn)), some (.inl (zl)), q9, qa], [], [], []) = some ((d + 11, 120, 104, [some (.inr (.inr 108)), some (.inl (zf)), some (.inl (zd)), some (.inl (zi)), some (.inl (zw)), some (.inl (zo)), some (.inl ((0 : Int))), some (.inl (zn + 1)), some (.inl (zl)), q9, qa], [], [], []), [((0 : Int)) ≤ zl, ((60 : Int)) ≤ zl, -2147483648 ≤ zn + 1 ∧ zn + 1 ≤ 2147483647]) := rfl
theorem mi_tab_krwH_1 : ∀ e ∈ ([(120, (11, 0, sb_120)), (16, (3, 0, sb_16)), (49, (2, 1, sb_49)), (72, (2, 2, sb_72))] : mi_T), sc_P e.1 = some e.2 := mi_tb mi_P120 (mi_tb mi_P16 (mi_tb mi_P49 (mi_tb mi_P72 (mi_tb_e))))
set_option maxRecDepth 20000 in
theorem ms_krwH_1 {h : sm_H} {d : Nat} {Q : Option mi_V → sm_H → Prop} {zf zd zi zw zo zp zn zl : Int} {q9 qa : Option mi_V} (hS : ab_Sh sx_sk h) (ok_zf : mi_in zf) (ok_zd : mi_in zd) (ok_zi : mi_in zi) (ok_zw : mi_in zw) (ok_zo : mi_in zo) (ok_zp : mi_in zp) (ok_zn : mi_in zn) (ok_zl : mi_in zl) (ok_q9 : ∀ v, q9 = some v → mi_ok v) (ok_qa : ∀ v, qa = some v → mi_ok v) (ho : (((0 : Int)) ≤ zl) ∧ (((60 : Int)) ≤ zl) ∧ (-2147483648 ≤ zn + 1 ∧ zn + 1 ≤ 2147483647)) (kon : ∀ h1, me_W [] h h1 → me_E (d + 11) 120 104 [some (.inr (.inr 108)), some (.inl (zf)), some (.inl (zd)), some (.inl (zi)), some (.inl (zw)), some (.inl (zo)), some (.inl ((0 : Int))), some (.inl (zn + 1)), some (.inl (zl)), q9, qa] [] h1 Q) : me_E (d + 11) 120 206 [some (.inr (.inr 108)), some (.inl (zf)), some (.inl (zd)), some (.inl (zi)), some (.inl (zw)), some (.inl (zo)), some (.inl (zp)), some (.inl (zn)), some (.inl (zl)), q9, qa] [] h Q := mf_seg (mp_krwH_1 h d zf zd zi zw zo zp zn zl q9 qa) (mi_tab_krwH_1) hS (mi_okL_c (trivial) (mi_okL_c (ok_zf) (mi_okL_c (ok_zd) (mi_okL_c (ok_zi) (mi_okL_c (ok_zw) (mi_okL_c (ok_zo) (mi_okL_c (ok_zp) (mi_okL_c (ok_zn) (mi_okL_c (ok_zl) (mi_okL_o ok_q9 (mi_okL_o ok_qa (mi_okL_e)))))))))))) (mi_okS_e) (mi_al (ho.1) (mi_al (ho.2.1) (mi_al (ho.2.2) (mi_al_e)))) (fun h1 W _ hst => kon h1 W)
set_option maxRecDepth 20000 in
theorem mp_krwH_2 (h : sm_H) (d : Nat) (zf zd zi zw zo zp zn zl : Int) (q9 qa : Option mi_V) : mj_path [(120, (11, 0, sb_120)), (16, (3, 0, sb_16)), (49, (2, 1, sb_49)), (72, (2, 2, sb_72))] sx_sk h 19 [0, 0] (d + 11, 120, 206, [some (.inr (.inr 108)), some (.inl (zf)), some (.inl (zd)), some (.inl (zi)), some (.inl (zw)), some (.inl (zo)), some (.inl (zp)), some (.inl (zn)), some (.inl (zl)), q9, qa], [], [], []) = some ((d + 11, 120, 104, [some (.inr (.inr 108)), some (.inl (zf)), some (.inl (zd)), some (.inl (zi)), some (.inl (zw)), some (.inl (zo)), some (.inl (mi_a h 71 (Int.toNat zl))), some (.inl (zn + 1)), some (.inl (zl)), q9, qa], [], [], []), [((0 : Int)) ≤ zl, zl < ((60 : Int)), 0 ≤ zl ∧ zl < 60, -2147483648 ≤ zn + 1 ∧ zn + 1 ≤ 2147483647]) := rfl
theorem mi_tab_krwH_2 : ∀ e ∈ ([(120, (11, 0, sb_120)), (16, (3, 0, sb_16)), (49, (2, 1, sb_49)), (72, (2, 2, sb_72))] : mi_T), sc_P e.1 = some e.2 := mi_tb mi_P120 (mi_tb mi_P16 (mi_tb mi_P49 (mi_tb mi_P72 (mi_tb_e))))
set_option maxRecDepth 20000 in
theorem ms_krwH_2 {h : sm_H} {d : Nat} {Q : Option mi_V → sm_H → Prop} {zf zd zi zw zo zp zn zl : Int} {q9 qa : Option mi_V} (hS : ab_Sh sx_sk h) (ok_zf : mi_in zf) (ok_zd : mi_in zd) (ok_zi : mi_in zi) (ok_zw : mi_in zw) (ok_zo : mi_in zo) (ok_zp : mi_in zp) (ok_zn : mi_in zn) (ok_zl : mi_in zl) (ok_q9 : ∀ v, q9 = some v → mi_ok v) (ok_qa : ∀ v, qa = some v → mi_ok v) (ho : (((0 : Int)) ≤ zl) ∧ (zl < ((60 : Int))) ∧ (0 ≤ zl ∧ zl < 60) ∧ (-2147483648 ≤ zn + 1 ∧ zn + 1 ≤ 2147483647)) (kon : ∀ h1, me_W [] h h1 → me_E (d + 11) 120 104 [some (.inr (.inr 108)), some (.inl (zf)), some (.inl (zd)), some (.inl (zi)), some (.inl (zw)), some (.inl (zo)), some (.inl (mi_a h 71 (Int.toNat zl))), some (.inl (zn + 1)), some (.inl (zl)), q9, qa] [] h1 Q) : me_E (d + 11) 120 206 [some (.inr (.inr 108)), some (.inl (zf)), some (.inl (zd)), some (.inl (zi)), some (.inl (zw)), some (.inl (zo)), some (.inl (zp)), some (.inl (zn)), some (.inl (zl)), q9, qa] [] h Q := mf_seg (mp_krwH_2 h d zf zd zi zw zo zp zn zl q9 qa) (mi_tab_krwH_2) hS (mi_okL_c (trivial) (mi_okL_c (ok_zf) (mi_okL_c (ok_zd) (mi_okL_c (ok_zi) (mi_okL_c (ok_zw) (mi_okL_c (ok_zo) (mi_okL_c (ok_zp) (mi_okL_c (ok_zn) (mi_okL_c (ok_zl) (mi_okL_o ok_q9 (mi_okL_o ok_qa (mi_okL_e)))))))))))) (mi_okS_e) (mi_al (ho.1) (mi_al (ho.2.1) (mi_al (ho.2.2.1) (mi_al (ho.2.2.2) (mi_al_e))))) (fun h1 W _ hst => kon h1 W)
set_option maxRecDepth 20000 in
theorem mt_krwH {h : sm_H} {d : Nat} {Q : Option mi_V → sm_H → Prop} {zf zd zi zw zo zp zn zl : Int} {q9 qa : Option mi_V} (hS : ab_Sh sx_sk h) (ok_zf : mi_in zf) (ok_zd : mi_in zd) (ok_zi : mi_in zi) (ok_zw : mi_in zw) (ok_zo : mi_in zo) (ok_zp : mi_in zp) (ok_zn : mi_in zn) (ok_zl : mi_in zl) (ok_q9 : ∀ v, q9 = some v → mi_ok v) (ok_qa : ∀ v, qa = some v → mi_ok v) (k0 : (zl < ((0 : Int))) → ((-2147483648 ≤ zn + 1 ∧ zn + 1 ≤ 2147483647)) ∧ (∀ h1, ab_Sh sx_sk h1 → ab_Fr [] h h1 → me_E (d + 11) 120 104 [some (.inr (.inr 108)), some (.inl (zf)), some (.inl (zd)), some (.inl (zi)), some (.inl (zw)), some (.inl (zo)), some (.inl ((0 : Int))), some (.inl (zn + 1)), some (.inl (zl)), q9, qa] [] h1 Q)) (k1 : (((0 : Int)) ≤ zl) → (((60 : Int)) ≤ zl) → ((-2147483648 ≤ zn + 1 ∧ zn + 1 ≤ 2147483647)) ∧ (∀ h1, ab_Sh sx_sk h1 → ab_Fr [] h h1 → me_E (d + 11) 120 104 [some (.inr (.inr 108)), some (.inl (zf)), some (.inl (zd)), some (.inl (zi)), some (.inl (zw)), some (.inl (zo)), some (.inl ((0 : Int))), some (.inl (zn + 1)), some (.inl (zl)), q9, qa] [] h1 Q)) (k2 : (((0 : Int)) ≤ zl) → (zl < ((60 : Int))) → ((0 ≤ zl ∧ zl < 60) ∧ (-2147483648 ≤ zn + 1 ∧ zn + 1 ≤ 2147483647)) ∧ (∀ h1, ab_Sh sx_sk h1 → ab_Fr [] h h1 → me_E (d + 11) 120 104 [some (.inr (.inr 108)), some (.inl (zf)), some (.inl (zd)), some (.inl (zi)), some (.inl (zw)), some (.inl (zo)), some (.inl (mi_a h 71 (Int.toNat zl))), some (.inl (zn + 1)), some (.inl (zl)), q9, qa] [] h1 Q)) : me_E (d + 11) 120 206 [some (.inr (.inr 108)), some (.inl (zf)), some (.inl (zd)), some (.inl (zi)), some (.inl (zw)), some (.inl (zo)), some (.inl (zp)), some (.inl (zn)), some (.inl (zl)), q9, qa] [] h Q := Or.elim (mi_em .lt (zl) (((0 : Int)))) (fun c0 => ms_krwH_0 hS ok_zf ok_zd ok_zi ok_zw ok_zo ok_zp ok_zn ok_zl ok_q9 ok_qa ⟨c0, (k0 c0).1⟩ (fun h1 W => (k0 c0).2 h1 W.1 (W.2.2.2.2.2 _ rfl))) (fun c0 => Or.elim (mi_em .ge (zl) (((60 : Int)))) (fun c1 => ms_krwH_1 hS ok_zf ok_zd ok_zi ok_zw ok_zo ok_zp ok_zn ok_zl ok_q9 ok_qa ⟨c0, c1, (k1 c0 c1).1⟩ (fun h1 W => (k1 c0 c1).2 h1 W.1 (W.2.2.2.2.2 _ rfl))) (fun c1 => ms_krwH_2 hS ok_zf ok_zd ok_zi ok_zw ok_zo ok_zp ok_zn ok_zl ok_q9 ok_qa ⟨c0, c1, (k2 c0 c1).1.1, (k2 c0 c1).1.2⟩ (fun h1 W => (k2 c0 c1).2 h1 W.1 (W.2.2.2.2.2 _ rfl))))
set_option maxRecDepth 20000 in
theorem mp_krwI_0 (h : sm_H) (d : Nat) (zf zd zi zw zo zp zn zl zs : Int) (qa : Option mi_V) : mj_path [(120, (11, 0, sb_120)), (149, (3, 1, sb_149))] sx_sk h 15 [] (d + 11, 120, 173, [some (.inr (.inr 108)), some (.inl (zf)), some (.inl (zd)), some (.inl (zi)), some (.inl (zw)), some (.inl (zo)), some (.inl (zp)), some (.inl (zn)), some (.inl (zl)), some (.inl (zs)), qa], [], [], []) = some ((d + 11, 120, 185, [some (.inr (.inr 108)), some (.inl (zf)), some (.inl (zd)), some (.inl (zi)), some (.inl (zw)), some (.inl (zo)), some (.inl (zp)), some (.inl (zn)), some (.inl (zl)), some (.inl (zs)), some (.inl (mi_f h 13831))], [.inl (zd), .inl (zl), .inr (.inr 108)], [.inl (13831, zs)], []), []) := rfl
theorem mi_tab_krwI_0 : ∀ e ∈ ([(120, (11, 0, sb_120)), (149, (3, 1, sb_149))] : mi_T), sc_P e.1 = some e.2 := mi_tb mi_P120 (mi_tb mi_P149 (mi_tb_e))
set_option maxRecDepth 20000 in
theorem ms_krwI_0 {h : sm_H} {d : Nat} {Q : Option mi_V → sm_H → Prop} {zf zd zi zw zo zp zn zl zs : Int} {qa : Option mi_V} (hS : ab_Sh sx_sk h) (ok_zf : mi_in zf) (ok_zd : mi_in zd) (ok_zi : mi_in zi) (ok_zw : mi_in zw) (ok_zo : mi_in zo) (ok_zp : mi_in zp) (ok_zn : mi_in zn) (ok_zl : mi_in zl) (ok_zs : mi_in zs) (ok_qa : ∀ v, qa = some v → mi_ok v) (kon : ∀ h1, me_W [.inl (13831, zs)] h h1 → ∃ Q1, me_E (d + 10) 131 0 (mi_entry 7 [.inr (.inr 108), .inl (zl), .inl (zd)]) [] h1 Q1 ∧ ∀ w h2, (∀ x, w = some x → mi_ok x) → Q1 w h2 → me_E (d + 11) 120 188 [some (.inr (.inr 108)), some (.inl (zf)), some (.inl (zd)), some (.inl (zi)), some (.inl (zw)), some (.inl (zo)), some (.inl (zp)), some (.inl (zn)), some (.inl (zl)), some (.inl (zs)), some (.inl (mi_f h 13831))] (mi_back w []) h2 Q) : me_E (d + 11) 120 173 [some (.inr (.inr 108)), some (.inl (zf)), some (.inl (zd)), some (.inl (zi)), some (.inl (zw)), some (.inl (zo)), some (.inl (zp)), some (.inl (zn)), some (.inl (zl)), some (.inl (zs)), qa] [] h Q := mf_seg (mp_krwI_0 h d zf zd zi zw zo zp zn zl zs qa) (mi_tab_krwI_0) hS (mi_okL_c (trivial) (mi_okL_c (ok_zf) (mi_okL_c (ok_zd) (mi_okL_c (ok_zi) (mi_okL_c (ok_zw) (mi_okL_c (ok_zo) (mi_okL_c (ok_zp) (mi_okL_c (ok_zn) (mi_okL_c (ok_zl) (mi_okL_c (ok_zs) (mi_okL_o ok_qa (mi_okL_e)))))))))))) (mi_okS_e) (mi_al_e) (fun h1 W _ hst => let ⟨_, k1, k2⟩ := kon h1 W; mf_call (M := (11, 0, sb_120)) (M' := (7, 0, sb_131)) rfl rfl rfl rfl (Nat.le_of_ble_eq_true rfl) (Nat.le_of_ble_eq_true rfl) W.1 k1 k2)
set_option maxRecDepth 20000 in
theorem mt_krwI {h : sm_H} {d : Nat} {Q : Option mi_V → sm_H → Prop} {zf zd zi zw zo zp zn zl zs : Int} {qa : Option mi_V} (hS : ab_Sh sx_sk h) (ok_zf : mi_in zf) (ok_zd : mi_in zd) (ok_zi : mi_in zi) (ok_zw : mi_in zw) (ok_zo : mi_in zo) (ok_zp : mi_in zp) (ok_zn : mi_in zn) (ok_zl : mi_in zl) (ok_zs : mi_in zs) (ok_qa : ∀ v, qa = some v → mi_ok v) (k0 : (∀ h1, ab_Sh sx_sk h1 → mi_f h1 13831 = zs → ab_Fr [(13831, 13832)] h h1 → ∃ Q1, me_E (d + 10) 131 0 (mi_entry 7 [.inr (.inr 108), .inl (zl), .inl (zd)]) [] h1 Q1 ∧ ∀ w h2, (∀ x, w = some x → mi_ok x) → Q1 w h2 → me_E (d + 11) 120 188 [some (.inr (.inr 108)), some (.inl (zf)), some (.inl (zd)), some (.inl (zi)), some (.inl (zw)), some (.inl (zo)), some (.inl (zp)), some (.inl (zn)), some (.inl (zl)), some (.inl (zs)), some (.inl (mi_f h 13831))] (mi_back w []) h2 Q)) : me_E (d + 11) 120 173 [some (.inr (.inr 108)), some (.inl (zf)), some (.inl (zd)), some (.inl (zi)), some (.inl (zw)), some (.inl (zo)), some (.inl (zp)), some (.inl (zn)), some (.inl (zl)), some (.inl (zs)), qa] [] h Q := ms_krwI_0 hS ok_zf ok_zd ok_zi ok_zw ok_zo ok_zp ok_zn ok_zl ok_zs ok_qa (fun h1 W => (k0) h1 W.1 (W.2.1 13831) (W.2.2.2.2.2 _ rfl))
set_option maxRecDepth 20000 in
theorem mp_krwJ_0 (h : sm_H) (d : Nat) (zf zd zi zw zo zp zn zl zs zm : Int) : mj_path [(120, (11, 0, sb_120)), (151, (3, 0, sb_151))] sx_sk h 9 [] (d + 11, 120, 188, [some (.inr (.inr 108)), some (.inl (zf)), some (.inl (zd)), some (.inl (zi)), some (.inl (zw)), some (.inl (zo)), some (.inl (zp)), some (.inl (zn)), some (.inl (zl)), some (.inl (zs)), some (.inl (zm))], [], [], []) = some ((d + 11, 120, 206, [some (.inr (.inr 108)), some (.inl (zf)), some (.inl (zd)), some (.inl (zi)), some (.inl (zw)), some (.inl (zo)), some (.inl (zp)), some (.inl (zn)), some (.inl (zl)), some (.inl (zs)), some (.inl (zm))], [], [.inl (13831, zm)], []), []) := rfl
theorem mi_tab_krwJ_0 : ∀ e ∈ ([(120, (11, 0, sb_120)), (151, (3, 0, sb_151))] : mi_T), sc_P e.1 = some e.2 := mi_tb mi_P120 (mi_tb mi_P151 (mi_tb_e))
set_option maxRecDepth 20000 in
theorem ms_krwJ_0 {h : sm_H} {d : Nat} {Q : Option mi_V → sm_H → Prop} {zf zd zi zw zo zp zn zl zs zm : Int} (hS : ab_Sh sx_sk h) (ok_zf : mi_in zf) (ok_zd : mi_in zd) (ok_zi : mi_in zi) (ok_zw : mi_in zw) (ok_zo : mi_in zo) (ok_zp : mi_in zp) (ok_zn : mi_in zn) (ok_zl : mi_in zl) (ok_zs : mi_in zs) (ok_zm : mi_in zm) (kon : ∀ h1, me_W [.inl (13831, zm)] h h1 → me_E (d + 11) 120 206 [some (.inr (.inr 108)), some (.inl (zf)), some (.inl (zd)), some (.inl (zi)), some (.inl (zw)), some (.inl (zo)), some (.inl (zp)), some (.inl (zn)), some (.inl (zl)), some (.inl (zs)), some (.inl (zm))] [] h1 Q) : me_E (d + 11) 120 188 [some (.inr (.inr 108)), some (.inl (zf)), some (.inl (zd)), some (.inl (zi)), some (.inl (zw)), some (.inl (zo)), some (.inl (zp)), some (.inl (zn)), some (.inl (zl)), some (.inl (zs)), some (.inl (zm))] [] h Q := mf_seg (mp_krwJ_0 h d zf zd zi zw zo zp zn zl zs zm) (mi_tab_krwJ_0) hS (mi_okL_c (trivial) (mi_okL_c (ok_zf) (mi_okL_c (ok_zd) (mi_okL_c (ok_zi) (mi_okL_c (ok_zw) (mi_okL_c (ok_zo) (mi_okL_c (ok_zp) (mi_okL_c (ok_zn) (mi_okL_c (ok_zl) (mi_okL_c (ok_zs) (mi_okL_c (ok_zm) (mi_okL_e)))))))))))) (mi_okS_e) (mi_al_e) (fun h1 W _ hst => kon h1 W)
set_option maxRecDepth 20000 in
theorem mt_krwJ {h : sm_H} {d : Nat} {Q : Option mi_V → sm_H → Prop} {zf zd zi zw zo zp zn zl zs zm : Int} (hS : ab_Sh sx_sk h) (ok_zf : mi_in zf) (ok_zd : mi_in zd) (ok_zi : mi_in zi) (ok_zw : mi_in zw) (ok_zo : mi_in zo) (ok_zp : mi_in zp) (ok_zn : mi_in zn) (ok_zl : mi_in zl) (ok_zs : mi_in zs) (ok_zm : mi_in zm) (k0 : (∀ h1, ab_Sh sx_sk h1 → mi_f h1 13831 = zm → ab_Fr [(13831, 13832)] h h1 → me_E (d + 11) 120 206 [some (.inr (.inr 108)), some (.inl (zf)), some (.inl (zd)), some (.inl (zi)), some (.inl (zw)), some (.inl (zo)), some (.inl (zp)), some (.inl (zn)), some (.inl (zl)), some (.inl (zs)), some (.inl (zm))] [] h1 Q)) : me_E (d + 11) 120 188 [some (.inr (.inr 108)), some (.inl (zf)), some (.inl (zd)), some (.inl (zi)), some (.inl (zw)), some (.inl (zo)), some (.inl (zp)), some (.inl (zn)), some (.inl (zl)), some (.inl (zs)), some (.inl (zm))] [] h Q := ms_krwJ_0 hS ok_zf ok_zd ok_zi ok_zw ok_zo ok_zp ok_zn ok_zl ok_zs ok_zm (fun h1 W => (k0) h1 W.1 (W.2.1 13831) (W.2.2.2.2.2 _ rfl))
set_option maxRecDepth 20000 in
theorem mp_krwL_0 (h : sm_H) (d : Nat) (zf zd zi zw zo zp zn : Int) (q8 q9 qa : Option mi_V) : mj_path [(120, (11, 0, sb_120)), (146, (2, 0, sb_146))] sx_sk h 3 [1] (d + 11, 120, 226, [some (.inr (.inr 108)), some (.inl (zf)), some (.inl (zd)), some (.inl (zi)), some (.inl (zw)), some (.inl (zo)), some (.inl (zp)), some (.inl (zn)), q8, q9, qa], [], [], []) = some ((d + 11, 120, 238, [some (.inr (.inr 108)), some (.inl (zf)), some (.inl (zd)), some (.inl (zi)), some (.inl (zw)), some (.inl (zo)), some (.inl (zp)), some (.inl (zn)), q8, q9, qa], [], [], []), [zo = ((-1 : Int))]) := rfl
theorem mi_tab_krwL_0 : ∀ e ∈ ([(120, (11, 0, sb_120)), (146, (2, 0, sb_146))] : mi_T), sc_P e.1 = some e.2 := mi_tb mi_P120 (mi_tb mi_P146 (mi_tb_e))
set_option maxRecDepth 20000 in
theorem ms_krwL_0 {h : sm_H} {d : Nat} {Q : Option mi_V → sm_H → Prop} {zf zd zi zw zo zp zn : Int} {q8 q9 qa : Option mi_V} (hS : ab_Sh sx_sk h) (ok_zf : mi_in zf) (ok_zd : mi_in zd) (ok_zi : mi_in zi) (ok_zw : mi_in zw) (ok_zo : mi_in zo) (ok_zp : mi_in zp) (ok_zn : mi_in zn) (ok_q8 : ∀ v, q8 = some v → mi_ok v) (ok_q9 : ∀ v, q9 = some v → mi_ok v) (ok_qa : ∀ v, qa = some v → mi_ok v) (ho : (zo = ((-1 : Int)))) (kon : ∀ h1, me_W [] h h1 → Q none h1) : me_E (d + 11) 120 226 [some (.inr (.inr 108)), some (.inl (zf)), some (.inl (zd)), some (.inl (zi)), some (.inl (zw)), some (.inl (zo)), some (.inl (zp)), some (.inl (zn)), q8, q9, qa] [] h Q := mf_seg (mp_krwL_0 h d zf zd zi zw zo zp zn q8 q9 qa) (mi_tab_krwL_0) hS (mi_okL_c (trivial) (mi_okL_c (ok_zf) (mi_okL_c (ok_zd) (mi_okL_c (ok_zi) (mi_okL_c (ok_zw) (mi_okL_c (ok_zo) (mi_okL_c (ok_zp) (mi_okL_c (ok_zn) (mi_okL_o ok_q8 (mi_okL_o ok_q9 (mi_okL_o ok_qa (mi_okL_e)))))))))))) (mi_okS_e) (mi_al (ho) (mi_al_e)) (fun h1 W _ hst => mf_ret (M := (11, 0, sb_120)) rfl rfl rfl hst (mi_al_e) (kon h1 W))
set_option maxRecDepth 20000 in
theorem mp_krwL_1 (h : sm_H) (d : Nat) (zf zd zi zw zo zp zn : Int) (q8 q9 qa : Option mi_V) : mj_path [(120, (11, 0, sb_120)), (146, (2, 0, sb_146))] sx_sk h 7 [0] (d + 11, 120, 226, [some (.inr (.inr 108)), some (.inl (zf)), some (.inl (zd)), some (.inl (zi)), some (.inl (zw)), some (.inl (zo)), some (.inl (zp)), some (.inl (zn)), q8, q9, qa], [], [], []) = some ((d + 11, 120, 238, [some (.inr (.inr 108)), some (.inl (zf)), some (.inl (zd)), some (.inl (zi)), some (.inl (zw)), some (.inl (zo)), some (.inl (zp)), some (.inl (zn)), q8, q9, qa], [], [], []), [zo ≠ ((-1 : Int))]) := rfl
theorem mi_tab_krwL_1 : ∀ e ∈ ([(120, (11, 0, sb_120)), (146, (2, 0, sb_146))] : mi_T), sc_P e.1 = some e.2 := mi_tb mi_P120 (mi_tb mi_P146 (mi_tb_e))
set_option maxRecDepth 20000 in
theorem ms_krwL_1 {h : sm_H} {d : Nat} {Q : Option mi_V → sm_H → Prop} {zf zd zi zw zo zp zn : Int} {q8 q9 qa : Option mi_V} (hS : ab_Sh sx_sk h) (ok_zf : mi_in zf) (ok_zd : mi_in zd) (ok_zi : mi_in zi) (ok_zw : mi_in zw) (ok_zo : mi_in zo) (ok_zp : mi_in zp) (ok_zn : mi_in zn) (ok_q8 : ∀ v, q8 = some v → mi_ok v) (ok_q9 : ∀ v, q9 = some v → mi_ok v) (ok_qa : ∀ v, qa = some v → mi_ok v) (ho : (zo ≠ ((-1 : Int)))) (kon : ∀ h1, me_W [] h h1 → Q none h1) : me_E (d + 11) 120 226 [some (.inr (.inr 108)), some (.inl (zf)), some (.inl (zd)), some (.inl (zi)), some (.inl (zw)), some (.inl (zo)), some (.inl (zp)), some (.inl (zn)), q8, q9, qa] [] h Q := mf_seg (mp_krwL_1 h d zf zd zi zw zo zp zn q8 q9 qa) (mi_tab_krwL_1) hS (mi_okL_c (trivial) (mi_okL_c (ok_zf) (mi_okL_c (ok_zd) (mi_okL_c (ok_zi) (mi_okL_c (ok_zw) (mi_okL_c (ok_zo) (mi_okL_c (ok_zp) (mi_okL_c (ok_zn) (mi_okL_o ok_q8 (mi_okL_o ok_q9 (mi_okL_o ok_qa (mi_okL_e)))))))))))) (mi_okS_e) (mi_al (ho) (mi_al_e)) (fun h1 W _ hst => mf_ret (M := (11, 0, sb_120)) rfl rfl rfl hst (mi_al_e) (kon h1 W))
set_option maxRecDepth 20000 in
theorem mt_krwL {h : sm_H} {d : Nat} {Q : Option mi_V → sm_H → Prop} {zf zd zi zw zo zp zn : Int} {q8 q9 qa : Option mi_V} (hS : ab_Sh sx_sk h) (ok_zf : mi_in zf) (ok_zd : mi_in zd) (ok_zi : mi_in zi) (ok_zw : mi_in zw) (ok_zo : mi_in zo) (ok_zp : mi_in zp) (ok_zn : mi_in zn) (ok_q8 : ∀ v, q8 = some v → mi_ok v) (ok_q9 : ∀ v, q9 = some v → mi_ok v) (ok_qa : ∀ v, qa = some v → mi_ok v) (k0 : (zo = ((-1 : Int))) → (∀ h1, ab_Sh sx_sk h1 → ab_Fr [] h h1 → Q none h1)) (k1 : (zo ≠ ((-1 : Int))) → (∀ h1, ab_Sh sx_sk h1 → ab_Fr [] h h1 → Q none h1)) : me_E (d + 11) 120 226 [some (.inr (.inr 108)), some (.inl (zf)), some (.inl (zd)), some (.inl (zi)), some (.inl (zw)), some (.inl (zo)), some (.inl (zp)), some (.inl (zn)), q8, q9, qa] [] h Q := Or.elim (mi_em .eq (zo) (((-1 : Int)))) (fun c0 => ms_krwL_0 hS ok_zf ok_zd ok_zi ok_zw ok_zo ok_zp ok_zn ok_q8 ok_q9 ok_qa (c0) (fun h1 W => (k0 c0) h1 W.1 (W.2.2.2.2.2 _ rfl))) (fun c0 => ms_krwL_1 hS ok_zf ok_zd ok_zi ok_zw ok_zo ok_zp ok_zn ok_q8 ok_q9 ok_qa (c0) (fun h1 W => (k1 c0) h1 W.1 (W.2.2.2.2.2 _ rfl)))
/-! segments of the class: walkUnit, walkPart, walk, in printing -/
set_option maxRecDepth 20000 in
theorem mp_kryA_0 (h : sm_H) (d : Nat) (zp zd : Int) : mj_path [(131, (7, 0, sb_131)), (16, (3, 0, sb_16)), (49, (2, 1, sb_49)), (72, (2, 2, sb_72)), (143, (2, 1, sb_143))] sx_sk h 18 [1, 1, 0] (d + 10, 131, 0, [some (.inr (.inr 108)), some (.inl (zp)), some (.inl (zd)), none, none, none, none], [], [], []) = some ((d + 10, 131, 27, [some (.inr (.inr 108)), some (.inl (zp)), some (.inl (zd)), some (.inl ((0 : Int))), none, none, none], [.inl (zd), .inl (zp), .inr (.inr 108)], [], []), [zp < ((0 : Int)), (mi_f h 13827) = ((0 : Int)), ((0 : Int)) = ((0 : Int))]) := rfl
theorem mi_tab_kryA_0 : ∀ e ∈ ([(131, (7, 0, sb_131)), (16, (3, 0, sb_16)), (49, (2, 1, sb_49)), (72, (2, 2, sb_72)), (143, (2, 1, sb_143))] : mi_T), sc_P e.1 = some e.2 := mi_tb mi_P131 (mi_tb mi_P16 (mi_tb mi_P49 (mi_tb mi_P72 (mi_tb mi_P143 (mi_tb_e)))))
set_option maxRecDepth 20000 in
theorem ms_kryA_0 {h : sm_H} {d : Nat} {Q : Option mi_V → sm_H → Prop} {zp zd : Int} (hS : ab_Sh sx_sk h) (ok_zp : mi_in zp) (ok_zd : mi_in zd) (ho : (zp < ((0 : Int))) ∧ ((mi_f h 13827) = ((0 : Int))) ∧ (((0 : Int)) = ((0 : Int)))) (kon : ∀ h1, me_W [] h h1 → ∃ Q1, me_E (d + 9) 132 0 (mi_entry 4 [.inr (.inr 108), .inl (zp), .inl (zd)]) [] h1 Q1 ∧ ∀ w h2, (∀ x, w = some x → mi_ok x) → Q1 w h2 → me_E (d + 10) 131 30 [some (.inr (.inr 108)), some (.inl (zp)), some (.inl (zd)), some (.inl ((0 : Int))), none, none, none] (mi_back w []) h2 Q) : me_E (d + 10) 131 0 [some (.inr (.inr 108)), some (.inl (zp)), some (.inl (zd)), none, none, none, none] [] h Q := mf_seg (mp_kryA_0 h d zp zd) (mi_tab_kryA_0) hS (mi_okL_c (trivial) (mi_okL_c (ok_zp) (mi_okL_c (ok_zd) (mi_okL_n (mi_okL_n (mi_okL_n (mi_okL_n (mi_okL_e)))))))) (mi_okS_e) (mi_al (ho.1) (mi_al (ho.2.1) (mi_al (ho.2.2) (mi_al_e)))) (fun h1 W _ hst => let ⟨_, k1, k2⟩ := kon h1 W; mf_call (M := (7, 0, sb_131)) (M' := (4, 0, sb_132)) rfl rfl rfl rfl (Nat.le_of_ble_eq_true rfl) (Nat.le_of_ble_eq_true rfl) W.1 k1 k2)
set_option maxRecDepth 20000 in
theorem mp_kryA_1 (h : sm_H) (d : Nat) (zp zd : Int) : mj_path [(131, (7, 0, sb_131)), (16, (3, 0, sb_16)), (49, (2, 1, sb_49)), (72, (2, 2, sb_72)), (143, (2, 1, sb_143))] sx_sk h 13 [1, 0] (d + 10, 131, 0, [some (.inr (.inr 108)), some (.inl (zp)), some (.inl (zd)), none, none, none, none], [], [], []) = some ((d + 10, 131, 19, [some (.inr (.inr 108)), some (.inl (zp)), some (.inl (zd)), some (.inl ((0 : Int))), none, none, none], [], [], []), [zp < ((0 : Int)), (mi_f h 13827) ≠ ((0 : Int))]) := rfl
theorem mi_tab_kryA_1 : ∀ e ∈ ([(131, (7, 0, sb_131)), (16, (3, 0, sb_16)), (49, (2, 1, sb_49)), (72, (2, 2, sb_72)), (143, (2, 1, sb_143))] : mi_T), sc_P e.1 = some e.2 := mi_tb mi_P131 (mi_tb mi_P16 (mi_tb mi_P49 (mi_tb mi_P72 (mi_tb mi_P143 (mi_tb_e)))))
set_option maxRecDepth 20000 in
theorem ms_kryA_1 {h : sm_H} {d : Nat} {Q : Option mi_V → sm_H → Prop} {zp zd : Int} (hS : ab_Sh sx_sk h) (ok_zp : mi_in zp) (ok_zd : mi_in zd) (ho : (zp < ((0 : Int))) ∧ ((mi_f h 13827) ≠ ((0 : Int)))) (kon : ∀ h1, me_W [] h h1 → Q none h1) : me_E (d + 10) 131 0 [some (.inr (.inr 108)), some (.inl (zp)), some (.inl (zd)), none, none, none, none] [] h Q := mf_seg (mp_kryA_1 h d zp zd) (mi_tab_kryA_1) hS (mi_okL_c (trivial) (mi_okL_c (ok_zp) (mi_okL_c (ok_zd) (mi_okL_n (mi_okL_n (mi_okL_n (mi_okL_n (mi_okL_e)))))))) (mi_okS_e) (mi_al (ho.1) (mi_al (ho.2) (mi_al_e))) (fun h1 W _ hst => mf_ret (M := (7, 0, sb_131)) rfl rfl rfl hst (mi_al_e) (kon h1 W))
set_option maxRecDepth 20000 in
theorem mp_kryA_2 (h : sm_H) (d : Nat) (zp zd : Int) : mj_path [(131, (7, 0, sb_131)), (16, (3, 0, sb_16)), (49, (2, 1, sb_49)), (72, (2, 2, sb_72)), (143, (2, 1, sb_143))] sx_sk h 22 [0, 1, 1, 0] (d + 10, 131, 0, [some (.inr (.inr 108)), some (.inl (zp)), some (.inl (zd)), none, none, none, none], [], [], []) = some ((d + 10, 131, 27, [some (.inr (.inr 108)), some (.inl (zp)), some (.inl (zd)), some (.inl ((0 : Int))), none, none, none], [.inl (zd), .inl (zp), .inr (.inr 108)], [], []), [((0 : Int)) ≤ zp, ((60 : Int)) ≤ zp, (mi_f h 13827) = ((0 : Int)), ((0 : Int)) = ((0 : Int))]) := rfl
theorem mi_tab_kryA_2 : ∀ e ∈ ([(131, (7, 0, sb_131)), (16, (3, 0, sb_16)), (49, (2, 1, sb_49)), (72, (2, 2, sb_72)), (143, (2, 1, sb_143))] : mi_T), sc_P e.1 = some e.2 := mi_tb mi_P131 (mi_tb mi_P16 (mi_tb mi_P49 (mi_tb mi_P72 (mi_tb mi_P143 (mi_tb_e)))))
set_option maxRecDepth 20000 in
theorem ms_kryA_2 {h : sm_H} {d : Nat} {Q : Option mi_V → sm_H → Prop} {zp zd : Int} (hS : ab_Sh sx_sk h) (ok_zp : mi_in zp) (ok_zd : mi_in zd) (ho : (((0 : Int)) ≤ zp) ∧ (((60 : Int)) ≤ zp) ∧ ((mi_f h 13827) = ((0 : Int))) ∧ (((0 : Int)) = ((0 : Int)))) (kon : ∀ h1, me_W [] h h1 → ∃ Q1, me_E (d + 9) 132 0 (mi_entry 4 [.inr (.inr 108), .inl (zp), .inl (zd)]) [] h1 Q1 ∧ ∀ w h2, (∀ x, w = some x → mi_ok x) → Q1 w h2 → me_E (d + 10) 131 30 [some (.inr (.inr 108)), some (.inl (zp)), some (.inl (zd)), some (.inl ((0 : Int))), none, none, none] (mi_back w []) h2 Q) : me_E (d + 10) 131 0 [some (.inr (.inr 108)), some (.inl (zp)), some (.inl (zd)), none, none, none, none] [] h Q := mf_seg (mp_kryA_2 h d zp zd) (mi_tab_kryA_2) hS (mi_okL_c (trivial) (mi_okL_c (ok_zp) (mi_okL_c (ok_zd) (mi_okL_n (mi_okL_n (mi_okL_n (mi_okL_n (mi_okL_e)))))))) (mi_okS_e) (mi_al (ho.1) (mi_al (ho.2.1) (mi_al (ho.2.2.1) (mi_al (ho.2.2.2) (mi_al_e))))) (fun h1 W _ hst => let ⟨_, k1, k2⟩ := kon h1 W; mf_call (M := (7, 0, sb_131)) (M' := (4, 0, sb_132)) rfl rfl rfl rfl (Nat.le_of_ble_eq_true rfl) (Nat.le_of_ble_eq_true rfl) W.1 k1 k2)
set_option maxRecDepth 20000 in
theorem mp_kryA_3 (h : sm_H) (d : Nat) (zp zd : Int) : mj_path [(131, (7, 0, sb_131)), (16, (3, 0, sb_16)), (49, (2, 1, sb_49)), (72, (2, 2, sb_72)), (143, (2, 1, sb_143))] sx_sk h 17 [0, 1, 0] (d + 10, 131, 0, [some (.inr (.inr 108)), some (.inl (zp)), some (.inl (zd)), none, none, none, none], [], [], []) = some ((d + 10, 131, 19, [some (.inr (.inr 108)), some (.inl (zp)), some (.inl (zd)), some (.inl ((0 : Int))), none, none, none], [], [], []), [((0 : Int)) ≤ zp, ((60 : Int)) ≤ zp, (mi_f h 13827) ≠ ((0 : Int))]) := rfl
theorem mi_tab_kryA_3 : ∀ e ∈ ([(131, (7, 0, sb_131)), (16, (3, 0, sb_16)), (49, (2, 1, sb_49)), (72, (2, 2, sb_72)), (143, (2, 1, sb_143))] : mi_T), sc_P e.1 = some e.2 := mi_tb mi_P131 (mi_tb mi_P16 (mi_tb mi_P49 (mi_tb mi_P72 (mi_tb mi_P143 (mi_tb_e)))))
set_option maxRecDepth 20000 in
theorem ms_kryA_3 {h : sm_H} {d : Nat} {Q : Option mi_V → sm_H → Prop} {zp zd : Int} (hS : ab_Sh sx_sk h) (ok_zp : mi_in zp) (ok_zd : mi_in zd) (ho : (((0 : Int)) ≤ zp) ∧ (((60 : Int)) ≤ zp) ∧ ((mi_f h 13827) ≠ ((0 : Int)))) (kon : ∀ h1, me_W [] h h1 → Q none h1) : me_E (d + 10) 131 0 [some (.inr (.inr 108)), some (.inl (zp)), some (.inl (zd)), none, none, none, none] [] h Q := mf_seg (mp_kryA_3 h d zp zd) (mi_tab_kryA_3) hS (mi_okL_c (trivial) (mi_okL_c (ok_zp) (mi_okL_c (ok_zd) (mi_okL_n (mi_okL_n (mi_okL_n (mi_okL_n (mi_okL_e)))))))) (mi_okS_e) (mi_al (ho.1) (mi_al (ho.2.1) (mi_al (ho.2.2) (mi_al_e)))) (fun h1 W _ hst => mf_ret (M := (7, 0, sb_131)) rfl rfl rfl hst (mi_al_e) (kon h1 W))
set_option maxRecDepth 20000 in
theorem mp_kryA_4 (h : sm_H) (d : Nat) (zp zd : Int) : mj_path [(131, (7, 0, sb_131)), (16, (3, 0, sb_16)), (49, (2, 1, sb_49)), (72, (2, 2, sb_72)), (143, (2, 1, sb_143))] sx_sk h 29 [0, 0, 1, 1] (d + 10, 131, 0, [some (.inr (.inr 108)), some (.inl (zp)), some (.inl (zd)), none, none, none, none], [], [], []) = some ((d + 10, 131, 38, [some (.inr (.inr 108)), some (.inl (zp)), some (.inl (zd)), some (.inl (mi_a h 72 (Int.toNat zp))), none, none, none], [.inl ((0 : Int)), .inl (mi_a h 72 (Int.toNat zp)), .inr (.inr 108)], [], []), [((0 : Int)) ≤ zp, zp < ((60 : Int)), 0 ≤ zp ∧ zp < 60, (mi_f h 13827) = ((0 : Int)), (mi_a h 72 (Int.toNat zp)) ≠ ((0 : Int))]) := rfl
theorem mi_tab_kryA_4 : ∀ e ∈ ([(131, (7, 0, sb_131)), (16, (3, 0, sb_16)), (49, (2, 1, sb_49)), (72, (2, 2, sb_72)), (143, (2, 1, sb_143))] : mi_T), sc_P e.1 = some e.2 := mi_tb mi_P131 (mi_tb mi_P16 (mi_tb mi_P49 (mi_tb mi_P72 (mi_tb mi_P143 (mi_tb_e)))))
set_option maxRecDepth 20000 in
theorem ms_kryA_4 {h : sm_H} {d : Nat} {Q : Option mi_V → sm_H → Prop} {zp zd : Int} (hS : ab_Sh sx_sk h) (ok_zp : mi_in zp) (ok_zd : mi_in zd) (ho : (((0 : Int)) ≤ zp) ∧ (zp < ((60 : Int))) ∧ (0 ≤ zp ∧ zp < 60) ∧ ((mi_f h 13827) = ((0 : Int))) ∧ ((mi_a h 72 (Int.toNat zp)) ≠ ((0 : Int)))) (kon : ∀ h1, me_W [] h h1 → ∃ Q1, me_E (d + 9) 115 0 (mi_entry 3 [.inr (.inr 108), .inl (mi_a h 72 (Int.toNat zp)), .inl ((0 : Int))]) [] h1 Q1 ∧ ∀ w h2, (∀ x, w = some x → mi_ok x) → Q1 w h2 → me_E (d + 10) 131 41 [some (.inr (.inr 108)), some (.inl (zp)), some (.inl (zd)), some (.inl (mi_a h 72 (Int.toNat zp))), none, none, none] (mi_back w []) h2 Q) : me_E (d + 10) 131 0 [some (.inr (.inr 108)), some (.inl (zp)), some (.inl (zd)), none, none, none, none] [] h Q := mf_seg (mp_kryA_4 h d zp zd) (mi_tab_kryA_4) hS (mi_okL_c (trivial) (mi_okL_c (ok_zp) (mi_okL_c (ok_zd) (mi_okL_n (mi_okL_n (mi_okL_n (mi_okL_n (mi_okL_e)))))))) (mi_okS_e) (mi_al (ho.1) (mi_al (ho.2.1) (mi_al (ho.2.2.1) (mi_al (ho.2.2.2.1) (mi_al (ho.2.2.2.2) (mi_al_e)))))) (fun h1 W _ hst => let ⟨_, k1, k2⟩ := kon h1 W; mf_call (M := (7, 0, sb_131)) (M' := (3, 1, sb_115)) rfl rfl rfl rfl (Nat.le_of_ble_eq_true rfl) (Nat.le_of_ble_eq_true rfl) W.1 k1 k2)
set_option maxRecDepth 20000 in
theorem mp_kryA_5 (h : sm_H) (d : Nat) (zp zd : Int) : mj_path [(131, (7, 0, sb_131)), (16, (3, 0, sb_16)), (49, (2, 1, sb_49)), (72, (2, 2, sb_72)), (143, (2, 1, sb_143))] sx_sk h 25 [0, 0, 1, 0] (d + 10, 131, 0, [some (.inr (.inr 108)), some (.inl (zp)), some (.inl (zd)), none, none, none, none], [], [], []) = some ((d + 10, 131, 27, [some (.inr (.inr 108)), some (.inl (zp)), some (.inl (zd)), some (.inl (mi_a h 72 (Int.toNat zp))), none, none, none], [.inl (zd), .inl (zp), .inr (.inr 108)], [], []), [((0 : Int)) ≤ zp, zp < ((60 : Int)), 0 ≤ zp ∧ zp < 60, (mi_f h 13827) = ((0 : Int)), (mi_a h 72 (Int.toNat zp)) = ((0 : Int))]) := rfl
theorem mi_tab_kryA_5 : ∀ e ∈ ([(131, (7, 0, sb_131)), (16, (3, 0, sb_16)), (49, (2, 1, sb_49)), (72, (2, 2, sb_72)), (143, (2, 1, sb_143))] : mi_T), sc_P e.1 = some e.2 := mi_tb mi_P131 (mi_tb mi_P16 (mi_tb mi_P49 (mi_tb mi_P72 (mi_tb mi_P143 (mi_tb_e)))))
set_option maxRecDepth 20000 in
theorem ms_kryA_5 {h : sm_H} {d : Nat} {Q : Option mi_V → sm_H → Prop} {zp zd : Int} (hS : ab_Sh sx_sk h) (ok_zp : mi_in zp) (ok_zd : mi_in zd) (ho : (((0 : Int)) ≤ zp) ∧ (zp < ((60 : Int))) ∧ (0 ≤ zp ∧ zp < 60) ∧ ((mi_f h 13827) = ((0 : Int))) ∧ ((mi_a h 72 (Int.toNat zp)) = ((0 : Int)))) (kon : ∀ h1, me_W [] h h1 → ∃ Q1, me_E (d + 9) 132 0 (mi_entry 4 [.inr (.inr 108), .inl (zp), .inl (zd)]) [] h1 Q1 ∧ ∀ w h2, (∀ x, w = some x → mi_ok x) → Q1 w h2 → me_E (d + 10) 131 30 [some (.inr (.inr 108)), some (.inl (zp)), some (.inl (zd)), some (.inl (mi_a h 72 (Int.toNat zp))), none, none, none] (mi_back w []) h2 Q) : me_E (d + 10) 131 0 [some (.inr (.inr 108)), some (.inl (zp)), some (.inl (zd)), none, none, none, none] [] h Q := mf_seg (mp_kryA_5 h d zp zd) (mi_tab_kryA_5) hS (mi_okL_c (trivial) (mi_okL_c (ok_zp) (mi_okL_c (ok_zd) (mi_okL_n (mi_okL_n (mi_okL_n (mi_okL_n (mi_okL_e)))))))) (mi_okS_e) (mi_al (ho.1) (mi_al (ho.2.1) (mi_al (ho.2.2.1) (mi_al (ho.2.2.2.1) (mi_al (ho.2.2.2.2) (mi_al_e)))))) (fun h1 W _ hst => let ⟨_, k1, k2⟩ := kon h1 W; mf_call (M := (7, 0, sb_131)) (M' := (4, 0, sb_132)) rfl rfl rfl rfl (Nat.le_of_ble_eq_true rfl) (Nat.le_of_ble_eq_true rfl) W.1 k1 k2)
set_option maxRecDepth 20000 in
theorem mp_kryA_6 (h : sm_H) (d : Nat) (zp zd : Int) : mj_path [(131, (7, 0, sb_131)), (16, (3, 0, sb_16)), (49, (2, 1, sb_49)), (72, (2, 2, sb_72)), (143, (2, 1, sb_143))] sx_sk h 20 [0, 0, 0] (d + 10, 131, 0, [some (.inr (.inr 108)), some (.inl (zp)), some (.inl (zd)), none, none, none, none], [], [], []) = some ((d + 10, 131, 19, [some (.inr (.inr 108)), some (.inl (zp)), some (.inl (zd)), some (.inl (mi_a h 72 (Int.toNat zp))), none, none, none], [], [], []), [((0 : Int)) ≤ zp, zp < ((60 : Int)), 0 ≤ zp ∧ zp < 60, (mi_f h 13827) ≠ ((0 : Int))]) := rfl
theorem mi_tab_kryA_6 : ∀ e ∈ ([(131, (7, 0, sb_131)), (16, (3, 0, sb_16)), (49, (2, 1, sb_49)), (72, (2, 2, sb_72)), (143, (2, 1, sb_143))] : mi_T), sc_P e.1 = some e.2 := mi_tb mi_P131 (mi_tb mi_P16 (mi_tb mi_P49 (mi_tb mi_P72 (mi_tb mi_P143 (mi_tb_e)))))
set_option maxRecDepth 20000 in
theorem ms_kryA_6 {h : sm_H} {d : Nat} {Q : Option mi_V → sm_H → Prop} {zp zd : Int} (hS : ab_Sh sx_sk h) (ok_zp : mi_in zp) (ok_zd : mi_in zd) (ho : (((0 : Int)) ≤ zp) ∧ (zp < ((60 : Int))) ∧ (0 ≤ zp ∧ zp < 60) ∧ ((mi_f h 13827) ≠ ((0 : Int)))) (kon : ∀ h1, me_W [] h h1 → Q none h1) : me_E (d + 10) 131 0 [some (.inr (.inr 108)), some (.inl (zp)), some (.inl (zd)), none, none, none, none] [] h Q := mf_seg (mp_kryA_6 h d zp zd) (mi_tab_kryA_6) hS (mi_okL_c (trivial) (mi_okL_c (ok_zp) (mi_okL_c (ok_zd) (mi_okL_n (mi_okL_n (mi_okL_n (mi_okL_n (mi_okL_e)))))))) (mi_okS_e) (mi_al (ho.1) (mi_al (ho.2.1) (mi_al (ho.2.2.1) (mi_al (ho.2.2.2) (mi_al_e))))) (fun h1 W _ hst => mf_ret (M := (7, 0, sb_131)) rfl rfl rfl hst (mi_al_e) (kon h1 W))
set_option maxRecDepth 20000 in
theorem mt_kryA {h : sm_H} {d : Nat} {Q : Option mi_V → sm_H → Prop} {zp zd : Int} (hS : ab_Sh sx_sk h) (ok_zp : mi_in zp) (ok_zd : mi_in zd) (k0 : (0 ≤ mi_f h 13827 ∧ mi_f h 13827 ≤ 1) → (zp < ((0 : Int))) → ((mi_f h 13827) = ((0 : Int))) → (∀ h1, ab_Sh sx_sk h1 → ab_Fr [] h h1 → ∃ Q1, me_E (d + 9) 132 0 (mi_entry 4 [.inr (.inr 108), .inl (zp), .inl (zd)]) [] h1 Q1 ∧ ∀ w h2, (∀ x, w = some x → mi_ok x) → Q1 w h2 → me_E (d + 10) 131 30 [some (.inr (.inr 108)), some (.inl (zp)), some (.inl (zd)), some (.inl ((0 : Int))), none, none, none] (mi_back w []) h2 Q)) (k1 : (0 ≤ mi_f h 13827 ∧ mi_f h 13827 ≤ 1) → (zp < ((0 : Int))) → ((mi_f h 13827) ≠ ((0 : Int))) → (∀ h1, ab_Sh sx_sk h1 → ab_Fr [] h h1 → Q none h1)) (k2 : (0 ≤ mi_f h 13827 ∧ mi_f h 13827 ≤ 1) → (((0 : Int)) ≤ zp) → (((60 : Int)) ≤ zp) → ((mi_f h 13827) = ((0 : Int))) → (∀ h1, ab_Sh sx_sk h1 → ab_Fr [] h h1 → ∃ Q1, me_E (d + 9) 132 0 (mi_entry 4 [.inr (.inr 108), .inl (zp), .inl (zd)]) [] h1 Q1 ∧ ∀ w h2, (∀ x, w = some x → mi_ok x) → Q1 w h2 → me_E (d + 10) 131 30 [some (.inr (.inr 108)), some (.inl (zp)), some (.inl (zd)), some (.inl ((0 : Int))), none, none, none] (mi_back w []) h2 Q)) (k3 : (0 ≤ mi_f h 13827 ∧ mi_f h 13827 ≤ 1) → (((0 : Int)) ≤ zp) → (((60 : Int)) ≤ zp) → ((mi_f h 13827) ≠ ((0 : Int))) → (∀ h1, ab_Sh sx_sk h1 → ab_Fr [] h h1 → Q none h1)) (k4 : (0 ≤ mi_f h 13827 ∧ mi_f h 13827 ≤ 1) → (((0 : Int)) ≤ zp) → (zp < ((60 : Int))) → ((mi_f h 13827) = ((0 : Int))) → ((mi_a h 72 (Int.toNat zp)) ≠ ((0 : Int))) → ((0 ≤ zp ∧ zp < 60)) ∧ (∀ h1, ab_Sh sx_sk h1 → ab_Fr [] h h1 → ∃ Q1, me_E (d + 9) 115 0 (mi_entry 3 [.inr (.inr 108), .inl (mi_a h 72 (Int.toNat zp)), .inl ((0 : Int))]) [] h1 Q1 ∧ ∀ w h2, (∀ x, w = some x → mi_ok x) → Q1 w h2 → me_E (d + 10) 131 41 [some (.inr (.inr 108)), some (.inl (zp)), some (.inl (zd)), some (.inl (mi_a h 72 (Int.toNat zp))), none, none, none] (mi_back w []) h2 Q)) (k5 : (0 ≤ mi_f h 13827 ∧ mi_f h 13827 ≤ 1) → (((0 : Int)) ≤ zp) → (zp < ((60 : Int))) → ((mi_f h 13827) = ((0 : Int))) → ((mi_a h 72 (Int.toNat zp)) = ((0 : Int))) → ((0 ≤ zp ∧ zp < 60)) ∧ (∀ h1, ab_Sh sx_sk h1 → ab_Fr [] h h1 → ∃ Q1, me_E (d + 9) 132 0 (mi_entry 4 [.inr (.inr 108), .inl (zp), .inl (zd)]) [] h1 Q1 ∧ ∀ w h2, (∀ x, w = some x → mi_ok x) → Q1 w h2 → me_E (d + 10) 131 30 [some (.inr (.inr 108)), some (.inl (zp)), some (.inl (zd)), some (.inl (mi_a h 72 (Int.toNat zp))), none, none, none] (mi_back w []) h2 Q)) (k6 : (0 ≤ mi_f h 13827 ∧ mi_f h 13827 ≤ 1) → (((0 : Int)) ≤ zp) → (zp < ((60 : Int))) → ((mi_f h 13827) ≠ ((0 : Int))) → ((0 ≤ zp ∧ zp < 60)) ∧ (∀ h1, ab_Sh sx_sk h1 → ab_Fr [] h h1 → Q none h1)) : me_E (d + 10) 131 0 [some (.inr (.inr 108)), some (.inl (zp)), some (.inl (zd)), none, none, none, none] [] h Q := Or.elim (mi_em .lt (zp) (((0 : Int)))) (fun c0 => Or.elim (mi_em .eq ((mi_f h 13827)) (((0 : Int)))) (fun c1 => ms_kryA_0 hS ok_zp ok_zd ⟨c0, c1, (by decide)⟩ (fun h1 W => (k0 (me_fb hS rfl) c0 c1) h1 W.1 (W.2.2.2.2.2 _ rfl))) (fun c1 => ms_kryA_1 hS ok_zp ok_zd ⟨c0, c1⟩ (fun h1 W => (k1 (me_fb hS rfl) c0 c1) h1 W.1 (W.2.2.2.2.2 _ rfl)))) (fun c0 => Or.elim (mi_em .ge (zp) (((60 : Int)))) (fun c1 => Or.elim (mi_em .eq ((mi_f h 13827)) (((0 : Int)))) (fun c2 => ms_kryA_2 hS ok_zp ok_zd ⟨c0, c1, c2, (by decide)⟩ (fun h1 W => (k2 (me_fb hS rfl) c0 c1 c2) h1 W.1 (W.2.2.2.2.2 _ rfl))) (fun c2 => ms_kryA_3 hS ok_zp ok_zd ⟨c0, c1, c2⟩ (fun h1 W => (k3 (me_fb hS rfl) c0 c1 c2) h1 W.1 (W.2.2.2.2.2 _ rfl)))) (fun c1 => Or.elim (mi_em .eq ((mi_f h 13827)) (((0 : Int)))) (fun c2 => Or.elim (mi_em .ne ((mi_a h 72 (Int.toNat zp))) (((0 : Int)))) (fun c3 => ms_kryA_4 hS ok_zp ok_zd ⟨c0, c1, (k4 (me_fb hS rfl) c0 c1 c2 c3).1, c2, c3⟩ (fun h1 W => (k4 (me_fb hS rfl) c0 c1 c2 c3).2 h1 W.1 (W.2.2.2.2.2 _ rfl))) (fun c3 => ms_kryA_5 hS ok_zp ok_zd ⟨c0, c1, (k5 (me_fb hS rfl) c0 c1 c2 c3).1, c2, c3⟩ (fun h1 W => (k5 (me_fb hS rfl) c0 c1 c2 c3).2 h1 W.1 (W.2.2.2.2.2 _ rfl)))) (fun c2 => ms_kryA_6 hS ok_zp ok_zd ⟨c0, c1, (k6 (me_fb hS rfl) c0 c1 c2).1, c2⟩ (fun h1 W => (k6 (me_fb hS rfl) c0 c1 c2).2 h1 W.1 (W.2.2.2.2.2 _ rfl)))))
set_option maxRecDepth 20000 in
theorem mp_kryB_0 (h : sm_H) (d : Nat) (zp zd zr : Int) : mj_path [(131, (7, 0, sb_131))] sx_sk h 0 [] (d + 10, 131, 30, [some (.inr (.inr 108)), some (.inl (zp)), some (.inl (zd)), some (.inl (zr)), none, none, none], [], [], []) = some ((d + 10, 131, 30, [some (.inr (.inr 108)), some (.inl (zp)), some (.inl (zd)), some (.inl (zr)), none, none, none], [], [], []), []) := rfl
theorem mi_tab_kryB_0 : ∀ e ∈ ([(131, (7, 0, sb_131))] : mi_T), sc_P e.1 = some e.2 := mi_tb mi_P131 (mi_tb_e)
set_option maxRecDepth 20000 in
theorem ms_kryB_0 {h : sm_H} {d : Nat} {Q : Option mi_V → sm_H → Prop} {zp zd zr : Int} (hS : ab_Sh sx_sk h) (ok_zp : mi_in zp) (ok_zd : mi_in zd) (ok_zr : mi_in zr) (kon : ∀ h1, me_W [] h h1 → Q none h1) : me_E (d + 10) 131 30 [some (.inr (.inr 108)), some (.inl (zp)), some (.inl (zd)), some (.inl (zr)), none, none, none] [] h Q := mf_seg (mp_kryB_0 h d zp zd zr) (mi_tab_kryB_0) hS (mi_okL_c (trivial) (mi_okL_c (ok_zp) (mi_okL_c (ok_zd) (mi_okL_c (ok_zr) (mi_okL_n (mi_okL_n (mi_okL_n (mi_okL_e)))))))) (mi_okS_e) (mi_al_e) (fun h1 W _ hst => mf_ret (M := (7, 0, sb_131)) rfl rfl rfl hst (mi_al_e) (kon h1 W))
set_option maxRecDepth 20000 in
theorem mt_kryB {h : sm_H} {d : Nat} {Q : Option mi_V → sm_H → Prop} {zp zd zr : Int} (hS : ab_Sh sx_sk h) (ok_zp : mi_in zp) (ok_zd : mi_in zd) (ok_zr : mi_in zr) (k0 : (∀ h1, ab_Sh sx_sk h1 → ab_Fr [] h h1 → Q none h1)) : me_E (d + 10) 131 30 [some (.inr (.inr 108)), some (.inl (zp)), some (.inl (zd)), some (.inl (zr)), none, none, none] [] h Q := ms_kryB_0 hS ok_zp ok_zd ok_zr (fun h1 W => (k0) h1 W.1 (W.2.2.2.2.2 _ rfl))
set_option maxRecDepth 20000 in
theorem mp_kryD_0 (h : sm_H) (d : Nat) (zp zd zr zz : Int) : mj_path [(131, (7, 0, sb_131))] sx_sk h 8 [1] (d + 10, 131, 41, [some (.inr (.inr 108)), some (.inl (zp)), some (.inl (zd)), some (.inl (zr)), none, none, none], [.inl (zz)], [], []) = some ((d + 10, 131, 60, [some (.inr (.inr 108)), some (.inl (zp)), some (.inl (zd)), some (.inl (zr)), some (.inl (zz)), some (.inl ((1 : Int))), some (.inl ((0 : Int)))], [], [], []), [zr ≠ ((5 : Int))]) := rfl
theorem mi_tab_kryD_0 : ∀ e ∈ ([(131, (7, 0, sb_131))] : mi_T), sc_P e.1 = some e.2 := mi_tb mi_P131 (mi_tb_e)
set_option maxRecDepth 20000 in
theorem ms_kryD_0 {h : sm_H} {d : Nat} {Q : Option mi_V → sm_H → Prop} {zp zd zr zz : Int} (hS : ab_Sh sx_sk h) (ok_zp : mi_in zp) (ok_zd : mi_in zd) (ok_zr : mi_in zr) (ok_zz : mi_in zz) (ho : (zr ≠ ((5 : Int)))) (kon : ∀ h1, me_W [] h h1 → me_E (d + 10) 131 60 [some (.inr (.inr 108)), some (.inl (zp)), some (.inl (zd)), some (.inl (zr)), some (.inl (zz)), some (.inl ((1 : Int))), some (.inl ((0 : Int)))] [] h1 Q) : me_E (d + 10) 131 41 [some (.inr (.inr 108)), some (.inl (zp)), some (.inl (zd)), some (.inl (zr)), none, none, none] [.inl (zz)] h Q := mf_seg (mp_kryD_0 h d zp zd zr zz) (mi_tab_kryD_0) hS (mi_okL_c (trivial) (mi_okL_c (ok_zp) (mi_okL_c (ok_zd) (mi_okL_c (ok_zr) (mi_okL_n (mi_okL_n (mi_okL_n (mi_okL_e)))))))) (mi_okS_cons (ok_zz) (mi_okS_e)) (mi_al (ho) (mi_al_e)) (fun h1 W _ hst => kon h1 W)
set_option maxRecDepth 20000 in
theorem mp_kryD_1 (h : sm_H) (d : Nat) (zp zd zr zz : Int) : mj_path [(131, (7, 0, sb_131))] sx_sk h 9 [0] (d + 10, 131, 41, [some (.inr (.inr 108)), some (.inl (zp)), some (.inl (zd)), some (.inl (zr)), none, none, none], [.inl (zz)], [], []) = some ((d + 10, 131, 60, [some (.inr (.inr 108)), some (.inl (zp)), some (.inl (zd)), some (.inl (zr)), some (.inl (zz)), some (.inl ((161 : Int))), some (.inl ((0 : Int)))], [], [], []), [zr = ((5 : Int))]) := rfl
theorem mi_tab_kryD_1 : ∀ e ∈ ([(131, (7, 0, sb_131))] : mi_T), sc_P e.1 = some e.2 := mi_tb mi_P131 (mi_tb_e)
set_option maxRecDepth 20000 in
theorem ms_kryD_1 {h : sm_H} {d : Nat} {Q : Option mi_V → sm_H → Prop} {zp zd zr zz : Int} (hS : ab_Sh sx_sk h) (ok_zp : mi_in zp) (ok_zd : mi_in zd) (ok_zr : mi_in zr) (ok_zz : mi_in zz) (ho : (zr = ((5 : Int)))) (kon : ∀ h1, me_W [] h h1 → me_E (d + 10) 131 60 [some (.inr (.inr 108)), some (.inl (zp)), some (.inl (zd)), some (.inl (zr)), some (.inl (zz)), some (.inl ((161 : Int))), some (.inl ((0 : Int)))] [] h1 Q) : me_E (d + 10) 131 41 [some (.inr (.inr 108)), some (.inl (zp)), some (.inl (zd)), some (.inl (zr)), none, none, none] [.inl (zz)] h Q := mf_seg (mp_kryD_1 h d zp zd zr zz) (mi_tab_kryD_1) hS (mi_okL_c (trivial) (mi_okL_c (ok_zp) (mi_okL_c (ok_zd) (mi_okL_c (ok_zr) (mi_okL_n (mi_okL_n (mi_okL_n (mi_okL_e)))))))) (mi_okS_cons (ok_zz) (mi_okS_e)) (mi_al (ho) (mi_al_e)) (fun h1 W _ hst => kon h1 W)
set_option maxRecDepth 20000 in
theorem mt_kryD {h : sm_H} {d : Nat} {Q : Option mi_V → sm_H → Prop} {zp zd zr zz : Int} (hS : ab_Sh sx_sk h) (ok_zp : mi_in zp) (ok_zd : mi_in zd) (ok_zr : mi_in zr) (ok_zz : mi_in zz) (k0 : (zr ≠ ((5 : Int))) → (∀ h1, ab_Sh sx_sk h1 → ab_Fr [] h h1 → me_E (d + 10) 131 60 [some (.inr (.inr 108)), some (.inl (zp)), some (.inl (zd)), some (.inl (zr)), some (.inl (zz)), some (.inl ((1 : Int))), some (.inl ((0 : Int)))] [] h1 Q)) (k1 : (zr = ((5 : Int))) → (∀ h1, ab_Sh sx_sk h1 → ab_Fr [] h h1 → me_E (d + 10) 131 60 [some (.inr (.inr 108)), some (.inl (zp)), some (.inl (zd)), some (.inl (zr)), some (.inl (zz)), some (.inl ((161 : Int))), some (.inl ((0 : Int)))] [] h1 Q)) : me_E (d + 10) 131 41 [some (.inr (.inr 108)), some (.inl (zp)), some (.inl (zd)), some (.inl (zr)), none, none, none] [.inl (zz)] h Q := Or.elim (mi_em .ne (zr) (((5 : Int)))) (fun c0 => ms_kryD_0 hS ok_zp ok_zd ok_zr ok_zz (c0) (fun h1 W => (k0 c0) h1 W.1 (W.2.2.2.2.2 _ rfl))) (fun c0 => ms_kryD_1 hS ok_zp ok_zd ok_zr ok_zz (c0) (fun h1 W => (k1 c0) h1 W.1 (W.2.2.2.2.2 _ rfl)))
set_option maxRecDepth 20000 in
theorem mp_kryE_0 (h : sm_H) (d : Nat) (zp zd zr zo zm zt : Int) : mj_path [(131, (7, 0, sb_131)), (16, (3, 0, sb_16)), (49, (2, 1, sb_49)), (72, (2, 2, sb_72)), (145, (4, 4, sb_145))] sx_sk h 3 [1] (d + 10, 131, 60, [some (.inr (.inr 108)), some (.inl (zp)), some (.inl (zd)), some (.inl (zr)), some (.inl (zo)), some (.inl (zm)), some (.inl (zt))], [], [], []) = some ((d + 10, 131, 98, [some (.inr (.inr 108)), some (.inl (zp)), some (.inl (zd)), some (.inl (zr)), some (.inl (zo)), some (.inl (zm)), some (.inl (zt))], [], [], []), [(mi_f h 13827) ≠ ((0 : Int))]) := rfl
theorem mi_tab_kryE_0 : ∀ e ∈ ([(131, (7, 0, sb_131)), (16, (3, 0, sb_16)), (49, (2, 1, sb_49)), (72, (2, 2, sb_72)), (145, (4, 4, sb_145))] : mi_T), sc_P e.1 = some e.2 := mi_tb mi_P131 (mi_tb mi_P16 (mi_tb mi_P49 (mi_tb mi_P72 (mi_tb mi_P145 (mi_tb_e)))))
set_option maxRecDepth 20000 in
theorem ms_kryE_0 {h : sm_H} {d : Nat} {Q : Option mi_V → sm_H → Prop} {zp zd zr zo zm zt : Int} (hS : ab_Sh sx_sk h) (ok_zp : mi_in zp) (ok_zd : mi_in zd) (ok_zr : mi_in zr) (ok_zo : mi_in zo) (ok_zm : mi_in zm) (ok_zt : mi_in zt) (ho : ((mi_f h 13827) ≠ ((0 : Int)))) (kon : ∀ h1, me_W [] h h1 → me_E (d + 10) 131 98 [some (.inr (.inr 108)), some (.inl (zp)), some (.inl (zd)), some (.inl (zr)), some (.inl (zo)), some (.inl (zm)), some (.inl (zt))] [] h1 Q) : me_E (d + 10) 131 60 [some (.inr (.inr 108)), some (.inl (zp)), some (.inl (zd)), some (.inl (zr)), some (.inl (zo)), some (.inl (zm)), some (.inl (zt))] [] h Q := mf_seg (mp_kryE_0 h d zp zd zr zo zm zt) (mi_tab_kryE_0) hS (mi_okL_c (trivial) (mi_okL_c (ok_zp) (mi_okL_c (ok_zd) (mi_okL_c (ok_zr) (mi_okL_c (ok_zo) (mi_okL_c (ok_zm) (mi_okL_c (ok_zt) (mi_okL_e)))))))) (mi_okS_e) (mi_al (ho) (mi_al_e)) (fun h1 W _ hst => kon h1 W)
set_option maxRecDepth 20000 in
theorem mp_kryE_1 (h : sm_H) (d : Nat) (zp zd zr zo zm zt : Int) : mj_path [(131, (7, 0, sb_131)), (16, (3, 0, sb_16)), (49, (2, 1, sb_49)), (72, (2, 2, sb_72)), (145, (4, 4, sb_145))] sx_sk h 6 [0, 1] (d + 10, 131, 60, [some (.inr (.inr 108)), some (.inl (zp)), some (.inl (zd)), some (.inl (zr)), some (.inl (zo)), some (.inl (zm)), some (.inl (zt))], [], [], []) = some ((d + 10, 131, 98, [some (.inr (.inr 108)), some (.inl (zp)), some (.inl (zd)), some (.inl (zr)), some (.inl (zo)), some (.inl (zm)), some (.inl (zt))], [], [], []), [(mi_f h 13827) = ((0 : Int)), zm ≤ zt]) := rfl
theorem mi_tab_kryE_1 : ∀ e ∈ ([(131, (7, 0, sb_131)), (16, (3, 0, sb_16)), (49, (2, 1, sb_49)), (72, (2, 2, sb_72)), (145, (4, 4, sb_145))] : mi_T), sc_P e.1 = some e.2 := mi_tb mi_P131 (mi_tb mi_P16 (mi_tb mi_P49 (mi_tb mi_P72 (mi_tb mi_P145 (mi_tb_e)))))
set_option maxRecDepth 20000 in
theorem ms_kryE_1 {h : sm_H} {d : Nat} {Q : Option mi_V → sm_H → Prop} {zp zd zr zo zm zt : Int} (hS : ab_Sh sx_sk h) (ok_zp : mi_in zp) (ok_zd : mi_in zd) (ok_zr : mi_in zr) (ok_zo : mi_in zo) (ok_zm : mi_in zm) (ok_zt : mi_in zt) (ho : ((mi_f h 13827) = ((0 : Int))) ∧ (zm ≤ zt)) (kon : ∀ h1, me_W [] h h1 → me_E (d + 10) 131 98 [some (.inr (.inr 108)), some (.inl (zp)), some (.inl (zd)), some (.inl (zr)), some (.inl (zo)), some (.inl (zm)), some (.inl (zt))] [] h1 Q) : me_E (d + 10) 131 60 [some (.inr (.inr 108)), some (.inl (zp)), some (.inl (zd)), some (.inl (zr)), some (.inl (zo)), some (.inl (zm)), some (.inl (zt))] [] h Q := mf_seg (mp_kryE_1 h d zp zd zr zo zm zt) (mi_tab_kryE_1) hS (mi_okL_c (trivial) (mi_okL_c (ok_zp) (mi_okL_c (ok_zd) (mi_okL_c (ok_zr) (mi_okL_c (ok_zo) (mi_okL_c (ok_zm) (mi_okL_c (ok_zt) (mi_okL_e)))))))) (mi_okS_e) (mi_al (ho.1) (mi_al (ho.2) (mi_al_e))) (fun h1 W _ hst => kon h1 W)
set_option maxRecDepth 20000 in
theorem mp_kryE_2 (h : sm_H) (d : Nat) (zp zd zr zo zm zt : Int) : mj_path [(131, (7, 0, sb_131)), (16, (3, 0, sb_16)), (49, (2, 1, sb_49)), (72, (2, 2, sb_72)), (145, (4, 4, sb_145))] sx_sk h 25 [0, 0, 1, 1, 1] (d + 10, 131, 60, [some (.inr (.inr 108)), some (.inl (zp)), some (.inl (zd)), some (.inl (zr)), some (.inl (zo)), some (.inl (zm)), some (.inl (zt))], [], [], []) = some ((d + 10, 131, 98, [some (.inr (.inr 108)), some (.inl (zp)), some (.inl (zd)), some (.inl (zr)), some (.inl (zo)), some (.inl (zm)), some (.inl (zt))], [], [], []), [(mi_f h 13827) = ((0 : Int)), zt < zm, zo < ((0 : Int)), ((0 : Int)) ≤ zt, ((0 : Int)) = 0 ∨ ((0 : Int)) = 1, ((0 : Int)) = ((0 : Int))]) := rfl
theorem mi_tab_kryE_2 : ∀ e ∈ ([(131, (7, 0, sb_131)), (16, (3, 0, sb_16)), (49, (2, 1, sb_49)), (72, (2, 2, sb_72)), (145, (4, 4, sb_145))] : mi_T), sc_P e.1 = some e.2 := mi_tb mi_P131 (mi_tb mi_P16 (mi_tb mi_P49 (mi_tb mi_P72 (mi_tb mi_P145 (mi_tb_e)))))
set_option maxRecDepth 20000 in
theorem ms_kryE_2 {h : sm_H} {d : Nat} {Q : Option mi_V → sm_H → Prop} {zp zd zr zo zm zt : Int} (hS : ab_Sh sx_sk h) (ok_zp : mi_in zp) (ok_zd : mi_in zd) (ok_zr : mi_in zr) (ok_zo : mi_in zo) (ok_zm : mi_in zm) (ok_zt : mi_in zt) (ho : ((mi_f h 13827) = ((0 : Int))) ∧ (zt < zm) ∧ (zo < ((0 : Int))) ∧ (((0 : Int)) ≤ zt) ∧ (((0 : Int)) = 0 ∨ ((0 : Int)) = 1) ∧ (((0 : Int)) = ((0 : Int)))) (kon : ∀ h1, me_W [] h h1 → me_E (d + 10) 131 98 [some (.inr (.inr 108)), some (.inl (zp)), some (.inl (zd)), some (.inl (zr)), some (.inl (zo)), some (.inl (zm)), some (.inl (zt))] [] h1 Q) : me_E (d + 10) 131 60 [some (.inr (.inr 108)), some (.inl (zp)), some (.inl (zd)), some (.inl (zr)), some (.inl (zo)), some (.inl (zm)), some (.inl (zt))] [] h Q := mf_seg (mp_kryE_2 h d zp zd zr zo zm zt) (mi_tab_kryE_2) hS (mi_okL_c (trivial) (mi_okL_c (ok_zp) (mi_okL_c (ok_zd) (mi_okL_c (ok_zr) (mi_okL_c (ok_zo) (mi_okL_c (ok_zm) (mi_okL_c (ok_zt) (mi_okL_e)))))))) (mi_okS_e) (mi_al (ho.1) (mi_al (ho.2.1) (mi_al (ho.2.2.1) (mi_al (ho.2.2.2.1) (mi_al (ho.2.2.2.2.1) (mi_al (ho.2.2.2.2.2) (mi_al_e))))))) (fun h1 W _ hst => kon h1 W)
set_option maxRecDepth 20000 in
theorem mp_kryE_3 (h : sm_H) (d : Nat) (zp zd zr zo zm zt : Int) : mj_path [(131, (7, 0, sb_131)), (16, (3, 0, sb_16)), (49, (2, 1, sb_49)), (72, (2, 2, sb_72)), (145, (4, 4, sb_145))] sx_sk h 29 [0, 0, 1, 0, 0] (d + 10, 131, 60, [some (.inr (.inr 108)), some (.inl (zp)), some (.inl (zd)), some (.inl (zr)), some (.inl (zo)), some (.inl (zm)), some (.inl (zt))], [], [], []) = some ((d + 10, 131, 89, [some (.inr (.inr 108)), some (.inl (zp)), some (.inl (zd)), some (.inl (zr)), some (.inl (zo)), some (.inl (zm)), some (.inl (zt))], [.inl (zd), .inl (zp), .inr (.inr 108)], [], []), [(mi_f h 13827) = ((0 : Int)), zt < zm, zo < ((0 : Int)), zt < ((0 : Int)), ((1 : Int)) = 0 ∨ ((1 : Int)) = 1, ((1 : Int)) ≠ ((0 : Int))]) := rfl
theorem mi_tab_kryE_3 : ∀ e ∈ ([(131, (7, 0, sb_131)), (16, (3, 0, sb_16)), (49, (2, 1, sb_49)), (72, (2, 2, sb_72)), (145, (4, 4, sb_145))] : mi_T), sc_P e.1 = some e.2 := mi_tb mi_P131 (mi_tb mi_P16 (mi_tb mi_P49 (mi_tb mi_P72 (mi_tb mi_P145 (mi_tb_e)))))
set_option maxRecDepth 20000 in
theorem ms_kryE_3 {h : sm_H} {d : Nat} {Q : Option mi_V → sm_H → Prop} {zp zd zr zo zm zt : Int} (hS : ab_Sh sx_sk h) (ok_zp : mi_in zp) (ok_zd : mi_in zd) (ok_zr : mi_in zr) (ok_zo : mi_in zo) (ok_zm : mi_in zm) (ok_zt : mi_in zt) (ho : ((mi_f h 13827) = ((0 : Int))) ∧ (zt < zm) ∧ (zo < ((0 : Int))) ∧ (zt < ((0 : Int))) ∧ (((1 : Int)) = 0 ∨ ((1 : Int)) = 1) ∧ (((1 : Int)) ≠ ((0 : Int)))) (kon : ∀ h1, me_W [] h h1 → ∃ Q1, me_E (d + 9) 132 0 (mi_entry 4 [.inr (.inr 108), .inl (zp), .inl (zd)]) [] h1 Q1 ∧ ∀ w h2, (∀ x, w = some x → mi_ok x) → Q1 w h2 → me_E (d + 10) 131 92 [some (.inr (.inr 108)), some (.inl (zp)), some (.inl (zd)), some (.inl (zr)), some (.inl (zo)), some (.inl (zm)), some (.inl (zt))] (mi_back w []) h2 Q) : me_E (d + 10) 131 60 [some (.inr (.inr 108)), some (.inl (zp)), some (.inl (zd)), some (.inl (zr)), some (.inl (zo)), some (.inl (zm)), some (.inl (zt))] [] h Q := mf_seg (mp_kryE_3 h d zp zd zr zo zm zt) (mi_tab_kryE_3) hS (mi_okL_c (trivial) (mi_okL_c (ok_zp) (mi_okL_c (ok_zd) (mi_okL_c (ok_zr) (mi_okL_c (ok_zo) (mi_okL_c (ok_zm) (mi_okL_c (ok_zt) (mi_okL_e)))))))) (mi_okS_e) (mi_al (ho.1) (mi_al (ho.2.1) (mi_al (ho.2.2.1) (mi_al (ho.2.2.2.1) (mi_al (ho.2.2.2.2.1) (mi_al (ho.2.2.2.2.2) (mi_al_e))))))) (fun h1 W _ hst => let ⟨_, k1, k2⟩ := kon h1 W; mf_call (M := (7, 0, sb_131)) (M' := (4, 0, sb_132)) rfl rfl rfl rfl (Nat.le_of_ble_eq_true rfl) (Nat.le_of_ble_eq_true rfl) W.1 k1 k2)
set_option maxRecDepth 20000 in
theorem mp_kryE_4 (h : sm_H) (d : Nat) (zp zd zr zo zm zt : Int) : mj_path [(131, (7, 0, sb_131)), (16, (3, 0, sb_16)), (49, (2, 1, sb_49)), (72, (2, 2, sb_72)), (145, (4, 4, sb_145))] sx_sk h 29 [0, 0, 0, 1, 1, 1] (d + 10, 131, 60, [some (.inr (.inr 108)), some (.inl (zp)), some (.inl (zd)), some (.inl (zr)), some (.inl (zo)), some (.inl (zm)), some (.inl (zt))], [], [], []) = some ((d + 10, 131, 98, [some (.inr (.inr 108)), some (.inl (zp)), some (.inl (zd)), some (.inl (zr)), some (.inl (zo)), some (.inl (zm)), some (.inl (zt))], [], [], []), [(mi_f h 13827) = ((0 : Int)), zt < zm, ((0 : Int)) ≤ zo, ((100 : Int)) ≤ zo, ((0 : Int)) ≤ zt, ((0 : Int)) = 0 ∨ ((0 : Int)) = 1, ((0 : Int)) = ((0 : Int))]) := rfl
theorem mi_tab_kryE_4 : ∀ e ∈ ([(131, (7, 0, sb_131)), (16, (3, 0, sb_16)), (49, (2, 1, sb_49)), (72, (2, 2, sb_72)), (145, (4, 4, sb_145))] : mi_T), sc_P e.1 = some e.2 := mi_tb mi_P131 (mi_tb mi_P16 (mi_tb mi_P49 (mi_tb mi_P72 (mi_tb mi_P145 (mi_tb_e)))))
set_option maxRecDepth 20000 in
theorem ms_kryE_4 {h : sm_H} {d : Nat} {Q : Option mi_V → sm_H → Prop} {zp zd zr zo zm zt : Int} (hS : ab_Sh sx_sk h) (ok_zp : mi_in zp) (ok_zd : mi_in zd) (ok_zr : mi_in zr) (ok_zo : mi_in zo) (ok_zm : mi_in zm) (ok_zt : mi_in zt) (ho : ((mi_f h 13827) = ((0 : Int))) ∧ (zt < zm) ∧ (((0 : Int)) ≤ zo) ∧ (((100 : Int)) ≤ zo) ∧ (((0 : Int)) ≤ zt) ∧ (((0 : Int)) = 0 ∨ ((0 : Int)) = 1) ∧ (((0 : Int)) = ((0 : Int)))) (kon : ∀ h1, me_W [] h h1 → me_E (d + 10) 131 98 [some (.inr (.inr 108)), some (.inl (zp)), some (.inl (zd)), some (.inl (zr)), some (.inl (zo)), some (.inl (zm)), some (.inl (zt))] [] h1 Q) : me_E (d + 10) 131 60 [some (.inr (.inr 108)), some (.inl (zp)), some (.inl (zd)), some (.inl (zr)), some (.inl (zo)), some (.inl (zm)), some (.inl (zt))] [] h Q := mf_seg (mp_kryE_4 h d zp zd zr zo zm zt) (mi_tab_kryE_4) hS (mi_okL_c (trivial) (mi_okL_c (ok_zp) (mi_okL_c (ok_zd) (mi_okL_c (ok_zr) (mi_okL_c (ok_zo) (mi_okL_c (ok_zm) (mi_okL_c (ok_zt) (mi_okL_e)))))))) (mi_okS_e) (mi_al (ho.1) (mi_al (ho.2.1) (mi_al (ho.2.2.1) (mi_al (ho.2.2.2.1) (mi_al (ho.2.2.2.2.1) (mi_al (ho.2.2.2.2.2.1) (mi_al (ho.2.2.2.2.2.2) (mi_al_e)))))))) (fun h1 W _ hst => kon h1 W)
set_option maxRecDepth 20000 in
theorem mp_kryE_5 (h : sm_H) (d : Nat) (zp zd zr zo zm zt : Int) : mj_path [(131, (7, 0, sb_131)), (16, (3, 0, sb_16)), (49, (2, 1, sb_49)), (72, (2, 2, sb_72)), (145, (4, 4, sb_145))] sx_sk h 33 [0, 0, 0, 1, 0, 0] (d + 10, 131, 60, [some (.inr (.inr 108)), some (.inl (zp)), some (.inl (zd)), some (.inl (zr)), some (.inl (zo)), some (.inl (zm)), some (.inl (zt))], [], [], []) = some ((d + 10, 131, 89, [some (.inr (.inr 108)), some (.inl (zp)), some (.inl (zd)), some (.inl (zr)), some (.inl (zo)), some (.inl (zm)), some (.inl (zt))], [.inl (zd), .inl (zp), .inr (.inr 108)], [], []), [(mi_f h 13827) = ((0 : Int)), zt < zm, ((0 : Int)) ≤ zo, ((100 : Int)) ≤ zo, zt < ((0 : Int)), ((1 : Int)) = 0 ∨ ((1 : Int)) = 1, ((1 : Int)) ≠ ((0 : Int))]) := rfl
theorem mi_tab_kryE_5 : ∀ e ∈ ([(131, (7, 0, sb_131)), (16, (3, 0, sb_16)), (49, (2, 1, sb_49)), (72, (2, 2, sb_72)), (145, (4, 4, sb_145))] : mi_T), sc_P e.1 = some e.2 := mi_tb mi_P131 (mi_tb mi_P16 (mi_tb mi_P49 (mi_tb mi_P72 (mi_tb mi_P145 (mi_tb_e)))))
set_option maxRecDepth 20000 in
theorem ms_kryE_5 {h : sm_H} {d : Nat} {Q : Option mi_V → sm_H → Prop} {zp zd zr zo zm zt : Int} (hS : ab_Sh sx_sk h) (ok_zp : mi_in zp) (ok_zd : mi_in zd) (ok_zr : mi_in zr) (ok_zo : mi_in zo) (ok_zm : mi_in zm) (ok_zt : mi_in zt) (ho : ((mi_f h 13827) = ((0 : Int))) ∧ (zt < zm) ∧ (((0 : Int)) ≤ zo) ∧ (((100 : Int)) ≤ zo) ∧ (zt < ((0 : Int))) ∧ (((1 : Int)) = 0 ∨ ((1 : Int)) = 1) ∧ (((1 : Int)) ≠ ((0 : Int)))) (kon : ∀ h1, me_W [] h h1 → ∃ Q1, me_E (d + 9) 132 0 (mi_entry 4 [.inr (.inr 108), .inl (zp), .inl (zd)]) [] h1 Q1 ∧ ∀ w h2, (∀ x, w = some x → mi_ok x) → Q1 w h2 → me_E (d + 10) 131 92 [some (.inr (.inr 108)), some (.inl (zp)), some (.inl (zd)), some (.inl (zr)), some (.inl (zo)), some (.inl (zm)), some (.inl (zt))] (mi_back w []) h2 Q) : me_E (d + 10) 131 60 [some (.inr (.inr 108)), some (.inl (zp)), some (.inl (zd)), some (.inl (zr)), some (.inl (zo)), some (.inl (zm)), some (.inl (zt))] [] h Q := mf_seg (mp_kryE_5 h d zp zd zr zo zm zt) (mi_tab_kryE_5) hS (mi_okL_c (trivial) (mi_okL_c (ok_zp) (mi_okL_c (ok_zd) (mi_okL_c (ok_zr) (mi_okL_c (ok_zo) (mi_okL_c (ok_zm) (mi_okL_c (ok_zt) (mi_okL_e)))))))) (mi_okS_e) (mi_al (ho.1) (mi_al (ho.2.1) (mi_al (ho.2.2.1) (mi_al (ho.2.2.2.1) (mi_al (ho.2.2.2.2.1) (mi_al (ho.2.2.2.2.2.1) (mi_al (ho.2.2.2.2.2.2) (mi_al_e)))))))) (fun h1 W _ hst => let ⟨_, k1, k2⟩ := kon h1 W; mf_call (M := (7, 0, sb_131)) (M' := (4, 0, sb_132)) rfl rfl rfl rfl (Nat.le_of_ble_eq_true rfl) (Nat.le_of_ble_eq_true rfl) W.1 k1 k2)
set_option maxRecDepth 20000 in
theorem mp_kryE_6 (h : sm_H) (d : Nat) (zp zd zr zo zm zt : Int) : mj_path [(131, (7, 0, sb_131)), (16, (3, 0, sb_16)), (49, (2, 1, sb_49)), (72, (2, 2, sb_72)), (145, (4, 4, sb_145))] sx_sk h 32 [0, 0, 0, 0, 1, 1] (d + 10, 131, 60, [some (.inr (.inr 108)), some (.inl (zp)), some (.inl (zd)), some (.inl (zr)), some (.inl (zo)), some (.inl (zm)), some (.inl (zt))], [], [], []) = some ((d + 10, 131, 98, [some (.inr (.inr 108)), some (.inl (zp)), some (.inl (zd)), some (.inl (zr)), some (.inl (zo)), some (.inl (zm)), some (.inl (zt))], [], [], []), [(mi_f h 13827) = ((0 : Int)), zt < zm, ((0 : Int)) ≤ zo, zo < ((100 : Int)), 0 ≤ zo ∧ zo < 100, (mi_a h 96 (Int.toNat zo)) ≤ zt, ((0 : Int)) = 0 ∨ ((0 : Int)) = 1, ((0 : Int)) = ((0 : Int))]) := rfl
theorem mi_tab_kryE_6 : ∀ e ∈ ([(131, (7, 0, sb_131)), (16, (3, 0, sb_16)), (49, (2, 1, sb_49)), (72, (2, 2, sb_72)), (145, (4, 4, sb_145))] : mi_T), sc_P e.1 = some e.2 := mi_tb mi_P131 (mi_tb mi_P16 (mi_tb mi_P49 (mi_tb mi_P72 (mi_tb mi_P145 (mi_tb_e)))))
set_option maxRecDepth 20000 in
theorem ms_kryE_6 {h : sm_H} {d : Nat} {Q : Option mi_V → sm_H → Prop} {zp zd zr zo zm zt : Int} (hS : ab_Sh sx_sk h) (ok_zp : mi_in zp) (ok_zd : mi_in zd) (ok_zr : mi_in zr) (ok_zo : mi_in zo) (ok_zm : mi_in zm) (ok_zt : mi_in zt) (ho : ((mi_f h 13827) = ((0 : Int))) ∧ (zt < zm) ∧ (((0 : Int)) ≤ zo) ∧ (zo < ((100 : Int))) ∧ (0 ≤ zo ∧ zo < 100) ∧ ((mi_a h 96 (Int.toNat zo)) ≤ zt) ∧ (((0 : Int)) = 0 ∨ ((0 : Int)) = 1) ∧ (((0 : Int)) = ((0 : Int)))) (kon : ∀ h1, me_W [] h h1 → me_E (d + 10) 131 98 [some (.inr (.inr 108)), some (.inl (zp)), some (.inl (zd)), some (.inl (zr)), some (.inl (zo)), some (.inl (zm)), some (.inl (zt))] [] h1 Q) : me_E (d + 10) 131 60 [some (.inr (.inr 108)), some (.inl (zp)), some (.inl (zd)), some (.inl (zr)), some (.inl (zo)), some (.inl (zm)), some (.inl (zt))] [] h Q := mf_seg (mp_kryE_6 h d zp zd zr zo zm zt) (mi_tab_kryE_6) hS (mi_okL_c (trivial) (mi_okL_c (ok_zp) (mi_okL_c (ok_zd) (mi_okL_c (ok_zr) (mi_okL_c (ok_zo) (mi_okL_c (ok_zm) (mi_okL_c (ok_zt) (mi_okL_e)))))))) (mi_okS_e) (mi_al (ho.1) (mi_al (ho.2.1) (mi_al (ho.2.2.1) (mi_al (ho.2.2.2.1) (mi_al (ho.2.2.2.2.1) (mi_al (ho.2.2.2.2.2.1) (mi_al (ho.2.2.2.2.2.2.1) (mi_al (ho.2.2.2.2.2.2.2) (mi_al_e))))))))) (fun h1 W _ hst => kon h1 W)
set_option maxRecDepth 20000 in
theorem mp_kryE_7 (h : sm_H) (d : Nat) (zp zd zr zo zm zt : Int) : mj_path [(131, (7, 0, sb_131)), (16, (3, 0, sb_16)), (49, (2, 1, sb_49)), (72, (2, 2, sb_72)), (145, (4, 4, sb_145))] sx_sk h 36 [0, 0, 0, 0, 0, 0] (d + 10, 131, 60, [some (.inr (.inr 108)), some (.inl (zp)), some (.inl (zd)), some (.inl (zr)), some (.inl (zo)), some (.inl (zm)), some (.inl (zt))], [], [], []) = some ((d + 10, 131, 89, [some (.inr (.inr 108)), some (.inl (zp)), some (.inl (zd)), some (.inl (zr)), some (.inl (zo)), some (.inl (zm)), some (.inl (zt))], [.inl (zd), .inl (zp), .inr (.inr 108)], [], []), [(mi_f h 13827) = ((0 : Int)), zt < zm, ((0 : Int)) ≤ zo, zo < ((100 : Int)), 0 ≤ zo ∧ zo < 100, zt < (mi_a h 96 (Int.toNat zo)), ((1 : Int)) = 0 ∨ ((1 : Int)) = 1, ((1 : Int)) ≠ ((0 : Int))]) := rfl
theorem mi_tab_kryE_7 : ∀ e ∈ ([(131, (7, 0, sb_131)), (16, (3, 0, sb_16)), (49, (2, 1, sb_49)), (72, (2, 2, sb_72)), (145, (4, 4, sb_145))] : mi_T), sc_P e.1 = some e.2 := mi_tb mi_P131 (mi_tb mi_P16 (mi_tb mi_P49 (mi_tb mi_P72 (mi_tb mi_P145 (mi_tb_e)))))
set_option maxRecDepth 20000 in
theorem ms_kryE_7 {h : sm_H} {d : Nat} {Q : Option mi_V → sm_H → Prop} {zp zd zr zo zm zt : Int} (hS : ab_Sh sx_sk h) (ok_zp : mi_in zp) (ok_zd : mi_in zd) (ok_zr : mi_in zr) (ok_zo : mi_in zo) (ok_zm : mi_in zm) (ok_zt : mi_in zt) (ho : ((mi_f h 13827) = ((0 : Int))) ∧ (zt < zm) ∧ (((0 : Int)) ≤ zo) ∧ (zo < ((100 : Int))) ∧ (0 ≤ zo ∧ zo < 100) ∧ (zt < (mi_a h 96 (Int.toNat zo))) ∧ (((1 : Int)) = 0 ∨ ((1 : Int)) = 1) ∧ (((1 : Int)) ≠ ((0 : Int)))) (kon : ∀ h1, me_W [] h h1 → ∃ Q1, me_E (d + 9) 132 0 (mi_entry 4 [.inr (.inr 108), .inl (zp), .inl (zd)]) [] h1 Q1 ∧ ∀ w h2, (∀ x, w = some x → mi_ok x) → Q1 w h2 → me_E (d + 10) 131 92 [some (.inr (.inr 108)), some (.inl (zp)), some (.inl (zd)), some (.inl (zr)), some (.inl (zo)), some (.inl (zm)), some (.inl (zt))] (mi_back w []) h2 Q) : me_E (d + 10) 131 60 [some (.inr (.inr 108)), some (.inl (zp)), some (.inl (zd)), some (.inl (zr)), some (.inl (zo)), some (.inl (zm)), some (.inl (zt))] [] h Q := mf_seg (mp_kryE_7 h d zp zd zr zo zm zt) (mi_tab_kryE_7) hS (mi_okL_c (trivial) (mi_okL_c (ok_zp) (mi_okL_c (ok_zd) (mi_okL_c (ok_zr) (mi_okL_c (ok_zo) (mi_okL_c (ok_zm) (mi_okL_c (ok_zt) (mi_okL_e)))))))) (mi_okS_e) (mi_al (ho.1) (mi_al (ho.2.1) (mi_al (ho.2.2.1) (mi_al (ho.2.2.2.1) (mi_al (ho.2.2.2.2.1) (mi_al (ho.2.2.2.2.2.1) (mi_al (ho.2.2.2.2.2.2.1) (mi_al (ho.2.2.2.2.2.2.2) (mi_al_e))))))))) (fun h1 W _ hst => let ⟨_, k1, k2⟩ := kon h1 W; mf_call (M := (7, 0, sb_131)) (M' := (4, 0, sb_132)) rfl rfl rfl rfl (Nat.le_of_ble_eq_true rfl) (Nat.le_of_ble_eq_true rfl) W.1 k1 k2)
set_option maxRecDepth 20000 in
theorem mt_kryE {h : sm_H} {d : Nat} {Q : Option mi_V → sm_H → Prop} {zp zd zr zo zm zt : Int} (hS : ab_Sh sx_sk h) (ok_zp : mi_in zp) (ok_zd : mi_in zd) (ok_zr : mi_in zr) (ok_zo : mi_in zo) (ok_zm : mi_in zm) (ok_zt : mi_in zt) (k0 : (0 ≤ mi_f h 13827 ∧ mi_f h 13827 ≤ 1) → ((mi_f h 13827) ≠ ((0 : Int))) → (∀ h1, ab_Sh sx_sk h1 → ab_Fr [] h h1 → me_E (d + 10) 131 98 [some (.inr (.inr 108)), some (.inl (zp)), some (.inl (zd)), some (.inl (zr)), some (.inl (zo)), some (.inl (zm)), some (.inl (zt))] [] h1 Q)) (k1 : (0 ≤ mi_f h 13827 ∧ mi_f h 13827 ≤ 1) → ((mi_f h 13827) = ((0 : Int))) → (zm ≤ zt) → (∀ h1, ab_Sh sx_sk h1 → ab_Fr [] h h1 → me_E (d + 10) 131 98 [some (.inr (.inr 108)), some (.inl (zp)), some (.inl (zd)), some (.inl (zr)), some (.inl (zo)), some (.inl (zm)), some (.inl (zt))] [] h1 Q)) (k2 : (0 ≤ mi_f h 13827 ∧ mi_f h 13827 ≤ 1) → ((mi_f h 13827) = ((0 : Int))) → (zt < zm) → (zo < ((0 : Int))) → (((0 : Int)) ≤ zt) → (∀ h1, ab_Sh sx_sk h1 → ab_Fr [] h h1 → me_E (d + 10) 131 98 [some (.inr (.inr 108)), some (.inl (zp)), some (.inl (zd)), some (.inl (zr)), some (.inl (zo)), some (.inl (zm)), some (.inl (zt))] [] h1 Q)) (k3 : (0 ≤ mi_f h 13827 ∧ mi_f h 13827 ≤ 1) → ((mi_f h 13827) = ((0 : Int))) → (zt < zm) → (zo < ((0 : Int))) → (zt < ((0 : Int))) → (∀ h1, ab_Sh sx_sk h1 → ab_Fr [] h h1 → ∃ Q1, me_E (d + 9) 132 0 (mi_entry 4 [.inr (.inr 108), .inl (zp), .inl (zd)]) [] h1 Q1 ∧ ∀ w h2, (∀ x, w = some x → mi_ok x) → Q1 w h2 → me_E (d + 10) 131 92 [some (.inr (.inr 108)), some (.inl (zp)), some (.inl (zd)), some (.inl (zr)), some (.inl (zo)), some (.inl (zm)), some (.inl (zt))] (mi_back w []) h2 Q)) (k4 : (0 ≤ mi_f h 13827 ∧ mi_f h 13827 ≤ 1) → ((mi_f h 13827) = ((0 : Int))) → (zt < zm) → (((0 : Int)) ≤ zo) → (((100 : Int)) ≤ zo) → (((0 : Int)) ≤ zt) → (∀ h1, ab_Sh sx_sk h1 → ab_Fr [] h h1 → me_E (d + 10) 131 98 [some (.inr (.inr 108)), some (.inl (zp)), some (.inl (zd)), some (.inl (zr)), some (.inl (zo)), some (.inl (zm)), some (.inl (zt))] [] h1 Q)) (k5 : (0 ≤ mi_f h 13827 ∧ mi_f h 13827 ≤ 1) → ((mi_f h 13827) = ((0 : Int))) → (zt < zm) → (((0 : Int)) ≤ zo) → (((100 : Int)) ≤ zo) → (zt < ((0 : Int))) → (∀ h1, ab_Sh sx_sk h1 → ab_Fr [] h h1 → ∃ Q1, me_E (d + 9) 132 0 (mi_entry 4 [.inr (.inr 108), .inl (zp), .inl (zd)]) [] h1 Q1 ∧ ∀ w h2, (∀ x, w = some x → mi_ok x) → Q1 w h2 → me_E (d + 10) 131 92 [some (.inr (.inr 108)), some (.inl (zp)), some (.inl (zd)), some (.inl (zr)), some (.inl (zo)), some (.inl (zm)), some (.inl (zt))] (mi_back w []) h2 Q)) (k6 : (0 ≤ mi_f h 13827 ∧ mi_f h 13827 ≤ 1) → ((mi_f h 13827) = ((0 : Int))) → (zt < zm) → (((0 : Int)) ≤ zo) → (zo < ((100 : Int))) → ((mi_a h 96 (Int.toNat zo)) ≤ zt) → ((0 ≤ zo ∧ zo < 100)) ∧ (∀ h1, ab_Sh sx_sk h1 → ab_Fr [] h h1 → me_E (d + 10) 131 98 [some (.inr (.inr 108)), some (.inl (zp)), some (.inl (zd)), some (.inl (zr)), some (.inl (zo)), some (.inl (zm)), some (.inl (zt))] [] h1 Q)) (k7 : (0 ≤ mi_f h 13827 ∧ mi_f h 13827 ≤ 1) → ((mi_f h 13827) = ((0 : Int))) → (zt < zm) → (((0 : Int)) ≤ zo) → (zo < ((100 : Int))) → (zt < (mi_a h 96 (Int.toNat zo))) → ((0 ≤ zo ∧ zo < 100)) ∧ (∀ h1, ab_Sh sx_sk h1 → ab_Fr [] h h1 → ∃ Q1, me_E (d + 9) 132 0 (mi_entry 4 [.inr (.inr 108), .inl (zp), .inl (zd)]) [] h1 Q1 ∧ ∀ w h2, (∀ x, w = some x → mi_ok x) → Q1 w h2 → me_E (d + 10) 131 92 [some (.inr (.inr 108)), some (.inl (zp)), some (.inl (zd)), some (.inl (zr)), some (.inl (zo)), some (.inl (zm)), some (.inl (zt))] (mi_back w []) h2 Q)) : me_E (d + 10) 131 60 [some (.inr (.inr 108)), some (.inl (zp)), some (.inl (zd)), some (.inl (zr)), some (.inl (zo)), some (.inl (zm)), some (.inl (zt))] [] h Q := Or.elim (mi_em .ne ((mi_f h 13827)) (((0 : Int)))) (fun c0 => ms_kryE_0 hS ok_zp ok_zd ok_zr ok_zo ok_zm ok_zt (c0) (fun h1 W => (k0 (me_fb hS rfl) c0) h1 W.1 (W.2.2.2.2.2 _ rfl))) (fun c0 => Or.elim (mi_em .ge (zt) (zm)) (fun c1 => ms_kryE_1 hS ok_zp ok_zd ok_zr ok_zo ok_zm ok_zt ⟨c0, c1⟩ (fun h1 W => (k1 (me_fb hS rfl) c0 c1) h1 W.1 (W.2.2.2.2.2 _ rfl))) (fun c1 => Or.elim (mi_em .lt (zo) (((0 : Int)))) (fun c2 => Or.elim (mi_em .ge (zt) (((0 : Int)))) (fun c3 => ms_kryE_2 hS ok_zp ok_zd ok_zr ok_zo ok_zm ok_zt ⟨c0, c1, c2, c3, (by decide), (by decide)⟩ (fun h1 W => (k2 (me_fb hS rfl) c0 c1 c2 c3) h1 W.1 (W.2.2.2.2.2 _ rfl))) (fun c3 => ms_kryE_3 hS ok_zp ok_zd ok_zr ok_zo ok_zm ok_zt ⟨c0, c1, c2, c3, (by decide), (by decide)⟩ (fun h1 W => (k3 (me_fb hS rfl) c0 c1 c2 c3) h1 W.1 (W.2.2.2.2.2 _ rfl)))) (fun c2 => Or.elim (mi_em .ge (zo) (((100 : Int)))) (fun c3 => Or.elim (mi_em .ge (zt) (((0 : Int)))) (fun c4 => ms_kryE_4 hS ok_zp ok_zd ok_zr ok_zo ok_zm ok_zt ⟨c0, c1, c2, c3, c4, (by decide), (by decide)⟩ (fun h1 W => (k4 (me_fb hS rfl) c0 c1 c2 c3 c4) h1 W.1 (W.2.2.2.2.2 _ rfl))) (fun c4 => ms_kryE_5 hS ok_zp ok_zd ok_zr ok_zo ok_zm ok_zt ⟨c0, c1, c2, c3, c4, (by decide), (by decide)⟩ (fun h1 W => (k5 (me_fb hS rfl) c0 c1 c2 c3 c4) h1 W.1 (W.2.2.2.2.2 _ rfl)))) (fun c3 => Or.elim (mi_em .ge (zt) ((mi_a h 96 (Int.toNat zo)))) (fun c4 => ms_kryE_6 hS ok_zp ok_zd ok_zr ok_zo ok_zm ok_zt ⟨c0, c1, c2, c3, (k6 (me_fb hS rfl) c0 c1 c2 c3 c4).1, c4, (by decide), (by decide)⟩ (fun h1 W => (k6 (me_fb hS rfl) c0 c1 c2 c3 c4).2 h1 W.1 (W.2.2.2.2.2 _ rfl))) (fun c4 => ms_kryE_7 hS ok_zp ok_zd ok_zr ok_zo ok_zm ok_zt ⟨c0, c1, c2, c3, (k7 (me_fb hS rfl) c0 c1 c2 c3 c4).1, c4, (by decide), (by decide)⟩ (fun h1 W => (k7 (me_fb hS rfl) c0 c1 c2 c3 c4).2 h1 W.1 (W.2.2.2.2.2 _ rfl)))))))
set_option maxRecDepth 20000 in
theorem mp_kryF_0 (h : sm_H) (d : Nat) (zp zd zr zo zm zt : Int) : mj_path [(131, (7, 0, sb_131))] sx_sk h 2 [] (d + 10, 131, 92, [some (.inr (.inr 108)), some (.inl (zp)), some (.inl (zd)), some (.inl (zr)), some (.inl (zo)), some (.inl (zm)), some (.inl (zt))], [], [], []) = some ((d + 10, 131, 60, [some (.inr (.inr 108)), some (.inl (zp)), some (.inl (zd)), some (.inl (zr)), some (.inl (zo)), some (.inl (zm)), some (.inl (zt + 1))], [], [], []), [-2147483648 ≤ zt + 1 ∧ zt + 1 ≤ 2147483647]) := rfl
theorem mi_tab_kryF_0 : ∀ e ∈ ([(131, (7, 0, sb_131))] : mi_T), sc_P e.1 = some e.2 := mi_tb mi_P131 (mi_tb_e)
set_option maxRecDepth 20000 in
theorem ms_kryF_0 {h : sm_H} {d : Nat} {Q : Option mi_V → sm_H → Prop} {zp zd zr zo zm zt : Int} (hS : ab_Sh sx_sk h) (ok_zp : mi_in zp) (ok_zd : mi_in zd) (ok_zr : mi_in zr) (ok_zo : mi_in zo) (ok_zm : mi_in zm) (ok_zt : mi_in zt) (ho : (-2147483648 ≤ zt + 1 ∧ zt + 1 ≤ 2147483647)) (kon : ∀ h1, me_W [] h h1 → me_E (d + 10) 131 60 [some (.inr (.inr 108)), some (.inl (zp)), some (.inl (zd)), some (.inl (zr)), some (.inl (zo)), some (.inl (zm)), some (.inl (zt + 1))] [] h1 Q) : me_E (d + 10) 131 92 [some (.inr (.inr 108)), some (.inl (zp)), some (.inl (zd)), some (.inl (zr)), some (.inl (zo)), some (.inl (zm)), some (.inl (zt))] [] h Q := mf_seg (mp_kryF_0 h d zp zd zr zo zm zt) (mi_tab_kryF_0) hS (mi_okL_c (trivial) (mi_okL_c (ok_zp) (mi_okL_c (ok_zd) (mi_okL_c (ok_zr) (mi_okL_c (ok_zo) (mi_okL_c (ok_zm) (mi_okL_c (ok_zt) (mi_okL_e)))))))) (mi_okS_e) (mi_al (ho) (mi_al_e)) (fun h1 W _ hst => kon h1 W)
set_option maxRecDepth 20000 in
theorem mt_kryF {h : sm_H} {d : Nat} {Q : Option mi_V → sm_H → Prop} {zp zd zr zo zm zt : Int} (hS : ab_Sh sx_sk h) (ok_zp : mi_in zp) (ok_zd : mi_in zd) (ok_zr : mi_in zr) (ok_zo : mi_in zo) (ok_zm : mi_in zm) (ok_zt : mi_in zt) (k0 : ((-2147483648 ≤ zt + 1 ∧ zt + 1 ≤ 2147483647)) ∧ (∀ h1, ab_Sh sx_sk h1 → ab_Fr [] h h1 → me_E (d + 10) 131 60 [some (.inr (.inr 108)), some (.inl (zp)), some (.inl (zd)), some (.inl (zr)), some (.inl (zo)), some (.inl (zm)), some (.inl (zt + 1))] [] h1 Q)) : me_E (d + 10) 131 92 [some (.inr (.inr 108)), some (.inl (zp)), some (.inl (zd)), some (.inl (zr)), some (.inl (zo)), some (.inl (zm)), some (.inl (zt))] [] h Q := ms_kryF_0 hS ok_zp ok_zd ok_zr ok_zo ok_zm ok_zt ((k0).1) (fun h1 W => (k0).2 h1 W.1 (W.2.2.2.2.2 _ rfl))
set_option maxRecDepth 20000 in
theorem mp_kryG_0 (h : sm_H) (d : Nat) (zp zd zr zo zm zt : Int) : mj_path [(131, (7, 0, sb_131)), (146, (2, 0, sb_146))] sx_sk h 4 [] (d + 10, 131, 98, [some (.inr (.inr 108)), some (.inl (zp)), some (.inl (zd)), some (.inl (zr)), some (.inl (zo)), some (.inl (zm)), some (.inl (zt))], [], [], []) = some ((d + 10, 131, 104, [some (.inr (.inr 108)), some (.inl (zp)), some (.inl (zd)), some (.inl (zr)), some (.inl (zo)), some (.inl (zm)), some (.inl (zt))], [], [], []), []) := rfl
theorem mi_tab_kryG_0 : ∀ e ∈ ([(131, (7, 0, sb_131)), (146, (2, 0, sb_146))] : mi_T), sc_P e.1 = some e.2 := mi_tb mi_P131 (mi_tb mi_P146 (mi_tb_e))
set_option maxRecDepth 20000 in
theorem ms_kryG_0 {h : sm_H} {d : Nat} {Q : Option mi_V → sm_H → Prop} {zp zd zr zo zm zt : Int} (hS : ab_Sh sx_sk h) (ok_zp : mi_in zp) (ok_zd : mi_in zd) (ok_zr : mi_in zr) (ok_zo : mi_in zo) (ok_zm : mi_in zm) (ok_zt : mi_in zt) (kon : ∀ h1, me_W [] h h1 → Q none h1) : me_E (d + 10) 131 98 [some (.inr (.inr 108)), some (.inl (zp)), some (.inl (zd)), some (.inl (zr)), some (.inl (zo)), some (.inl (zm)), some (.inl (zt))] [] h Q := mf_seg (mp_kryG_0 h d zp zd zr zo zm zt) (mi_tab_kryG_0) hS (mi_okL_c (trivial) (mi_okL_c (ok_zp) (mi_okL_c (ok_zd) (mi_okL_c (ok_zr) (mi_okL_c (ok_zo) (mi_okL_c (ok_zm) (mi_okL_c (ok_zt) (mi_okL_e)))))))) (mi_okS_e) (mi_al_e) (fun h1 W _ hst => mf_ret (M := (7, 0, sb_131)) rfl rfl rfl hst (mi_al_e) (kon h1 W))
set_option maxRecDepth 20000 in
theorem mt_kryG {h : sm_H} {d : Nat} {Q : Option mi_V → sm_H → Prop} {zp zd zr zo zm zt : Int} (hS : ab_Sh sx_sk h) (ok_zp : mi_in zp) (ok_zd : mi_in zd) (ok_zr : mi_in zr) (ok_zo : mi_in zo) (ok_zm : mi_in zm) (ok_zt : mi_in zt) (k0 : (∀ h1, ab_Sh sx_sk h1 → ab_Fr [] h h1 → Q none h1)) : me_E (d + 10) 131 98 [some (.inr (.inr 108)), some (.inl (zp)), some (.inl (zd)), some (.inl (zr)), some (.inl (zo)), some (.inl (zm)), some (.inl (zt))] [] h Q := ms_kryG_0 hS ok_zp ok_zd ok_zr ok_zo ok_zm ok_zt (fun h1 W => (k0) h1 W.1 (W.2.2.2.2.2 _ rfl))
set_option maxRecDepth 20000 in
theorem mp_krzA_0 (h : sm_H) (d : Nat) (zp zd : Int) : mj_path [(132, (4, 0, sb_132)), (16, (3, 0, sb_16)), (49, (2, 1, sb_49)), (72, (2, 2, sb_72))] sx_sk h 18 [1, 1, 1] (d + 9, 132, 0, [some (.inr (.inr 108)), some (.inl (zp)), some (.inl (zd)), none], [], [], []) = some ((d + 9, 132, 68, [some (.inr (.inr 108)), some (.inl (zp)), some (.inl (zd)), some (.inl ((0 : Int)))], [.inl (zp), .inr (.inr 108)], [], []), [zp < ((0 : Int)), ((0 : Int)) ≠ ((9 : Int)), ((0 : Int)) ≠ ((10 : Int))]) := rfl
theorem mi_tab_krzA_0 : ∀ e ∈ ([(132, (4, 0, sb_132)), (16, (3, 0, sb_16)), (49, (2, 1, sb_49)), (72, (2, 2, sb_72))] : mi_T), sc_P e.1 = some e.2 := mi_tb mi_P132 (mi_tb mi_P16 (mi_tb mi_P49 (mi_tb mi_P72 (mi_tb_e))))
set_option maxRecDepth 20000 in
theorem ms_krzA_0 {h : sm_H} {d : Nat} {Q : Option mi_V → sm_H → Prop} {zp zd : Int} (hS : ab_Sh sx_sk h) (ok_zp : mi_in zp) (ok_zd : mi_in zd) (ho : (zp < ((0 : Int))) ∧ (((0 : Int)) ≠ ((9 : Int))) ∧ (((0 : Int)) ≠ ((10 : Int)))) (kon : ∀ h1, me_W [] h h1 → ∃ Q1, me_E (d + 8) 136 0 (mi_entry 3 [.inr (.inr 108), .inl (zp)]) [] h1 Q1 ∧ ∀ w h2, (∀ x, w = some x → mi_ok x) → Q1 w h2 → me_E (d + 9) 132 71 [some (.inr (.inr 108)), some (.inl (zp)), some (.inl (zd)), some (.inl ((0 : Int)))] (mi_back w []) h2 Q) : me_E (d + 9) 132 0 [some (.inr (.inr 108)), some (.inl (zp)), some (.inl (zd)), none] [] h Q := mf_seg (mp_krzA_0 h d zp zd) (mi_tab_krzA_0) hS (mi_okL_c (trivial) (mi_okL_c (ok_zp) (mi_okL_c (ok_zd) (mi_okL_n (mi_okL_e))))) (mi_okS_e) (mi_al (ho.1) (mi_al (ho.2.1) (mi_al (ho.2.2) (mi_al_e)))) (fun h1 W _ hst => let ⟨_, k1, k2⟩ := kon h1 W; mf_call (M := (4, 0, sb_132)) (M' := (3, 0, sb_136)) rfl rfl rfl rfl (Nat.le_of_ble_eq_true rfl) (Nat.le_of_ble_eq_true rfl) W.1 k1 k2)
set_option maxRecDepth 20000 in
theorem mp_krzA_1 (h : sm_H) (d : Nat) (zp zd : Int) : mj_path [(132, (4, 0, sb_132)), (16, (3, 0, sb_16)), (49, (2, 1, sb_49)), (72, (2, 2, sb_72))] sx_sk h 22 [0, 1, 1, 1] (d + 9, 132, 0, [some (.inr (.inr 108)), some (.inl (zp)), some (.inl (zd)), none], [], [], []) = some ((d + 9, 132, 68, [some (.inr (.inr 108)), some (.inl (zp)), some (.inl (zd)), some (.inl ((0 : Int)))], [.inl (zp), .inr (.inr 108)], [], []), [((0 : Int)) ≤ zp, ((60 : Int)) ≤ zp, ((0 : Int)) ≠ ((9 : Int)), ((0 : Int)) ≠ ((10 : Int))]) := rfl
theorem mi_tab_krzA_1 : ∀ e ∈ ([(132, (4, 0, sb_132)), (16, (3, 0, sb_16)), (49, (2, 1, sb_49)), (72, (2, 2, sb_72))] : mi_T), sc_P e.1 = some e.2 := mi_tb mi_P132 (mi_tb mi_P16 (mi_tb mi_P49 (mi_tb mi_P72 (mi_tb_e))))
set_option maxRecDepth 20000 in
theorem ms_krzA_1 {h : sm_H} {d : Nat} {Q : Option mi_V → sm_H → Prop} {zp zd : Int} (hS : ab_Sh sx_sk h) (ok_zp : mi_in zp) (ok_zd : mi_in zd) (ho : (((0 : Int)) ≤ zp) ∧ (((60 : Int)) ≤ zp) ∧ (((0 : Int)) ≠ ((9 : Int))) ∧ (((0 : Int)) ≠ ((10 : Int)))) (kon : ∀ h1, me_W [] h h1 → ∃ Q1, me_E (d + 8) 136 0 (mi_entry 3 [.inr (.inr 108), .inl (zp)]) [] h1 Q1 ∧ ∀ w h2, (∀ x, w = some x → mi_ok x) → Q1 w h2 → me_E (d + 9) 132 71 [some (.inr (.inr 108)), some (.inl (zp)), some (.inl (zd)), some (.inl ((0 : Int)))] (mi_back w []) h2 Q) : me_E (d + 9) 132 0 [some (.inr (.inr 108)), some (.inl (zp)), some (.inl (zd)), none] [] h Q := mf_seg (mp_krzA_1 h d zp zd) (mi_tab_krzA_1) hS (mi_okL_c (trivial) (mi_okL_c (ok_zp) (mi_okL_c (ok_zd) (mi_okL_n (mi_okL_e))))) (mi_okS_e) (mi_al (ho.1) (mi_al (ho.2.1) (mi_al (ho.2.2.1) (mi_al (ho.2.2.2) (mi_al_e))))) (fun h1 W _ hst => let ⟨_, k1, k2⟩ := kon h1 W; mf_call (M := (4, 0, sb_132)) (M' := (3, 0, sb_136)) rfl rfl rfl rfl (Nat.le_of_ble_eq_true rfl) (Nat.le_of_ble_eq_true rfl) W.1 k1 k2)
set_option maxRecDepth 20000 in
theorem mp_krzA_2 (h : sm_H) (d : Nat) (zp zd : Int) : mj_path [(132, (4, 0, sb_132)), (16, (3, 0, sb_16)), (49, (2, 1, sb_49)), (72, (2, 2, sb_72))] sx_sk h 25 [0, 0, 1, 1] (d + 9, 132, 0, [some (.inr (.inr 108)), some (.inl (zp)), some (.inl (zd)), none], [], [], []) = some ((d + 9, 132, 68, [some (.inr (.inr 108)), some (.inl (zp)), some (.inl (zd)), some (.inl (mi_a h 68 (Int.toNat zp)))], [.inl (zp), .inr (.inr 108)], [], []), [((0 : Int)) ≤ zp, zp < ((60 : Int)), 0 ≤ zp ∧ zp < 60, (mi_a h 68 (Int.toNat zp)) ≠ ((9 : Int)), (mi_a h 68 (Int.toNat zp)) ≠ ((10 : Int))]) := rfl
theorem mi_tab_krzA_2 : ∀ e ∈ ([(132, (4, 0, sb_132)), (16, (3, 0, sb_16)), (49, (2, 1, sb_49)), (72, (2, 2, sb_72))] : mi_T), sc_P e.1 = some e.2 := mi_tb mi_P132 (mi_tb mi_P16 (mi_tb mi_P49 (mi_tb mi_P72 (mi_tb_e))))
set_option maxRecDepth 20000 in
theorem ms_krzA_2 {h : sm_H} {d : Nat} {Q : Option mi_V → sm_H → Prop} {zp zd : Int} (hS : ab_Sh sx_sk h) (ok_zp : mi_in zp) (ok_zd : mi_in zd) (ho : (((0 : Int)) ≤ zp) ∧ (zp < ((60 : Int))) ∧ (0 ≤ zp ∧ zp < 60) ∧ ((mi_a h 68 (Int.toNat zp)) ≠ ((9 : Int))) ∧ ((mi_a h 68 (Int.toNat zp)) ≠ ((10 : Int)))) (kon : ∀ h1, me_W [] h h1 → ∃ Q1, me_E (d + 8) 136 0 (mi_entry 3 [.inr (.inr 108), .inl (zp)]) [] h1 Q1 ∧ ∀ w h2, (∀ x, w = some x → mi_ok x) → Q1 w h2 → me_E (d + 9) 132 71 [some (.inr (.inr 108)), some (.inl (zp)), some (.inl (zd)), some (.inl (mi_a h 68 (Int.toNat zp)))] (mi_back w []) h2 Q) : me_E (d + 9) 132 0 [some (.inr (.inr 108)), some (.inl (zp)), some (.inl (zd)), none] [] h Q := mf_seg (mp_krzA_2 h d zp zd) (mi_tab_krzA_2) hS (mi_okL_c (trivial) (mi_okL_c (ok_zp) (mi_okL_c (ok_zd) (mi_okL_n (mi_okL_e))))) (mi_okS_e) (mi_al (ho.1) (mi_al (ho.2.1) (mi_al (ho.2.2.1) (mi_al (ho.2.2.2.1) (mi_al (ho.2.2.2.2) (mi_al_e)))))) (fun h1 W _ hst => let ⟨_, k1, k2⟩ := kon h1 W; mf_call (M := (4, 0, sb_132)) (M' := (3, 0, sb_136)) rfl rfl rfl rfl (Nat.le_of_ble_eq_true rfl) (Nat.le_of_ble_eq_true rfl) W.1 k1 k2)
set_option maxRecDepth 20000 in
theorem mp_krzA_3 (h : sm_H) (d : Nat) (zp zd : Int) : mj_path [(132, (4, 0, sb_132)), (16, (3, 0, sb_16)), (49, (2, 1, sb_49)), (72, (2, 2, sb_72))] sx_sk h 43 [0, 0, 1, 0, 0, 0, 8] (d + 9, 132, 0, [some (.inr (.inr 108)), some (.inl (zp)), some (.inl (zd)), none], [], [], []) = some ((d + 9, 132, 60, [some (.inr (.inr 108)), some (.inl (zp)), some (.inl (zd)), some (.inl (mi_a h 68 (Int.toNat zp)))], [.inl (zd + ((1 : Int))), .inl (mi_a h 69 (Int.toNat zp)), .inr (.inr 108)], [], []), [((0 : Int)) ≤ zp, zp < ((60 : Int)), 0 ≤ zp ∧ zp < 60, (mi_a h 68 (Int.toNat zp)) ≠ ((9 : Int)), (mi_a h 68 (Int.toNat zp)) = ((10 : Int)), ((0 : Int)) ≤ zp, zp < ((60 : Int)), 0 ≤ zp ∧ zp < 60, -2147483648 ≤ zd + ((1 : Int)) ∧ zd + ((1 : Int)) ≤ 2147483647]) := rfl
theorem mi_tab_krzA_3 : ∀ e ∈ ([(132, (4, 0, sb_132)), (16, (3, 0, sb_16)), (49, (2, 1, sb_49)), (72, (2, 2, sb_72))] : mi_T), sc_P e.1 = some e.2 := mi_tb mi_P132 (mi_tb mi_P16 (mi_tb mi_P49 (mi_tb mi_P72 (mi_tb_e))))
set_option maxRecDepth 20000 in
theorem ms_krzA_3 {h : sm_H} {d : Nat} {Q : Option mi_V → sm_H → Prop} {zp zd : Int} (hS : ab_Sh sx_sk h) (ok_zp : mi_in zp) (ok_zd : mi_in zd) (ho : (((0 : Int)) ≤ zp) ∧ (zp < ((60 : Int))) ∧ (0 ≤ zp ∧ zp < 60) ∧ ((mi_a h 68 (Int.toNat zp)) ≠ ((9 : Int))) ∧ ((mi_a h 68 (Int.toNat zp)) = ((10 : Int))) ∧ (((0 : Int)) ≤ zp) ∧ (zp < ((60 : Int))) ∧ (0 ≤ zp ∧ zp < 60) ∧ (-2147483648 ≤ zd + ((1 : Int)) ∧ zd + ((1 : Int)) ≤ 2147483647)) (kon : ∀ h1, me_W [] h h1 → ∃ Q1, me_E (d + 8) 120 0 (mi_entry 11 [.inr (.inr 108), .inl (mi_a h 69 (Int.toNat zp)), .inl (zd + ((1 : Int)))]) [] h1 Q1 ∧ ∀ w h2, (∀ x, w = some x → mi_ok x) → Q1 w h2 → me_E (d + 9) 132 63 [some (.inr (.inr 108)), some (.inl (zp)), some (.inl (zd)), some (.inl (mi_a h 68 (Int.toNat zp)))] (mi_back w []) h2 Q) : me_E (d + 9) 132 0 [some (.inr (.inr 108)), some (.inl (zp)), some (.inl (zd)), none] [] h Q := mf_seg (mp_krzA_3 h d zp zd) (mi_tab_krzA_3) hS (mi_okL_c (trivial) (mi_okL_c (ok_zp) (mi_okL_c (ok_zd) (mi_okL_n (mi_okL_e))))) (mi_okS_e) (mi_al (ho.1) (mi_al (ho.2.1) (mi_al (ho.2.2.1) (mi_al (ho.2.2.2.1) (mi_al (ho.2.2.2.2.1) (mi_al (ho.2.2.2.2.2.1) (mi_al (ho.2.2.2.2.2.2.1) (mi_al (ho.2.2.2.2.2.2.2.1) (mi_al (ho.2.2.2.2.2.2.2.2) (mi_al_e)))))))))) (fun h1 W _ hst => let ⟨_, k1, k2⟩ := kon h1 W; mf_call (M := (4, 0, sb_132)) (M' := (11, 0, sb_120)) rfl rfl rfl rfl (Nat.le_of_ble_eq_true rfl) (Nat.le_of_ble_eq_true rfl) W.1 k1 k2)
set_option maxRecDepth 20000 in
theorem mp_krzA_4 (h : sm_H) (d : Nat) (zp zd : Int) : mj_path [(132, (4, 0, sb_132)), (16, (3, 0, sb_16)), (49, (2, 1, sb_49)), (72, (2, 2, sb_72))] sx_sk h 40 [0, 0, 0, 0, 0, 8] (d + 9, 132, 0, [some (.inr (.inr 108)), some (.inl (zp)), some (.inl (zd)), none], [], [], []) = some ((d + 9, 132, 33, [some (.inr (.inr 108)), some (.inl (zp)), some (.inl (zd)), some (.inl (mi_a h 68 (Int.toNat zp)))], [.inl (zd + ((1 : Int))), .inl (mi_a h 69 (Int.toNat zp)), .inr (.inr 108)], [], []), [((0 : Int)) ≤ zp, zp < ((60 : Int)), 0 ≤ zp ∧ zp < 60, (mi_a h 68 (Int.toNat zp)) = ((9 : Int)), ((0 : Int)) ≤ zp, zp < ((60 : Int)), 0 ≤ zp ∧ zp < 60, -2147483648 ≤ zd + ((1 : Int)) ∧ zd + ((1 : Int)) ≤ 2147483647]) := rfl
theorem mi_tab_krzA_4 : ∀ e ∈ ([(132, (4, 0, sb_132)), (16, (3, 0, sb_16)), (49, (2, 1, sb_49)), (72, (2, 2, sb_72))] : mi_T), sc_P e.1 = some e.2 := mi_tb mi_P132 (mi_tb mi_P16 (mi_tb mi_P49 (mi_tb mi_P72 (mi_tb_e))))
set_option maxRecDepth 20000 in
theorem ms_krzA_4 {h : sm_H} {d : Nat} {Q : Option mi_V → sm_H → Prop} {zp zd : Int} (hS : ab_Sh sx_sk h) (ok_zp : mi_in zp) (ok_zd : mi_in zd) (ho : (((0 : Int)) ≤ zp) ∧ (zp < ((60 : Int))) ∧ (0 ≤ zp ∧ zp < 60) ∧ ((mi_a h 68 (Int.toNat zp)) = ((9 : Int))) ∧ (((0 : Int)) ≤ zp) ∧ (zp < ((60 : Int))) ∧ (0 ≤ zp ∧ zp < 60) ∧ (-2147483648 ≤ zd + ((1 : Int)) ∧ zd + ((1 : Int)) ≤ 2147483647)) (kon : ∀ h1, me_W [] h h1 → ∃ Q1, me_E (d + 8) 113 0 (mi_entry 4 [.inr (.inr 108), .inl (mi_a h 69 (Int.toNat zp)), .inl (zd + ((1 : Int)))]) [] h1 Q1 ∧ ∀ w h2, (∀ x, w = some x → mi_ok x) → Q1 w h2 → me_E (d + 9) 132 36 [some (.inr (.inr 108)), some (.inl (zp)), some (.inl (zd)), some (.inl (mi_a h 68 (Int.toNat zp)))] (mi_back w []) h2 Q) : me_E (d + 9) 132 0 [some (.inr (.inr 108)), some (.inl (zp)), some (.inl (zd)), none] [] h Q := mf_seg (mp_krzA_4 h d zp zd) (mi_tab_krzA_4) hS (mi_okL_c (trivial) (mi_okL_c (ok_zp) (mi_okL_c (ok_zd) (mi_okL_n (mi_okL_e))))) (mi_okS_e) (mi_al (ho.1) (mi_al (ho.2.1) (mi_al (ho.2.2.1) (mi_al (ho.2.2.2.1) (mi_al (ho.2.2.2.2.1) (mi_al (ho.2.2.2.2.2.1) (mi_al (ho.2.2.2.2.2.2.1) (mi_al (ho.2.2.2.2.2.2.2) (mi_al_e))))))))) (fun h1 W _ hst => let ⟨_, k1, k2⟩ := kon h1 W; mf_call (M := (4, 0, sb_132)) (M' := (4, 0, sb_113)) rfl rfl rfl rfl (Nat.le_of_ble_eq_true rfl) (Nat.le_of_ble_eq_true rfl) W.1 k1 k2)
set_option maxRecDepth 20000 in
theorem mt_krzA {h : sm_H} {d : Nat} {Q : Option mi_V → sm_H → Prop} {zp zd : Int} (hS : ab_Sh sx_sk h) (ok_zp : mi_in zp) (ok_zd : mi_in zd) (k0 : (zp < ((0 : Int))) → (∀ h1, ab_Sh sx_sk h1 → ab_Fr [] h h1 → ∃ Q1, me_E (d + 8) 136 0 (mi_entry 3 [.inr (.inr 108), .inl (zp)]) [] h1 Q1 ∧ ∀ w h2, (∀ x, w = some x → mi_ok x) → Q1 w h2 → me_E (d + 9) 132 71 [some (.inr (.inr 108)), some (.inl (zp)), some (.inl (zd)), some (.inl ((0 : Int)))] (mi_back w []) h2 Q)) (k1 : (((0 : Int)) ≤ zp) → (((60 : Int)) ≤ zp) → (∀ h1, ab_Sh sx_sk h1 → ab_Fr [] h h1 → ∃ Q1, me_E (d + 8) 136 0 (mi_entry 3 [.inr (.inr 108), .inl (zp)]) [] h1 Q1 ∧ ∀ w h2, (∀ x, w = some x → mi_ok x) → Q1 w h2 → me_E (d + 9) 132 71 [some (.inr (.inr 108)), some (.inl (zp)), some (.inl (zd)), some (.inl ((0 : Int)))] (mi_back w []) h2 Q)) (k2 : (((0 : Int)) ≤ zp) → (zp < ((60 : Int))) → ((mi_a h 68 (Int.toNat zp)) ≠ ((9 : Int))) → ((mi_a h 68 (Int.toNat zp)) ≠ ((10 : Int))) → ((0 ≤ zp ∧ zp < 60)) ∧ (∀ h1, ab_Sh sx_sk h1 → ab_Fr [] h h1 → ∃ Q1, me_E (d + 8) 136 0 (mi_entry 3 [.inr (.inr 108), .inl (zp)]) [] h1 Q1 ∧ ∀ w h2, (∀ x, w = some x → mi_ok x) → Q1 w h2 → me_E (d + 9) 132 71 [some (.inr (.inr 108)), some (.inl (zp)), some (.inl (zd)), some (.inl (mi_a h 68 (Int.toNat zp)))] (mi_back w []) h2 Q)) (k3 : (((0 : Int)) ≤ zp) → (zp < ((60 : Int))) → ((mi_a h 68 (Int.toNat zp)) ≠ ((9 : Int))) → ((mi_a h 68 (Int.toNat zp)) = ((10 : Int))) → ((0 ≤ zp ∧ zp < 60) ∧ (-2147483648 ≤ zd + ((1 : Int)) ∧ zd + ((1 : Int)) ≤ 2147483647)) ∧ (∀ h1, ab_Sh sx_sk h1 → ab_Fr [] h h1 → ∃ Q1, me_E (d + 8) 120 0 (mi_entry 11 [.inr (.inr 108), .inl (mi_a h 69 (Int.toNat zp)), .inl (zd + ((1 : Int)))]) [] h1 Q1 ∧ ∀ w h2, (∀ x, w = some x → mi_ok x) → Q1 w h2 → me_E (d + 9) 132 63 [some (.inr (.inr 108)), some (.inl (zp)), some (.inl (zd)), some (.inl (mi_a h 68 (Int.toNat zp)))] (mi_back w []) h2 Q)) (k4 : (((0 : Int)) ≤ zp) → (zp < ((60 : Int))) → ((mi_a h 68 (Int.toNat zp)) = ((9 : Int))) → ((0 ≤ zp ∧ zp < 60) ∧ (-2147483648 ≤ zd + ((1 : Int)) ∧ zd + ((1 : Int)) ≤ 2147483647)) ∧ (∀ h1, ab_Sh sx_sk h1 → ab_Fr [] h h1 → ∃ Q1, me_E (d + 8) 113 0 (mi_entry 4 [.inr (.inr 108), .inl (mi_a h 69 (Int.toNat zp)), .inl (zd + ((1 : Int)))]) [] h1 Q1 ∧ ∀ w h2, (∀ x, w = some x → mi_ok x) → Q1 w h2 → me_E (d + 9) 132 36 [some (.inr (.inr 108)), some (.inl (zp)), some (.inl (zd)), some (.inl (mi_a h 68 (Int.toNat zp)))] (mi_back w []) h2 Q)) : me_E (d + 9) 132 0 [some (.inr (.inr 108)), some (.inl (zp)), some (.inl (zd)), none] [] h Q := Or.elim (mi_em .lt (zp) (((0 : Int)))) (fun c0 => ms_krzA_0 hS ok_zp ok_zd ⟨c0, (by decide), (by decide)⟩ (fun h1 W => (k0 c0) h1 W.1 (W.2.2.2.2.2 _ rfl))) (fun c0 => Or.elim (mi_em .ge (zp) (((60 : Int)))) (fun c1 => ms_krzA_1 hS ok_zp ok_zd ⟨c0, c1, (by decide), (by decide)⟩ (fun h1 W => (k1 c0 c1) h1 W.1 (W.2.2.2.2.2 _ rfl))) (fun c1 => Or.elim (mi_em .ne ((mi_a h 68 (Int.toNat zp))) (((9 : Int)))) (fun c2 => Or.elim (mi_em .ne ((mi_a h 68 (Int.toNat zp))) (((10 : Int)))) (fun c3 => ms_krzA_2 hS ok_zp ok_zd ⟨c0, c1, (k2 c0 c1 c2 c3).1, c2, c3⟩ (fun h1 W => (k2 c0 c1 c2 c3).2 h1 W.1 (W.2.2.2.2.2 _ rfl))) (fun c3 => ms_krzA_3 hS ok_zp ok_zd ⟨c0, c1, (k3 c0 c1 c2 c3).1.1, c2, c3, c0, c1, (k3 c0 c1 c2 c3).1.1, (k3 c0 c1 c2 c3).1.2⟩ (fun h1 W => (k3 c0 c1 c2 c3).2 h1 W.1 (W.2.2.2.2.2 _ rfl)))) (fun c2 => ms_krzA_4 hS ok_zp ok_zd ⟨c0, c1, (k4 c0 c1 c2).1.1, c2, c0, c1, (k4 c0 c1 c2).1.1, (k4 c0 c1 c2).1.2⟩ (fun h1 W => (k4 c0 c1 c2).2 h1 W.1 (W.2.2.2.2.2 _ rfl)))))
set_option maxRecDepth 20000 in
theorem mp_krzB_0 (h : sm_H) (d : Nat) (zp zd zs : Int) : mj_path [(132, (4, 0, sb_132))] sx_sk h 1 [] (d + 9, 132, 36, [some (.inr (.inr 108)), some (.inl (zp)), some (.inl (zd)), some (.inl (zs))], [], [], []) = some ((d + 9, 132, 71, [some (.inr (.inr 108)), some (.inl (zp)), some (.inl (zd)), some (.inl (zs))], [], [], []), []) := rfl
theorem mi_tab_krzB_0 : ∀ e ∈ ([(132, (4, 0, sb_132))] : mi_T), sc_P e.1 = some e.2 := mi_tb mi_P132 (mi_tb_e)
set_option maxRecDepth 20000 in
theorem ms_krzB_0 {h : sm_H} {d : Nat} {Q : Option mi_V → sm_H → Prop} {zp zd zs : Int} (hS : ab_Sh sx_sk h) (ok_zp : mi_in zp) (ok_zd : mi_in zd) (ok_zs : mi_in zs) (kon : ∀ h1, me_W [] h h1 → Q none h1) : me_E (d + 9) 132 36 [some (.inr (.inr 108)), some (.inl (zp)), some (.inl (zd)), some (.inl (zs))] [] h Q := mf_seg (mp_krzB_0 h d zp zd zs) (mi_tab_krzB_0) hS (mi_okL_c (trivial) (mi_okL_c (ok_zp) (mi_okL_c (ok_zd) (mi_okL_c (ok_zs) (mi_okL_e))))) (mi_okS_e) (mi_al_e) (fun h1 W _ hst => mf_ret (M := (4, 0, sb_132)) rfl rfl rfl hst (mi_al_e) (kon h1 W))
set_option maxRecDepth 20000 in
theorem mt_krzB {h : sm_H} {d : Nat} {Q : Option mi_V → sm_H → Prop} {zp zd zs : Int} (hS : ab_Sh sx_sk h) (ok_zp : mi_in zp) (ok_zd : mi_in zd) (ok_zs : mi_in zs) (k0 : (∀ h1, ab_Sh sx_sk h1 → ab_Fr [] h h1 → Q none h1)) : me_E (d + 9) 132 36 [some (.inr (.inr 108)), some (.inl (zp)), some (.inl (zd)), some (.inl (zs))] [] h Q := ms_krzB_0 hS ok_zp ok_zd ok_zs (fun h1 W => (k0) h1 W.1 (W.2.2.2.2.2 _ rfl))
set_option maxRecDepth 20000 in
theorem mp_krzC_0 (h : sm_H) (d : Nat) (zp zd zs : Int) : mj_path [(132, (4, 0, sb_132))] sx_sk h 1 [] (d + 9, 132, 63, [some (.inr (.inr 108)), some (.inl (zp)), some (.inl (zd)), some (.inl (zs))], [], [], []) = some ((d + 9, 132, 71, [some (.inr (.inr 108)), some (.inl (zp)), some (.inl (zd)), some (.inl (zs))], [], [], []), []) := rfl
theorem mi_tab_krzC_0 : ∀ e ∈ ([(132, (4, 0, sb_132))] : mi_T), sc_P e.1 = some e.2 := mi_tb mi_P132 (mi_tb_e)
set_option maxRecDepth 20000 in
theorem ms_krzC_0 {h : sm_H} {d : Nat} {Q : Option mi_V → sm_H → Prop} {zp zd zs : Int} (hS : ab_Sh sx_sk h) (ok_zp : mi_in zp) (ok_zd : mi_in zd) (ok_zs : mi_in zs) (kon : ∀ h1, me_W [] h h1 → Q none h1) : me_E (d + 9) 132 63 [some (.inr (.inr 108)), some (.inl (zp)), some (.inl (zd)), some (.inl (zs))] [] h Q := mf_seg (mp_krzC_0 h d zp zd zs) (mi_tab_krzC_0) hS (mi_okL_c (trivial) (mi_okL_c (ok_zp) (mi_okL_c (ok_zd) (mi_okL_c (ok_zs) (mi_okL_e))))) (mi_okS_e) (mi_al_e) (fun h1 W _ hst => mf_ret (M := (4, 0, sb_132)) rfl rfl rfl hst (mi_al_e) (kon h1 W))
set_option maxRecDepth 20000 in
theorem mt_krzC {h : sm_H} {d : Nat} {Q : Option mi_V → sm_H → Prop} {zp zd zs : Int} (hS : ab_Sh sx_sk h) (ok_zp : mi_in zp) (ok_zd : mi_in zd) (ok_zs : mi_in zs) (k0 : (∀ h1, ab_Sh sx_sk h1 → ab_Fr [] h h1 → Q none h1)) : me_E (d + 9) 132 63 [some (.inr (.inr 108)), some (.inl (zp)), some (.inl (zd)), some (.inl (zs))] [] h Q := ms_krzC_0 hS ok_zp ok_zd ok_zs (fun h1 W => (k0) h1 W.1 (W.2.2.2.2.2 _ rfl))
set_option maxRecDepth 20000 in
theorem mp_krzD_0 (h : sm_H) (d : Nat) (zp zd zs : Int) : mj_path [(132, (4, 0, sb_132))] sx_sk h 0 [] (d + 9, 132, 71, [some (.inr (.inr 108)), some (.inl (zp)), some (.inl (zd)), some (.inl (zs))], [], [], []) = some ((d + 9, 132, 71, [some (.inr (.inr 108)), some (.inl (zp)), some (.inl (zd)), some (.inl (zs))], [], [], []), []) := rfl
theorem mi_tab_krzD_0 : ∀ e ∈ ([(132, (4, 0, sb_132))] : mi_T), sc_P e.1 = some e.2 := mi_tb mi_P132 (mi_tb_e)
set_option maxRecDepth 20000 in
theorem ms_krzD_0 {h : sm_H} {d : Nat} {Q : Option mi_V → sm_H → Prop} {zp zd zs : Int} (hS : ab_Sh sx_sk h) (ok_zp : mi_in zp) (ok_zd : mi_in zd) (ok_zs : mi_in zs) (kon : ∀ h1, me_W [] h h1 → Q none h1) : me_E (d + 9) 132 71 [some (.inr (.inr 108)), some (.inl (zp)), some (.inl (zd)), some (.inl (zs))] [] h Q := mf_seg (mp_krzD_0 h d zp zd zs) (mi_tab_krzD_0) hS (mi_okL_c (trivial) (mi_okL_c (ok_zp) (mi_okL_c (ok_zd) (mi_okL_c (ok_zs) (mi_okL_e))))) (mi_okS_e) (mi_al_e) (fun h1 W _ hst => mf_ret (M := (4, 0, sb_132)) rfl rfl rfl hst (mi_al_e) (kon h1 W))
set_option maxRecDepth 20000 in
theorem mt_krzD {h : sm_H} {d : Nat} {Q : Option mi_V → sm_H → Prop} {zp zd zs : Int} (hS : ab_Sh sx_sk h) (ok_zp : mi_in zp) (ok_zd : mi_in zd) (ok_zs : mi_in zs) (k0 : (∀ h1, ab_Sh sx_sk h1 → ab_Fr [] h h1 → Q none h1)) : me_E (d + 9) 132 71 [some (.inr (.inr 108)), some (.inl (zp)), some (.inl (zd)), some (.inl (zs))] [] h Q := ms_krzD_0 hS ok_zp ok_zd ok_zs (fun h1 W => (k0) h1 W.1 (W.2.2.2.2.2 _ rfl))
set_option maxRecDepth 20000 in
theorem mp_krhA_0 (h : sm_H) (d : Nat) : mj_path [(103, (1, 0, sb_103)), (112, (1, 0, sb_112)), (90, (1, 0, sb_90))] sx_sk h 43 [0] (d + 9, 103, 0, [some (.inr (.inr 108))], [], [], []) = some ((d + 9, 103, 29, [some (.inr (.inr 108))], [.inl ((0 : Int)), .inl ((0 : Int)), .inr (.inr 108)], [.inl (13836, (0 : Int)), .inl (13835, (0 : Int)), .inl (13834, (0 : Int)), .inl (13833, (0 : Int)), .inl (13832, (0 : Int)), .inl (13831, (0 : Int)), .inl (7425, (0 : Int)), .inl (13829, (0 : Int)), .inl (13828, (0 : Int)), .inl (13827, (0 : Int))], []), [0 ≤ ((0 : Int)) ∧ ((0 : Int)) ≤ 1, 0 ≤ ((0 : Int)) ∧ ((0 : Int)) ≤ 1, 0 ≤ ((0 : Int)) ∧ ((0 : Int)) ≤ 1, 0 ≤ ((0 : Int)) ∧ ((0 : Int)) ≤ 1, 0 ≤ ((0 : Int)) ∧ ((0 : Int)) ≤ 160, 0 ≤ ((0 : Int)) ∧ ((0 : Int)) ≤ 1, 0 ≤ ((0 : Int)) ∧ ((0 : Int)) ≤ 1, 0 ≤ ((0 : Int)) ∧ ((0 : Int)) ≤ 1, 0 ≤ ((0 : Int)) ∧ ((0 : Int)) ≤ 1, 0 ≤ ((0 : Int)) ∧ ((0 : Int)) ≤ 1, 0 ≤ ((0 : Int)) ∧ ((0 : Int)) ≤ 1, 0 ≤ ((0 : Int)) ∧ ((0 : Int)) ≤ 1, 0 ≤ ((0 : Int)) ∧ ((0 : Int)) ≤ 1, ((0 : Int)) = ((0 : Int))]) := rfl
theorem mi_tab_krhA_0 : ∀ e ∈ ([(103, (1, 0, sb_103)), (112, (1, 0, sb_112)), (90, (1, 0, sb_90))] : mi_T), sc_P e.1 = some e.2 := mi_tb mi_P103 (mi_tb mi_P112 (mi_tb mi_P90 (mi_tb_e)))
set_option maxRecDepth 20000 in
theorem ms_krhA_0 {h : sm_H} {d : Nat} {Q : Option mi_V → sm_H → Prop} (hS : ab_Sh sx_sk h)  (ho : (0 ≤ ((0 : Int)) ∧ ((0 : Int)) ≤ 1) ∧ (0 ≤ ((0 : Int)) ∧ ((0 : Int)) ≤ 1) ∧ (0 ≤ ((0 : Int)) ∧ ((0 : Int)) ≤ 1) ∧ (0 ≤ ((0 : Int)) ∧ ((0 : Int)) ≤ 1) ∧ (0 ≤ ((0 : Int)) ∧ ((0 : Int)) ≤ 160) ∧ (0 ≤ ((0 : Int)) ∧ ((0 : Int)) ≤ 1) ∧ (0 ≤ ((0 : Int)) ∧ ((0 : Int)) ≤ 1) ∧ (0 ≤ ((0 : Int)) ∧ ((0 : Int)) ≤ 1) ∧ (0 ≤ ((0 : Int)) ∧ ((0 : Int)) ≤ 1) ∧ (0 ≤ ((0 : Int)) ∧ ((0 : Int)) ≤ 1) ∧ (0 ≤ ((0 : Int)) ∧ ((0 : Int)) ≤ 1) ∧ (0 ≤ ((0 : Int)) ∧ ((0 : Int)) ≤ 1) ∧ (0 ≤ ((0 : Int)) ∧ ((0 : Int)) ≤ 1) ∧ (((0 : Int)) = ((0 : Int)))) (kon : ∀ h1, me_W [.inl (13836, (0 : Int)), .inl (13835, (0 : Int)), .inl (13834, (0 : Int)), .inl (13833, (0 : Int)), .inl (13832, (0 : Int)), .inl (13831, (0 : Int)), .inl (7425, (0 : Int)), .inl (13829, (0 : Int)), .inl (13828, (0 : Int)), .inl (13827, (0 : Int))] h h1 → ∃ Q1, me_E (d + 8) 113 0 (mi_entry 4 [.inr (.inr 108), .inl ((0 : Int)), .inl ((0 : Int))]) [] h1 Q1 ∧ ∀ w h2, (∀ x, w = some x → mi_ok x) → Q1 w h2 → me_E (d + 9) 103 32 [some (.inr (.inr 108))] (mi_back w []) h2 Q) : me_E (d + 9) 103 0 [some (.inr (.inr 108))] [] h Q := mf_seg (mp_krhA_0 h d ) (mi_tab_krhA_0) hS (mi_okL_c (trivial) (mi_okL_e)) (mi_okS_e) (mi_al (ho.1) (mi_al (ho.2.1) (mi_al (ho.2.2.1) (mi_al (ho.2.2.2.1) (mi_al (ho.2.2.2.2.1) (mi_al (ho.2.2.2.2.2.1) (mi_al (ho.2.2.2.2.2.2.1) (mi_al (ho.2.2.2.2.2.2.2.1) (mi_al (ho.2.2.2.2.2.2.2.2.1) (mi_al (ho.2.2.2.2.2.2.2.2.2.1) (mi_al (ho.2.2.2.2.2.2.2.2.2.2.1) (mi_al (ho.2.2.2.2.2.2.2.2.2.2.2.1) (mi_al (ho.2.2.2.2.2.2.2.2.2.2.2.2.1) (mi_al (ho.2.2.2.2.2.2.2.2.2.2.2.2.2) (mi_al_e))))))))))))))) (fun h1 W _ hst => let ⟨_, k1, k2⟩ := kon h1 W; mf_call (M := (1, 0, sb_103)) (M' := (4, 0, sb_113)) rfl rfl rfl rfl (Nat.le_of_ble_eq_true rfl) (Nat.le_of_ble_eq_true rfl) W.1 k1 k2)
set_option maxRecDepth 20000 in
theorem mt_krhA {h : sm_H} {d : Nat} {Q : Option mi_V → sm_H → Prop} (hS : ab_Sh sx_sk h)  (k0 : (∀ h1, ab_Sh sx_sk h1 → mi_f h1 7425 = (0 : Int) → mi_f h1 13827 = (0 : Int) → mi_f h1 13828 = (0 : Int) → mi_f h1 13829 = (0 : Int) → mi_f h1 13831 = (0 : Int) → mi_f h1 13832 = (0 : Int) → mi_f h1 13833 = (0 : Int) → mi_f h1 13834 = (0 : Int) → mi_f h1 13835 = (0 : Int) → mi_f h1 13836 = (0 : Int) → ab_Fr [(7425, 7426), (13827, 13830), (13831, 13837)] h h1 → ∃ Q1, me_E (d + 8) 113 0 (mi_entry 4 [.inr (.inr 108), .inl ((0 : Int)), .inl ((0 : Int))]) [] h1 Q1 ∧ ∀ w h2, (∀ x, w = some x → mi_ok x) → Q1 w h2 → me_E (d + 9) 103 32 [some (.inr (.inr 108))] (mi_back w []) h2 Q)) : me_E (d + 9) 103 0 [some (.inr (.inr 108))] [] h Q := ms_krhA_0 hS ⟨(by decide), (by decide), (by decide), (by decide), (by decide), (by decide), (by decide), (by decide), (by decide), (by decide), (by decide), (by decide), (by decide), (by decide)⟩ (fun h1 W => (k0) h1 W.1 (W.2.1 7425) (W.2.1 13827) (W.2.1 13828) (W.2.1 13829) (W.2.1 13831) (W.2.1 13832) (W.2.1 13833) (W.2.1 13834) (W.2.1 13835) (W.2.1 13836) (W.2.2.2.2.2 _ rfl))
set_option maxRecDepth 20000 in
theorem mp_krhB_0 (h : sm_H) (d : Nat) : mj_path [(103, (1, 0, sb_103)), (157, (1, 0, sb_157))] sx_sk h 3 [1] (d + 9, 103, 32, [some (.inr (.inr 108))], [], [], []) = some ((d + 9, 103, 43, [some (.inr (.inr 108))], [], [], []), [(mi_f h 13827) ≠ ((0 : Int))]) := rfl
theorem mi_tab_krhB_0 : ∀ e ∈ ([(103, (1, 0, sb_103)), (157, (1, 0, sb_157))] : mi_T), sc_P e.1 = some e.2 := mi_tb mi_P103 (mi_tb mi_P157 (mi_tb_e))
set_option maxRecDepth 20000 in
theorem ms_krhB_0 {h : sm_H} {d : Nat} {Q : Option mi_V → sm_H → Prop} (hS : ab_Sh sx_sk h)  (ho : ((mi_f h 13827) ≠ ((0 : Int)))) (kon : ∀ h1, me_W [] h h1 → Q none h1) : me_E (d + 9) 103 32 [some (.inr (.inr 108))] [] h Q := mf_seg (mp_krhB_0 h d ) (mi_tab_krhB_0) hS (mi_okL_c (trivial) (mi_okL_e)) (mi_okS_e) (mi_al (ho) (mi_al_e)) (fun h1 W _ hst => mf_ret (M := (1, 0, sb_103)) rfl rfl rfl hst (mi_al_e) (kon h1 W))
set_option maxRecDepth 20000 in
theorem mp_krhB_1 (h : sm_H) (d : Nat) : mj_path [(103, (1, 0, sb_103)), (157, (1, 0, sb_157))] sx_sk h 6 [0] (d + 9, 103, 32, [some (.inr (.inr 108))], [], [], []) = some ((d + 9, 103, 43, [some (.inr (.inr 108))], [], [], []), [(mi_f h 13827) = ((0 : Int))]) := rfl
theorem mi_tab_krhB_1 : ∀ e ∈ ([(103, (1, 0, sb_103)), (157, (1, 0, sb_157))] : mi_T), sc_P e.1 = some e.2 := mi_tb mi_P103 (mi_tb mi_P157 (mi_tb_e))
set_option maxRecDepth 20000 in
theorem ms_krhB_1 {h : sm_H} {d : Nat} {Q : Option mi_V → sm_H → Prop} (hS : ab_Sh sx_sk h)  (ho : ((mi_f h 13827) = ((0 : Int)))) (kon : ∀ h1, me_W [] h h1 → Q none h1) : me_E (d + 9) 103 32 [some (.inr (.inr 108))] [] h Q := mf_seg (mp_krhB_1 h d ) (mi_tab_krhB_1) hS (mi_okL_c (trivial) (mi_okL_e)) (mi_okS_e) (mi_al (ho) (mi_al_e)) (fun h1 W _ hst => mf_ret (M := (1, 0, sb_103)) rfl rfl rfl hst (mi_al_e) (kon h1 W))
set_option maxRecDepth 20000 in
theorem mt_krhB {h : sm_H} {d : Nat} {Q : Option mi_V → sm_H → Prop} (hS : ab_Sh sx_sk h)  (k0 : (0 ≤ mi_f h 13827 ∧ mi_f h 13827 ≤ 1) → ((mi_f h 13827) ≠ ((0 : Int))) → (∀ h1, ab_Sh sx_sk h1 → ab_Fr [] h h1 → Q none h1)) (k1 : (0 ≤ mi_f h 13827 ∧ mi_f h 13827 ≤ 1) → ((mi_f h 13827) = ((0 : Int))) → (∀ h1, ab_Sh sx_sk h1 → ab_Fr [] h h1 → Q none h1)) : me_E (d + 9) 103 32 [some (.inr (.inr 108))] [] h Q := Or.elim (mi_em .ne ((mi_f h 13827)) (((0 : Int)))) (fun c0 => ms_krhB_0 hS (c0) (fun h1 W => (k0 (me_fb hS rfl) c0) h1 W.1 (W.2.2.2.2.2 _ rfl))) (fun c0 => ms_krhB_1 hS (c0) (fun h1 W => (k1 (me_fb hS rfl) c0) h1 W.1 (W.2.2.2.2.2 _ rfl)))
/-! the class's texts: a character more; what is printed: write, separate -/
def tx_alc (z : Int) : Prop := z = 10 ∨ (32 ≤ z ∧ z ≤ 126)
section TXD
variable {d : Nat} {h : sm_H}
theorem me_cast59 {m pc : Nat} {M : sm_M} {ls : mi_L} {v i : Int} {Q : Option mi_V → sm_H → Prop} (hM : sc_P m = some M) (hq : M.2.2[pc]? = some (some (.castore, 1, []))) (hS : ab_Sh sx_sk h) (v0 : 0 ≤ v) (v1 : v ≤ 65535) (i0 : 0 ≤ i) (i1 : i < 160) (K : ∀ h1, ab_Sh sx_sk h1 → (∀ j, mi_a h1 59 j = if j = i.toNat then v else mi_a h 59 j) → ab_Fr [(7552, 7552 + 1)] h h1 → me_E d m (pc + 1) ls [] h1 Q) : me_E d m pc ls [.inl v, .inl i, .inr (.inr 59)] h Q := by
  have ov : mi_in v := ⟨by omega, by omega⟩
  have oi : mi_in i := ⟨by omega, by omega⟩
  have tv := mi_ti ov
  have ti := mi_ti oi
  have ev : (sm_chr (Int32.ofInt v)).toInt = v := by
    rw [ab_chr_eq, tv]
    omega
  have en : (Int32.ofInt i).toNatClampNeg = i.toNat := by
    unfold Int32.toNatClampNeg
    rw [ti]
  have hs : mx_step sx_sk (.castore, 1, []) pc (mi_cl ls) [.int (Int32.ofInt v), .int (Int32.ofInt i), .ref 59] h 0 = some (pc + 1, mi_cl ls, [], mx_pa h 59 (Int32.ofInt i).toNatClampNeg (sm_chr (Int32.ofInt v)), [0 ≤ (Int32.ofInt i).toInt ∧ (Int32.ofInt i).toInt < ((160 : Nat) : Int), 0 ≤ (sm_chr (Int32.ofInt v)).toInt ∧ (sm_chr (Int32.ofInt v)).toInt ≤ 65535]) := rfl
  obtain ⟨e1, e2⟩ := mx_step_ok hs hS (fun p hp => by
    simp only [List.mem_cons, List.not_mem_nil, or_false] at hp
    rcases hp with rfl | rfl
    · rw [ti]; omega
    · rw [ev]; omega)
  obtain ⟨f, hf, -⟩ := mx_arr (a := 59) (t := 2) (n := 160) (lo := 0) (hi := 65535) (ex := []) hS rfl (by decide)
  have ep : mx_pa h 59 (Int32.ofInt i).toNatClampNeg (sm_chr (Int32.ofInt v)) = h.set 59 (.inl (2, 160, .inl (upd f (Int32.ofInt i).toNatClampNeg (sm_chr (Int32.ofInt v))))) := by
    unfold mx_pa
    rw [hf]
  refine ab_Ends.step hM hq e1 (K _ e2 (fun j => ?_) ?_)
  · unfold mi_a
    rw [mx_a_pa (mx_Sh_Sp hS) rfl, en]
    by_cases c : j = i.toNat
    · rw [if_pos c, if_pos ⟨rfl, c⟩, ev]
    · rw [if_neg c, if_neg (fun q => c q.2)]
  · show ab_Fr _ h (mx_pa h 59 (Int32.ofInt i).toNatClampNeg (sm_chr (Int32.ofInt v)))
    rw [ep]
    exact ab_Fr_arr hf rfl (by decide)
/-- a character is put at the end -/
theorem me_app58 {zc : Int} (hS : ab_Sh sx_sk h) (hz : tx_alc zc) : me_E d 91 0 [some (.inr (.inr 58)), some (.inl zc), none] [] h (fun w h' => ab_Sh sx_sk h' ∧ ((w = some (.inl 1) ∧ mi_f h 7425 < 160 ∧ mi_f h' 7425 = mi_f h 7425 + 1 ∧ (∀ j, mi_a h' 59 j = if j = (mi_f h 7425).toNat then zc else mi_a h 59 j) ∧ ab_Fr [(7425, 7425 + 1), (7552, 7552 + 1)] h h') ∨ (w = some (.inl 0) ∧ 160 ≤ mi_f h 7425 ∧ h' = h))) := by
  unfold tx_alc at hz
  have oc : mi_in zc := ⟨by omega, by omega⟩
  have t24 : me_E d 91 24 [some (.inr (.inr 58)), some (.inl zc), some (.inl 1)] [] h (fun w h' => ab_Sh sx_sk h' ∧ ((w = some (.inl 1) ∧ mi_f h 7425 < 160 ∧ mi_f h' 7425 = mi_f h 7425 + 1 ∧ (∀ j, mi_a h' 59 j = if j = (mi_f h 7425).toNat then zc else mi_a h 59 j) ∧ ab_Fr [(7425, 7425 + 1), (7552, 7552 + 1)] h h') ∨ (w = some (.inl 0) ∧ 160 ≤ mi_f h 7425 ∧ h' = h))) := by
    refine mt_a58B hS oc ⟨by decide, by decide⟩ (fun q => absurd q (by decide)) (by intros; exfalso; omega) ?_ ?_
    · intro b c1 c2 c3 h1 g1 g2
      have e0 := me_nil g2
      subst e0
      refine me_cast59 (m := 91) (M := (3, 4, sb_91)) rfl rfl g1 (by omega) (by omega) c2 c3 (fun h2 s1 s2 s3 => ?_)
      have e57 : mi_f h2 7425 = mi_f h1 7425 := me_f (c := 7425) s3 g1 rfl rfl
      refine mt_a58C s1 oc ⟨by decide, by decide⟩ (fun b => ⟨by omega, fun h3 t1 t2 t3 => ⟨t1, Or.inl ⟨rfl, c3, by rw [t2, e57], fun j => ?_, (s3.wide (fun c hc => ab_swr_ok (by decide) hc)).trans (t3.wide (fun c hc => ab_swr_ok (by decide) hc))⟩⟩⟩)
      rw [me_a (k := 59) t3 s1 rfl rfl]
      exact s2 j
    · intro b c1 c2 c3 h1 g1 g2
      have e0 := me_nil g2
      subst e0
      exact ⟨g1, Or.inr ⟨rfl, c3, rfl⟩⟩
  refine mt_a58A hS oc ?_ ?_ ?_ ?_ ?_
  · intro c1 c2; exfalso; omega
  · intro c1 c2 h1 g1 g2
    have e0 := me_nil g2
    subst e0
    exact t24
  · intro c1 c2 h1 g1 g2
    have e0 := me_nil g2
    subst e0
    exact t24
  · intro c1 c2 c3; exfalso; omega
  · intro c1 c2 c3; exfalso; omega
theorem me_cast57 {m pc : Nat} {M : sm_M} {ls : mi_L} {v i : Int} {Q : Option mi_V → sm_H → Prop} (hM : sc_P m = some M) (hq : M.2.2[pc]? = some (some (.castore, 1, []))) (hS : ab_Sh sx_sk h) (v0 : 0 ≤ v) (v1 : v ≤ 65535) (i0 : 0 ≤ i) (i1 : i < 160) (K : ∀ h1, ab_Sh sx_sk h1 → (∀ j, mi_a h1 57 j = if j = i.toNat then v else mi_a h 57 j) → ab_Fr [(7296, 7296 + 1)] h h1 → me_E d m (pc + 1) ls [] h1 Q) : me_E d m pc ls [.inl v, .inl i, .inr (.inr 57)] h Q := by
  have ov : mi_in v := ⟨by omega, by omega⟩
  have oi : mi_in i := ⟨by omega, by omega⟩
  have tv := mi_ti ov
  have ti := mi_ti oi
  have ev : (sm_chr (Int32.ofInt v)).toInt = v := by
    rw [ab_chr_eq, tv]
    omega
  have en : (Int32.ofInt i).toNatClampNeg = i.toNat := by
    unfold Int32.toNatClampNeg
    rw [ti]
  have hs : mx_step sx_sk (.castore, 1, []) pc (mi_cl ls) [.int (Int32.ofInt v), .int (Int32.ofInt i), .ref 57] h 0 = some (pc + 1, mi_cl ls, [], mx_pa h 57 (Int32.ofInt i).toNatClampNeg (sm_chr (Int32.ofInt v)), [0 ≤ (Int32.ofInt i).toInt ∧ (Int32.ofInt i).toInt < ((160 : Nat) : Int), 0 ≤ (sm_chr (Int32.ofInt v)).toInt ∧ (sm_chr (Int32.ofInt v)).toInt ≤ 65535]) := rfl
  obtain ⟨e1, e2⟩ := mx_step_ok hs hS (fun p hp => by
    simp only [List.mem_cons, List.not_mem_nil, or_false] at hp
    rcases hp with rfl | rfl
    · rw [ti]; omega
    · rw [ev]; omega)
  obtain ⟨f, hf, -⟩ := mx_arr (a := 57) (t := 2) (n := 160) (lo := 0) (hi := 65535) (ex := []) hS rfl (by decide)
  have ep : mx_pa h 57 (Int32.ofInt i).toNatClampNeg (sm_chr (Int32.ofInt v)) = h.set 57 (.inl (2, 160, .inl (upd f (Int32.ofInt i).toNatClampNeg (sm_chr (Int32.ofInt v))))) := by
    unfold mx_pa
    rw [hf]
  refine ab_Ends.step hM hq e1 (K _ e2 (fun j => ?_) ?_)
  · unfold mi_a
    rw [mx_a_pa (mx_Sh_Sp hS) rfl, en]
    by_cases c : j = i.toNat
    · rw [if_pos c, if_pos ⟨rfl, c⟩, ev]
    · rw [if_neg c, if_neg (fun q => c q.2)]
  · show ab_Fr _ h (mx_pa h 57 (Int32.ofInt i).toNatClampNeg (sm_chr (Int32.ofInt v)))
    rw [ep]
    exact ab_Fr_arr hf rfl (by decide)
/-- a character is put at the end -/
theorem me_app56 {zc : Int} (hS : ab_Sh sx_sk h) (hz : tx_alc zc) : me_E d 91 0 [some (.inr (.inr 56)), some (.inl zc), none] [] h (fun w h' => ab_Sh sx_sk h' ∧ ((w = some (.inl 1) ∧ mi_f h 7169 < 160 ∧ mi_f h' 7169 = mi_f h 7169 + 1 ∧ (∀ j, mi_a h' 57 j = if j = (mi_f h 7169).toNat then zc else mi_a h 57 j) ∧ ab_Fr [(7169, 7169 + 1), (7296, 7296 + 1)] h h') ∨ (w = some (.inl 0) ∧ 160 ≤ mi_f h 7169 ∧ h' = h))) := by
  unfold tx_alc at hz
  have oc : mi_in zc := ⟨by omega, by omega⟩
  have t24 : me_E d 91 24 [some (.inr (.inr 56)), some (.inl zc), some (.inl 1)] [] h (fun w h' => ab_Sh sx_sk h' ∧ ((w = some (.inl 1) ∧ mi_f h 7169 < 160 ∧ mi_f h' 7169 = mi_f h 7169 + 1 ∧ (∀ j, mi_a h' 57 j = if j = (mi_f h 7169).toNat then zc else mi_a h 57 j) ∧ ab_Fr [(7169, 7169 + 1), (7296, 7296 + 1)] h h') ∨ (w = some (.inl 0) ∧ 160 ≤ mi_f h 7169 ∧ h' = h))) := by
    refine mt_a56B hS oc ⟨by decide, by decide⟩ (fun q => absurd q (by decide)) (by intros; exfalso; omega) ?_ ?_
    · intro b c1 c2 c3 h1 g1 g2
      have e0 := me_nil g2
      subst e0
      refine me_cast57 (m := 91) (M := (3, 4, sb_91)) rfl rfl g1 (by omega) (by omega) c2 c3 (fun h2 s1 s2 s3 => ?_)
      have e57 : mi_f h2 7169 = mi_f h1 7169 := me_f (c := 7169) s3 g1 rfl rfl
      refine mt_a56C s1 oc ⟨by decide, by decide⟩ (fun b => ⟨by omega, fun h3 t1 t2 t3 => ⟨t1, Or.inl ⟨rfl, c3, by rw [t2, e57], fun j => ?_, (s3.wide (fun c hc => ab_swr_ok (by decide) hc)).trans (t3.wide (fun c hc => ab_swr_ok (by decide) hc))⟩⟩⟩)
      rw [me_a (k := 57) t3 s1 rfl rfl]
      exact s2 j
    · intro b c1 c2 c3 h1 g1 g2
      have e0 := me_nil g2
      subst e0
      exact ⟨g1, Or.inr ⟨rfl, c3, rfl⟩⟩
  refine mt_a56A hS oc ?_ ?_ ?_ ?_ ?_
  · intro c1 c2; exfalso; omega
  · intro c1 c2 h1 g1 g2
    have e0 := me_nil g2
    subst e0
    exact t24
  · intro c1 c2 h1 g1 g2
    have e0 := me_nil g2
    subst e0
    exact t24
  · intro c1 c2 c3; exfalso; omega
  · intro c1 c2 c3; exfalso; omega
theorem me_cast55 {m pc : Nat} {M : sm_M} {ls : mi_L} {v i : Int} {Q : Option mi_V → sm_H → Prop} (hM : sc_P m = some M) (hq : M.2.2[pc]? = some (some (.castore, 1, []))) (hS : ab_Sh sx_sk h) (v0 : 0 ≤ v) (v1 : v ≤ 65535) (i0 : 0 ≤ i) (i1 : i < 160) (K : ∀ h1, ab_Sh sx_sk h1 → (∀ j, mi_a h1 55 j = if j = i.toNat then v else mi_a h 55 j) → ab_Fr [(7040, 7040 + 1)] h h1 → me_E d m (pc + 1) ls [] h1 Q) : me_E d m pc ls [.inl v, .inl i, .inr (.inr 55)] h Q := by
  have ov : mi_in v := ⟨by omega, by omega⟩
  have oi : mi_in i := ⟨by omega, by omega⟩
  have tv := mi_ti ov
  have ti := mi_ti oi
  have ev : (sm_chr (Int32.ofInt v)).toInt = v := by
    rw [ab_chr_eq, tv]
    omega
  have en : (Int32.ofInt i).toNatClampNeg = i.toNat := by
    unfold Int32.toNatClampNeg
    rw [ti]
  have hs : mx_step sx_sk (.castore, 1, []) pc (mi_cl ls) [.int (Int32.ofInt v), .int (Int32.ofInt i), .ref 55] h 0 = some (pc + 1, mi_cl ls, [], mx_pa h 55 (Int32.ofInt i).toNatClampNeg (sm_chr (Int32.ofInt v)), [0 ≤ (Int32.ofInt i).toInt ∧ (Int32.ofInt i).toInt < ((160 : Nat) : Int), 0 ≤ (sm_chr (Int32.ofInt v)).toInt ∧ (sm_chr (Int32.ofInt v)).toInt ≤ 65535]) := rfl
  obtain ⟨e1, e2⟩ := mx_step_ok hs hS (fun p hp => by
    simp only [List.mem_cons, List.not_mem_nil, or_false] at hp
    rcases hp with rfl | rfl
    · rw [ti]; omega
    · rw [ev]; omega)
  obtain ⟨f, hf, -⟩ := mx_arr (a := 55) (t := 2) (n := 160) (lo := 0) (hi := 65535) (ex := []) hS rfl (by decide)
  have ep : mx_pa h 55 (Int32.ofInt i).toNatClampNeg (sm_chr (Int32.ofInt v)) = h.set 55 (.inl (2, 160, .inl (upd f (Int32.ofInt i).toNatClampNeg (sm_chr (Int32.ofInt v))))) := by
    unfold mx_pa
    rw [hf]
  refine ab_Ends.step hM hq e1 (K _ e2 (fun j => ?_) ?_)
  · unfold mi_a
    rw [mx_a_pa (mx_Sh_Sp hS) rfl, en]
    by_cases c : j = i.toNat
    · rw [if_pos c, if_pos ⟨rfl, c⟩, ev]
    · rw [if_neg c, if_neg (fun q => c q.2)]
  · show ab_Fr _ h (mx_pa h 55 (Int32.ofInt i).toNatClampNeg (sm_chr (Int32.ofInt v)))
    rw [ep]
    exact ab_Fr_arr hf rfl (by decide)
/-- a character is put at the end -/
theorem me_app54 {zc : Int} (hS : ab_Sh sx_sk h) (hz : tx_alc zc) : me_E d 91 0 [some (.inr (.inr 54)), some (.inl zc), none] [] h (fun w h' => ab_Sh sx_sk h' ∧ ((w = some (.inl 1) ∧ mi_f h 6913 < 160 ∧ mi_f h' 6913 = mi_f h 6913 + 1 ∧ (∀ j, mi_a h' 55 j = if j = (mi_f h 6913).toNat then zc else mi_a h 55 j) ∧ ab_Fr [(6913, 6913 + 1), (7040, 7040 + 1)] h h') ∨ (w = some (.inl 0) ∧ 160 ≤ mi_f h 6913 ∧ h' = h))) := by
  unfold tx_alc at hz
  have oc : mi_in zc := ⟨by omega, by omega⟩
  have t24 : me_E d 91 24 [some (.inr (.inr 54)), some (.inl zc), some (.inl 1)] [] h (fun w h' => ab_Sh sx_sk h' ∧ ((w = some (.inl 1) ∧ mi_f h 6913 < 160 ∧ mi_f h' 6913 = mi_f h 6913 + 1 ∧ (∀ j, mi_a h' 55 j = if j = (mi_f h 6913).toNat then zc else mi_a h 55 j) ∧ ab_Fr [(6913, 6913 + 1), (7040, 7040 + 1)] h h') ∨ (w = some (.inl 0) ∧ 160 ≤ mi_f h 6913 ∧ h' = h))) := by
    refine mt_a54B hS oc ⟨by decide, by decide⟩ (fun q => absurd q (by decide)) (by intros; exfalso; omega) ?_ ?_
    · intro b c1 c2 c3 h1 g1 g2
      have e0 := me_nil g2
      subst e0
      refine me_cast55 (m := 91) (M := (3, 4, sb_91)) rfl rfl g1 (by omega) (by omega) c2 c3 (fun h2 s1 s2 s3 => ?_)
      have e57 : mi_f h2 6913 = mi_f h1 6913 := me_f (c := 6913) s3 g1 rfl rfl
      refine mt_a54C s1 oc ⟨by decide, by decide⟩ (fun b => ⟨by omega, fun h3 t1 t2 t3 => ⟨t1, Or.inl ⟨rfl, c3, by rw [t2, e57], fun j => ?_, (s3.wide (fun c hc => ab_swr_ok (by decide) hc)).trans (t3.wide (fun c hc => ab_swr_ok (by decide) hc))⟩⟩⟩)
      rw [me_a (k := 55) t3 s1 rfl rfl]
      exact s2 j
    · intro b c1 c2 c3 h1 g1 g2
      have e0 := me_nil g2
      subst e0
      exact ⟨g1, Or.inr ⟨rfl, c3, rfl⟩⟩
  refine mt_a54A hS oc ?_ ?_ ?_ ?_ ?_
  · intro c1 c2; exfalso; omega
  · intro c1 c2 h1 g1 g2
    have e0 := me_nil g2
    subst e0
    exact t24
  · intro c1 c2 h1 g1 g2
    have e0 := me_nil g2
    subst e0
    exact t24
  · intro c1 c2 c3; exfalso; omega
  · intro c1 c2 c3; exfalso; omega
theorem me_i2c {m pc : Nat} {M : sm_M} {ls : mi_L} {v : Int} {r : List mi_V} {Q : Option mi_V → sm_H → Prop} (hM : sc_P m = some M) (hq : M.2.2[pc]? = some (some (.i2c, 1, []))) (v0 : 0 ≤ v) (v1 : v ≤ 65535) (K : me_E d m (pc + 1) ls (.inl v :: r) h Q) : me_E d m pc ls (.inl v :: r) h Q := by
  have ov : mi_in v := ⟨by omega, by omega⟩
  have ev : sm_chr (Int32.ofInt v) = Int32.ofInt v := Int32.toInt_inj.mp (by rw [ab_chr_eq, mi_ti ov]; omega)
  have hs : sm_step (.i2c, 1, []) pc (mi_cl ls) (.int (Int32.ofInt v) :: r.map mi_c) h = some (.inl (pc + 1, mi_cl ls, .int (sm_chr (Int32.ofInt v)) :: r.map mi_c, h)) := rfl
  rw [ev] at hs
  exact ab_Ends.step hM hq hs K
theorem i32_ush {z : Int} (h0 : 0 ≤ z) (h1 : z ≤ 1073741823) : ((Int32.ofInt z).toUInt32 >>> ((Int32.ofInt 5).toUInt32 &&& Int32.toUInt32 31)).toInt32.toInt = z / 32 := by
  have oz : mi_in z := ⟨by omega, by omega⟩
  have e5 : ((Int32.ofInt 5).toUInt32 &&& Int32.toUInt32 31).toNat = 5 := by decide
  have ez : (Int32.ofInt z).toUInt32.toNat = z.toNat := by
    have e1 : (Int32.ofInt z).toBitVec.toInt = z := mi_ti oz
    have e3 := BitVec.toInt_eq_toNat_cond (Int32.ofInt z).toBitVec
    have e4 := (Int32.ofInt z).toBitVec.isLt
    show (Int32.ofInt z).toBitVec.toNat = z.toNat
    split at e3 <;> omega
  have em : ((Int32.ofInt z).toUInt32 >>> ((Int32.ofInt 5).toUInt32 &&& Int32.toUInt32 31)).toNat = z.toNat / 32 := by
    rw [UInt32.toNat_shiftRight, ez, e5, Nat.shiftRight_eq_div_pow]
  show ((Int32.ofInt z).toUInt32 >>> ((Int32.ofInt 5).toUInt32 &&& Int32.toUInt32 31)).toBitVec.toInt = _
  have e6 : ((Int32.ofInt z).toUInt32 >>> ((Int32.ofInt 5).toUInt32 &&& Int32.toUInt32 31)).toBitVec.toNat = z.toNat / 32 := em
  rw [BitVec.toInt_eq_toNat_of_lt (by omega), e6]
  omega
theorem me_ush5 {m pc : Nat} {M : sm_M} {ls : mi_L} {v : Int} {Q : Option mi_V → sm_H → Prop} (hM : sc_P m = some M) (hq : M.2.2[pc]? = some (some (.iushr, 1, []))) (v0 : 0 ≤ v) (v1 : v ≤ 1073741823) (K : me_E d m (pc + 1) ls [.inl (v / 32)] h Q) : me_E d m pc ls [.inl 5, .inl v] h Q := by
  have ev : ((Int32.ofInt v).toUInt32 >>> ((Int32.ofInt 5).toUInt32 &&& Int32.toUInt32 31)).toInt32 = Int32.ofInt (v / 32) := Int32.toInt_inj.mp (by rw [i32_ush v0 v1, mi_ti ⟨by omega, by omega⟩])
  have hs : sm_step (.iushr, 1, []) pc (mi_cl ls) [.int (Int32.ofInt 5), .int (Int32.ofInt v)] h = some (.inl (pc + 1, mi_cl ls, [.int ((Int32.ofInt v).toUInt32 >>> ((Int32.ofInt 5).toUInt32 &&& Int32.toUInt32 31)).toInt32], h)) := rfl
  rw [ev] at hs
  exact ab_Ends.step hM hq hs K
end TXD
/-! what the class has printed -/
def oCo (h : sm_H) (o : ox) : Prop := mi_f h 7425 = (o.1.length : Int) ∧ (∀ k : Nat, k < o.1.length → o.1[k]? = some (mi_a h 59 k)) ∧ mi_f h 13834 = o.2.1 ∧ mi_f h 13833 = o.2.2.1 ∧ mi_f h 13832 = o.2.2.2
def oC (h : sm_H) (x : Option ox) : Prop := (x = none ∧ mi_f h 13827 = 1 ∧ mi_f h 13836 = 1 ∧ 160 ≤ mi_f h 7425) ∨ ∃ o, x = some o ∧ mi_f h 13827 = 0 ∧ mi_f h 13836 = 0 ∧ oCo h o
/-- whether a word was before -/
def oCw (h : sm_H) (x : Option ox) : Prop := ∀ o, x = some o → o.1 ≠ [] → (mi_f h 13835 ≠ 0 ↔ wy (olc o.1) = true)
def wr_c3 : List (Nat × Nat) := [(7425, 7426), (7552, 7553), (13827, 13828), (13836, 13837)]
def wr_cs : List (Nat × Nat) := [(7425, 7426), (7552, 7553), (13827, 13828), (13833, 13837)]
section CPR
variable {d : Nat} {h : sm_H} {x : Option ox}
theorem oC_len {o : ox} (hR : oC h (some o)) : mi_f h 13827 = 0 ∧ mi_f h 13836 = 0 ∧ oCo h o := by
  rcases hR with ⟨a, -⟩ | ⟨o', a, b, c⟩
  · cases a
  · injection a with a
    subst a
    exact ⟨b, c⟩
theorem oC_no (hR : oC h none) : mi_f h 13827 = 1 ∧ mi_f h 13836 = 1 ∧ 160 ≤ mi_f h 7425 := by
  rcases hR with ⟨-, a⟩ | ⟨o', a, -⟩
  · exact a
  · cases a
theorem oC_fr {h' : sm_H} {wr : List (Nat × Nat)} (hR : oC h x) (hF : ab_Fr wr h h') (hS : ab_Sh sx_sk h) (hw : (ab_in wr 7425 || ab_in wr 7552 || ab_in wr 13827 || ab_in wr 13832 || ab_in wr 13833 || ab_in wr 13834 || ab_in wr 13836) = false) : oC h' x := by
  simp only [Bool.or_eq_false_iff] at hw
  obtain ⟨⟨⟨⟨⟨⟨w1, w2⟩, w3⟩, w4⟩, w5⟩, w6⟩, w7⟩ := hw
  rcases hR with ⟨a, b, c, c'⟩ | ⟨o, a, b, c, c1, c2, c3, c4, c5⟩
  · exact Or.inl ⟨a, (me_f (c := 13827) hF hS rfl w3).trans b, (me_f (c := 13836) hF hS rfl w7).trans c, by rw [me_f (c := 7425) hF hS rfl w1]; exact c'⟩
  · exact Or.inr ⟨o, a, (me_f (c := 13827) hF hS rfl w3).trans b, (me_f (c := 13836) hF hS rfl w7).trans c, (me_f (c := 7425) hF hS rfl w1).trans c1, fun k hk => by rw [me_a (k := 59) hF hS rfl w2]; exact c2 k hk, (me_f (c := 13834) hF hS rfl w6).trans c3, (me_f (c := 13833) hF hS rfl w5).trans c4, (me_f (c := 13832) hF hS rfl w4).trans c5⟩
/-- what was full stays full -/
theorem ow_full {c : Int} {o : ox} (h : 160 ≤ o.1.length) : owx c o = none := by
  unfold owx ow
  rw [if_pos h]
  rfl
theorem me_wrc {zc : Int} (hS : ab_Sh sx_sk h) (hz : tx_alc zc) (hR : oC h x) : me_E (d + 1) 140 0 [some (.inr (.inr 108)), some (.inl zc)] [] h (fun w h' => w = none ∧ ab_Sh sx_sk h' ∧ ab_Fr wr_c3 h h' ∧ oC h' (x.bind (owx zc))) := by
  have oc : mi_in zc := ⟨by unfold tx_alc at hz; omega, by unfold tx_alc at hz; omega⟩
  refine mt_kowA (d := d) hS oc ?_
  intro h1 g1 g2
  have e := me_nil g2
  subst e
  refine ⟨_, me_app58 g1 hz, fun w h2 hw hq => ?_⟩
  obtain ⟨q1, ⟨rfl, q2, q3, q4, q5⟩ | ⟨rfl, q2, rfl⟩⟩ := hq
  · refine mt_kowB q1 oc ⟨by decide, by decide⟩ ?_ (fun q => absurd q (by decide))
    intro c h3 r1 r2
    have e := me_nil r2
    subst e
    rcases hR with ⟨a, b, c, c'⟩ | ⟨o, a, b, c, c1, c2, c3, c4, c5⟩
    · omega
    · subst a
      have eo : (some o).bind (owx zc) = some (o.1 ++ [zc], o.2) := by
        show owx zc o = _
        unfold owx ow
        rw [if_neg (by omega)]
        rfl
      rw [eo]
      refine ⟨rfl, r1, q5.wide (fun c hc => ab_swr_ok (by decide) hc), Or.inr ⟨_, rfl, (me_f (c := 13827) q5 g1 rfl rfl).trans b, (me_f (c := 13836) q5 g1 rfl rfl).trans c, ?_, fun k hk => ?_, (me_f (c := 13834) q5 g1 rfl rfl).trans c3, (me_f (c := 13833) q5 g1 rfl rfl).trans c4, (me_f (c := 13832) q5 g1 rfl rfl).trans c5⟩⟩
      · rw [q3, c1, List.length_append]
        rfl
      · dsimp only at hk ⊢
        rw [List.length_append] at hk
        have hk : k < o.1.length + 1 := hk
        rw [q4]
        by_cases e : k = o.1.length
        · rw [if_pos (by omega), e, List.getElem?_append_right (Nat.le_refl _), Nat.sub_self]
          rfl
        · rw [if_neg (by omega), List.getElem?_append_left (by omega)]
          exact c2 k (by omega)
  · refine mt_kowB q1 oc ⟨by decide, by decide⟩ (fun q => absurd rfl q) ?_
    intro c h3 r1 r2 r3 r4
    have eo : x.bind (owx zc) = none := by
      rcases hR with ⟨a, -⟩ | ⟨o, a, b, c, c1, -⟩
      · rw [a]
        rfl
      · rw [a]
        exact ow_full (by omega)
    rw [eo]
    exact ⟨rfl, r1, r4.wide (fun c hc => ab_swr_ok (by decide) hc), Or.inl ⟨rfl, r2, r3, by rw [me_f (c := 7425) r4 q1 rfl rfl]; exact q2⟩⟩
end CPR
/-! the class prints tokens: separate, letters, digits -/
section CSH
variable {d : Nat} {h : sm_H} {x : Option ox}
theorem cs91 {zw : Int} {q2 : Option mi_V} (hS : ab_Sh sx_sk h) (w0 : 0 ≤ zw) (w1 : zw ≤ 1) (o2 : ∀ v, q2 = some v → mi_ok v) (hR : oC h x) : me_E (d + 2) 139 91 [some (.inr (.inr 108)), some (.inl zw), q2] [] h (fun w h' => w = none ∧ ab_Sh sx_sk h' ∧ ab_Fr [(13833, 13836)] h h' ∧ oC h' (x.map (fun o => (o.1, 0, 0, o.2.2.2))) ∧ mi_f h' 13835 = zw) := by
  refine mt_kosF hS ⟨by omega, by omega⟩ o2 ?_
  refine ⟨⟨w0, w1⟩, fun h1 g1 g2 g3 g4 g5 => ⟨rfl, g1, g5, ?_, g4⟩⟩
  rcases hR with ⟨rfl, b, c, c'⟩ | ⟨o, rfl, b, c, c1, c2, c3, c4, c5⟩
  · exact Or.inl ⟨rfl, (me_f (c := 13827) g5 hS rfl rfl).trans b, (me_f (c := 13836) g5 hS rfl rfl).trans c, by rw [me_f (c := 7425) g5 hS rfl rfl]; exact c'⟩
  · exact Or.inr ⟨_, rfl, (me_f (c := 13827) g5 hS rfl rfl).trans b, (me_f (c := 13836) g5 hS rfl rfl).trans c, (me_f (c := 7425) g5 hS rfl rfl).trans c1, fun k hk => by rw [me_a (k := 59) g5 hS rfl rfl]; exact c2 k hk, g3, g2, (me_f (c := 13832) g5 hS rfl rfl).trans c5⟩
theorem al10 : tx_alc 10 := Or.inl rfl
theorem al32 : tx_alc 32 := Or.inr ⟨by decide, by decide⟩
theorem cs25 {zw i b l : Int} (w0 : 0 ≤ zw) (w1 : zw ≤ 1) (i0 : 0 ≤ i) (i1 : i ≤ 100000) : ∀ (m : Nat) (zk : Int) (h : sm_H) (z : Option (List Int)), 2 * i - zk = m → 0 ≤ zk → ab_Sh sx_sk h → mi_f h 13832 = i → oC h (z.map (fun C => (C, b, l, i))) → me_E (d + 2) 139 25 [some (.inr (.inr 108)), some (.inl zw), some (.inl zk)] [] h (fun w h' => w = none ∧ ab_Sh sx_sk h' ∧ ab_Fr wr_cs h h' ∧ oC h' ((z.bind (owl (List.replicate m 32))).map (fun C => (C, 0, 0, i))) ∧ mi_f h' 13835 = zw) := by
  have owz : mi_in zw := ⟨by omega, by omega⟩
  intro m
  induction m with
  | zero =>
    intro zk h z hm k0 hS hi hR
    have ok : mi_in zk := ⟨by omega, by omega⟩
    refine mt_kosC hS owz ok ?_ (by intros; exfalso; omega) (by intros; exfalso; omega)
    intro b1 c
    refine ⟨by omega, fun h1 g1 g2 => ?_⟩
    have e := me_nil g2
    subst e
    refine (cs91 g1 w0 w1 (me_oi ok) hR).imp (fun w h' hq => ⟨hq.1, hq.2.1, hq.2.2.1.wide (fun c hc => ab_swr_ok (by decide) hc), ?_, hq.2.2.2.2⟩)
    have := hq.2.2.2.1
    cases z with
    | none => exact this
    | some C => exact this
  | succ m ih =>
    intro zk h z hm k0 hS hi hR
    have ok : mi_in zk := ⟨by omega, by omega⟩
    refine mt_kosC hS owz ok (by intros; exfalso; omega) ?_ ?_
    · intro b1 b2 c c'
      refine ⟨by omega, fun h1 g1 g2 => ?_⟩
      have e := me_nil g2
      subst e
      have hz : z = none := by
        rcases hR with ⟨a, -⟩ | ⟨o, -, a, -⟩
        · cases z with
          | none => rfl
          | some C => cases a
        · exact absurd a c'
      subst hz
      refine (cs91 g1 w0 w1 (me_oi ok) hR).imp (fun w h' hq => ⟨hq.1, hq.2.1, hq.2.2.1.wide (fun c hc => ab_swr_ok (by decide) hc), hq.2.2.2.1, hq.2.2.2.2⟩)
    · intro b1 b2 c c'
      refine ⟨by omega, fun h1 g1 g2 => ?_⟩
      have e := me_nil g2
      subst e
      refine ⟨_, me_wrc (d := d) g1 al32 hR, fun w h2 hw hq => ?_⟩
      obtain ⟨rfl, q1, q2, q3⟩ := hq
      refine mt_kosD q1 owz ok ?_
      refine ⟨by omega, fun h3 r1 r2 => ?_⟩
      have e := me_nil r2
      subst e
      have hz : ∃ C, z = some C := by
        rcases hR with ⟨-, a, -⟩ | ⟨o, a, -⟩
        · exfalso; omega
        · cases z with
          | none => cases a
          | some C => exact ⟨C, rfl⟩
      obtain ⟨C, rfl⟩ := hz
      have e3 : ((some C).map (fun C => ((C, b, l, i) : ox))).bind (owx 32) = (Option.map (fun C => (C, b, l, i)) (ow 32 C)) := rfl
      rw [e3] at q3
      refine (ih (zk + 1) h3 _ (by omega) (by omega) q1 ((me_f (c := 13832) q2 g1 rfl rfl).trans hi) q3).imp (fun w h' hq => ⟨hq.1, hq.2.1, (q2.wide (fun c hc => ab_swr_ok (by decide) hc)).trans hq.2.2.1, hq.2.2.2.1, hq.2.2.2.2⟩)
/-- what is due before a token that begins with zc -/
theorem me_sepc {zw zc : Int} (hS : ab_Sh sx_sk h) (w0 : 0 ≤ zw) (w1 : zw ≤ 1) (hzc : zw ≠ 0 ↔ wy zc = true) (i0 : 0 ≤ mi_f h 13832) (i1 : mi_f h 13832 ≤ 100000) (hR : oC h x) (hW : oCw h x) : me_E (d + 2) 139 0 [some (.inr (.inr 108)), some (.inl zw), none] [] h (fun w h' => w = none ∧ ab_Sh sx_sk h' ∧ ab_Fr wr_cs h h' ∧ oC h' (x.bind (ob zc)) ∧ mi_f h' 13835 = zw) := by
  have owz : mi_in zw := ⟨by omega, by omega⟩
  have f91 : ∀ (h1 : sm_H) (y : Option ox), ab_Sh sx_sk h1 → ab_Fr wr_cs h h1 → oC h1 y → y.map (fun o => ((o.1, 0, 0, o.2.2.2) : ox)) = x.bind (ob zc) → me_E (d + 2) 139 91 [some (.inr (.inr 108)), some (.inl zw), none] [] h1 (fun w h' => w = none ∧ ab_Sh sx_sk h' ∧ ab_Fr wr_cs h h' ∧ oC h' (x.bind (ob zc)) ∧ mi_f h' 13835 = zw) := by
    intro h1 y g1 g2 g3 g4
    refine (cs91 g1 w0 w1 me_on g3).imp (fun w h' hq => ⟨hq.1, hq.2.1, g2.trans (hq.2.2.1.wide (fun c hc => ab_swr_ok (by decide) hc)), ?_, hq.2.2.2.2⟩)
    rw [← g4]
    exact hq.2.2.2.1
  have wr91 : ∀ (h1 : sm_H), h1 = h → (∀ o, x = some o → obw zc o = ow 32 o.1) → ∃ Q1, me_E (d + 1) 140 0 (mi_entry 2 [.inr (.inr 108), .inl ((32 : Int))]) [] h1 Q1 ∧ ∀ w h2, (∀ x, w = some x → mi_ok x) → Q1 w h2 → me_E (d + 2) 139 91 [some (.inr (.inr 108)), some (.inl zw), none] (mi_back w []) h2 (fun w h' => w = none ∧ ab_Sh sx_sk h' ∧ ab_Fr wr_cs h h' ∧ oC h' (x.bind (ob zc)) ∧ mi_f h' 13835 = zw) := by
    intro h1 e hx
    subst e
    refine ⟨_, me_wrc (d := d) hS al32 hR, fun w h2 hw hq => ?_⟩
    obtain ⟨rfl, q1, q2, q3⟩ := hq
    refine f91 h2 _ q1 (q2.wide (fun c hc => ab_swr_ok (by decide) hc)) q3 ?_
    cases x with
    | none => rfl
    | some o =>
      show (owx 32 o).map _ = ob zc o
      unfold owx ob
      rw [hx o rfl]
      cases ow 32 o.1 with
      | none => rfl
      | some C => rfl
  have no91 : (∀ o, x = some o → obw zc o = some o.1) → ∀ h1, ab_Sh sx_sk h1 → ab_Fr [] h h1 → me_E (d + 2) 139 91 [some (.inr (.inr 108)), some (.inl zw), none] [] h1 (fun w h' => w = none ∧ ab_Sh sx_sk h' ∧ ab_Fr wr_cs h h' ∧ oC h' (x.bind (ob zc)) ∧ mi_f h' 13835 = zw) := by
    intro hx h1 g1 g2
    have e := me_nil g2
    subst e
    refine f91 h1 x g1 ab_Fr.refl hR ?_
    cases x with
    | none => rfl
    | some o =>
      show _ = ob zc o
      unfold ob
      rw [hx o rfl]
      rfl
  have f57 : (∀ o, x = some o → ¬ (o.1 ≠ [] ∧ o.2.2.1 ≠ 0)) → ∀ h1, ab_Sh sx_sk h1 → ab_Fr [] h h1 → me_E (d + 2) 139 57 [some (.inr (.inr 108)), some (.inl zw), none] [] h1 (fun w h' => w = none ∧ ab_Sh sx_sk h' ∧ ab_Fr wr_cs h h' ∧ oC h' (x.bind (ob zc)) ∧ mi_f h' 13835 = zw) := by
    intro hx h1 g1 g2
    have e := me_nil g2
    subst e
    have ne : ∀ o, x = some o → 0 < mi_f h1 7425 → o.1 ≠ [] ∧ o.2.1 = mi_f h1 13834 ∧ (mi_f h1 13835 ≠ 0 ↔ wy (olc o.1) = true) := fun o ho hp => by
      subst ho
      obtain ⟨-, -, c1, -, c3, -⟩ := oC_len hR
      have e0 : o.1 ≠ [] := fun q => by rw [q] at c1; have : (([] : List Int).length : Int) = 0 := rfl; omega
      exact ⟨e0, c3.symm, hW o rfl e0⟩
    refine mt_kosE g1 owz ?_ ?_ ?_ ?_ ?_
    · intro b c
      refine no91 (fun o ho => ?_)
      subst ho
      obtain ⟨-, -, c1, -⟩ := oC_len hR
      have e0 : o.1 = [] := List.length_eq_zero_iff.mp (by omega)
      unfold obw
      rw [if_neg (hx o rfl), if_neg (fun q => q.1 e0)]
    · intro b b2 c c2 h2 r1 r2
      have e := me_nil r2
      subst e
      refine wr91 _ rfl (fun o ho => ?_)
      obtain ⟨k1, k2, k3⟩ := ne o ho c
      unfold obw
      rw [if_neg (hx o ho), if_pos ⟨k1, Or.inl (by rw [k2]; exact c2)⟩]
    · intro b b2 b3 c c2 c3
      refine no91 (fun o ho => ?_)
      obtain ⟨k1, k2, k3⟩ := ne o ho c
      unfold obw
      rw [if_neg (hx o ho), if_neg (fun q => by
        rcases q.2 with q | q
        · exact q (by rw [k2]; exact c2)
        · exact (k3.mpr q.1) c3)]
    · intro b b2 b3 c c2 c3 c4
      refine no91 (fun o ho => ?_)
      obtain ⟨k1, k2, k3⟩ := ne o ho c
      unfold obw
      rw [if_neg (hx o ho), if_neg (fun q => by
        rcases q.2 with q | q
        · exact q (by rw [k2]; exact c2)
        · exact (hzc.mpr q.2) c4)]
    · intro b b2 b3 c c2 c3 c4 h2 r1 r2
      have e := me_nil r2
      subst e
      refine wr91 _ rfl (fun o ho => ?_)
      obtain ⟨k1, k2, k3⟩ := ne o ho c
      unfold obw
      rw [if_neg (hx o ho), if_pos ⟨k1, Or.inr ⟨k3.mp c3, hzc.mp c4⟩⟩]
  refine mt_kosA hS owz ?_ ?_ ?_
  · intro b c
    refine f57 (fun o ho q => ?_)
    subst ho
    obtain ⟨-, -, c1, -⟩ := oC_len hR
    exact q.1 (List.length_eq_zero_iff.mp (by omega))
  · intro b b2 c c2
    refine f57 (fun o ho q => ?_)
    subst ho
    obtain ⟨-, -, -, -, -, c4, -⟩ := oC_len hR
    exact q.2 (by rw [← c4]; exact c2)
  · intro b b2 c c2 h1 g1 g2
    have e := me_nil g2
    subst e
    refine ⟨_, me_wrc (d := d) g1 al10 hR, fun w h2 hw hq => ?_⟩
    obtain ⟨rfl, q1, q2, q3⟩ := hq
    refine mt_kosB q1 owz ?_
    intro h3 r1 r2
    have e := me_nil r2
    subst e
    have f32 : mi_f h3 13832 = mi_f h1 13832 := me_f (c := 13832) q2 g1 rfl rfl
    have key : ∀ (z : Option (List Int)) (b l : Int), oC h3 (z.map (fun C => (C, b, l, mi_f h1 13832))) → (z.bind (owl (List.replicate (2 * mi_f h1 13832).toNat 32))).map (fun C => ((C, 0, 0, mi_f h1 13832) : ox)) = x.bind (ob zc) → me_E (d + 2) 139 25 [some (.inr (.inr 108)), some (.inl zw), some (.inl 0)] [] h3 (fun w h' => w = none ∧ ab_Sh sx_sk h' ∧ ab_Fr wr_cs h1 h' ∧ oC h' (x.bind (ob zc)) ∧ mi_f h' 13835 = zw) := by
      intro z b l hz he
      refine (cs25 (i := mi_f h1 13832) (b := b) (l := l) w0 w1 i0 i1 (2 * mi_f h1 13832).toNat 0 h3 z (by omega) (by decide) r1 f32 hz).imp (fun w h' hq => ⟨hq.1, hq.2.1, (q2.wide (fun c hc => ab_swr_ok (by decide) hc)).trans hq.2.2.1, ?_, hq.2.2.2.2⟩)
      rw [← he]
      exact hq.2.2.2.1
    cases x with
    | none => exact key none 0 0 q3 rfl
    | some o =>
      obtain ⟨-, -, c1, -, -, c4, c5⟩ := oC_len hR
      have e0 : o.1 ≠ [] := fun q => by rw [q] at c1; have : (([] : List Int).length : Int) = 0 := rfl; omega
      have e3 : (some o).bind (owx 10) = (ow 10 o.1).map (fun C => (C, o.2.1, o.2.2.1, mi_f h1 13832)) := by
        show owx 10 o = _
        unfold owx
        rw [c5]
      rw [e3] at q3
      refine key _ o.2.1 o.2.2.1 q3 ?_
      show _ = ob zc o
      unfold ob obw
      rw [if_pos ⟨e0, by rw [← c4]; exact c2⟩, c5]
end CSH
/-! the class prints tokens: letters, digits, signs -/
/-- at most n letters -/
def lgd : Nat → Int → Prop
  | 0, v => v = 0
  | n + 1, v => v = 0 ∨ (1 ≤ v % 32 ∧ v % 32 ≤ 26 ∧ lgd n (v / 32))
theorem owl_e : ∀ (W C C' : List Int), owl W C = some C' → C' = C ++ W := by
  intro W
  induction W with
  | nil => intro C C' h; injection h with h; rw [← h, List.append_nil]
  | cons c W ih =>
    intro C C' h
    obtain ⟨D, h1, h2⟩ := Option.bind_eq_some_iff.mp h
    unfold ow at h1
    split at h1
    · cases h1
    · injection h1 with h1
      subst h1
      rw [ih _ _ h2, List.append_assoc]
      rfl
/-- behind a token: what it ended with -/
theorem oCw_tok {h' : sm_H} {x : Option ox} {W : List Int} {zw : Int} (hW : W ≠ []) (hc : ∀ c ∈ W, (zw ≠ 0 ↔ wy c = true)) (h5 : mi_f h' 13835 = zw) : oCw h' (x.bind (otk W)) := by
  intro o ho _
  obtain ⟨o0, -, h1⟩ := Option.bind_eq_some_iff.mp ho
  unfold otk at h1
  obtain ⟨o1, h2, h3⟩ := Option.bind_eq_some_iff.mp h1
  unfold owlx at h3
  obtain ⟨C, h4, h6⟩ := Option.map_eq_some_iff.mp h3
  have e := owl_e _ _ _ h4
  rw [← h6]
  dsimp only
  rw [e, h5]
  have : olc (o1.1 ++ W) = W.getLast hW := by
    unfold olc
    rw [List.getLast?_append, List.getLast?_eq_some_getLast hW]
    rfl
  rw [this]
  exact hc _ (List.getLast_mem hW)
theorem lgd_0 : ∀ n : Nat, lgd n 0 := by
  intro n
  cases n with
  | zero => rfl
  | succ n => exact Or.inl rfl
theorem ltf_le : ∀ (n : Nat) (v : Int), lgd n v → ∀ m, n ≤ m → ltf m v = ltf n v := by
  intro n
  induction n with
  | zero =>
    intro v h m _
    have h : v = 0 := h
    subst h
    cases m with
    | zero => rfl
    | succ m =>
      have e : ltf (m + 1) 0 = [] := by rw [ltf, if_neg (by decide)]
      exact e
  | succ n ih =>
    intro v h m hm
    obtain ⟨m, rfl⟩ : ∃ k, m = k + 1 := ⟨m - 1, by omega⟩
    rw [ltf, ltf]
    by_cases c : 0 < v
    · rw [if_pos c, if_pos c]
      rcases h with h | ⟨-, -, h⟩
      · omega
      · rw [ih _ h m (by omega)]
    · rw [if_neg c, if_neg c]
theorem ltf_wy : ∀ (n : Nat) (v : Int), lgd n v → ∀ c ∈ ltf n v, wy c = true ∧ tx_alc c := by
  intro n
  induction n with
  | zero => intro v _ c hc; cases hc
  | succ n ih =>
    intro v h c hc
    rw [ltf] at hc
    by_cases cv : 0 < v
    · rw [if_pos cv] at hc
      rcases h with h | ⟨h1, h2, h3⟩
      · omega
      · rcases List.mem_cons.mp hc with rfl | hc
        · refine ⟨?_, Or.inr ⟨by omega, by omega⟩⟩
          unfold wy
          rw [decide_eq_true_eq]
          omega
        · exact ih _ h3 c hc
    · rw [if_neg cv] at hc
      cases hc
theorem lgd_b : ∀ (n : Nat) (v : Int), 0 ≤ v → lgd n v → v < 32 ^ n := by
  intro n
  induction n with
  | zero => intro v _ h; have h : v = 0 := h; subst h; decide
  | succ n ih =>
    intro v h0 h
    have e : (32 : Int) ^ (n + 1) = 32 ^ n * 32 := Int.pow_succ _ _
    have p : (0 : Int) < 32 ^ n := Int.pow_pos (by decide)
    rcases h with h | ⟨-, -, h⟩
    · omega
    · have := ih (v / 32) (by omega) h
      omega
theorem i32_and31 {z : Int} (h0 : 0 ≤ z) (h1 : z ≤ 1073741823) : (Int32.ofInt z &&& Int32.ofInt ((31 : Int))).toInt = z % 32 := by
  have oz : mi_in z := ⟨by omega, by omega⟩
  have ez : (Int32.ofInt z).toBitVec.toNat = z.toNat := by
    have e1 : (Int32.ofInt z).toBitVec.toInt = z := mi_ti oz
    have e3 := BitVec.toInt_eq_toNat_cond (Int32.ofInt z).toBitVec
    have e4 := (Int32.ofInt z).toBitVec.isLt
    split at e3 <;> omega
  have e31 : (Int32.ofInt ((31 : Int))).toBitVec.toNat = 31 := by decide
  have main : (Int32.ofInt z &&& Int32.ofInt ((31 : Int))).toBitVec.toNat = z.toNat % 32 := by
    rw [Int32.toBitVec_and, BitVec.toNat_and, e31, ez]
    exact Nat.and_two_pow_sub_one_eq_mod _ 5
  show (Int32.ofInt z &&& Int32.ofInt ((31 : Int))).toBitVec.toInt = _
  rw [BitVec.toInt_eq_toNat_of_lt (by rw [main]; omega), main]
  omega
section CTK
variable {d : Nat} {h : sm_H} {x : Option ox}
theorem cc32 {zc : Int} (oc : mi_in zc) : ∀ (n : Nat) (zr zk : Int) (h : sm_H) (x : Option ox), 6 - zk = n → 0 ≤ zk → 0 ≤ zr → zr ≤ 1073741823 → lgd n zr → ab_Sh sx_sk h → oC h x → me_E (d + 3) 141 32 [some (.inr (.inr 108)), some (.inl zc), some (.inl zr), some (.inl zk)] [] h (fun w h' => w = none ∧ ab_Sh sx_sk h' ∧ ab_Fr wr_c3 h h' ∧ oC h' (x.bind (owlx (ltf n zr)))) := by
  intro n
  induction n with
  | zero =>
    intro zr zk h x hn k0 r0 r1 hl hS hR
    refine mt_kocD hS oc ⟨by omega, by omega⟩ ⟨by omega, by omega⟩ ?_ (by intros; exfalso; omega) (by intros; exfalso; omega)
    intro c h1 g1 g2
    have e := me_nil g2
    subst e
    exact ⟨rfl, g1, ab_Fr.refl, by rw [show ltf 0 zr = [] from rfl, onil]; exact hR⟩
  | succ n ih =>
    intro zr zk h x hn k0 r0 r1 hl hS hR
    have oR' : mi_in zr := ⟨by omega, by omega⟩
    have ok : mi_in zk := ⟨by omega, by omega⟩
    refine mt_kocD hS oc oR' ok (by intros; exfalso; omega) ?_ ?_
    · intro c c2 h1 g1 g2
      have e := me_nil g2
      subst e
      refine ⟨rfl, g1, ab_Fr.refl, ?_⟩
      rw [ltf, if_neg (by omega), onil]
      exact hR
    · intro c c2
      rw [i32_and31 r0 r1]
      refine ⟨by omega, fun h1 g1 g2 => ?_⟩
      have e := me_nil g2
      subst e
      rcases hl with hl | ⟨l1, l2, l3⟩
      · exact absurd hl c2
      refine me_i2c (m := 141) (M := (4, 0, sb_141)) rfl rfl (by omega) (by omega) ?_
      refine mt_kocG g1 oc oR' ok ⟨by omega, by omega⟩ ?_
      intro h2 r2 r3
      have e := me_nil r3
      subst e
      refine ⟨_, me_wrc (d := d + 1) r2 (show tx_alc (96 + zr % 32) from Or.inr ⟨by omega, by omega⟩) hR, fun w h3 hw hq => ?_⟩
      obtain ⟨rfl, q1, q2, q3⟩ := hq
      refine mt_kocE q1 oc oR' ok ?_
      intro h4 s1 s2
      have e := me_nil s2
      subst e
      refine me_ush5 (m := 141) (M := (4, 0, sb_141)) rfl rfl r0 r1 ?_
      refine mt_kocH s1 oc oR' ok ⟨by omega, by omega⟩ ?_
      refine ⟨by omega, fun h5 t1 t2 => ?_⟩
      have e := me_nil t2
      subst e
      refine (ih (zr / 32) (zk + 1) h5 _ (by omega) (by omega) (by omega) (by omega) l3 t1 q3).imp (fun w h' hq => ⟨hq.1, hq.2.1, q2.trans hq.2.2.1, ?_⟩)
      have := hq.2.2.2
      rw [obind] at this
      rw [ltf, if_pos (by omega), Int.add_comm]
      exact this
/-- a name, a keyword, a sign -/
theorem me_codec {zc : Int} (hS : ab_Sh sx_sk h) (hz : (0 < zc ∧ lgd 6 zc) ∨ (zc < 0 ∧ tx_alc (-zc) ∧ wy (-zc) = false)) (i0 : 0 ≤ mi_f h 13832) (i1 : mi_f h 13832 ≤ 100000) (hR : oC h x) (hW : oCw h x) : me_E (d + 3) 141 0 [some (.inr (.inr 108)), some (.inl zc), none, none] [] h (fun w h' => w = none ∧ ab_Sh sx_sk h' ∧ ab_Fr wr_cs h h' ∧ oC h' (x.bind (otk (if 0 < zc then lts zc else [-zc]))) ∧ oCw h' (x.bind (otk (if 0 < zc then lts zc else [-zc])))) := by
  have e6 : (32 : Int) ^ 6 = 1073741824 := by decide
  have ub : zc ≤ 1073741823 := by
    rcases hz with ⟨z0, z1⟩ | ⟨z0, -⟩
    · have := lgd_b 6 zc (by omega) z1
      omega
    · omega
  have lb : -200 ≤ zc := by
    rcases hz with ⟨z0, z1⟩ | ⟨z0, z1, -⟩
    · omega
    · unfold tx_alc at z1
      omega
  have oc : mi_in zc := ⟨by omega, by omega⟩
  refine mt_kocA hS oc ?_ ?_
  · -- a sign
    intro c h1 g1 g2
    have e := me_nil g2
    subst e
    obtain ⟨z0, z1, z2⟩ := hz.resolve_left (fun q => by omega)
    refine ⟨_, me_sepc (d := d) (zw := 0) (zc := -zc) g1 (by decide) (by decide) ⟨fun q => absurd rfl q, fun q => by rw [z2] at q; cases q⟩ i0 i1 hR hW, fun w h2 hw hq => ?_⟩
    obtain ⟨rfl, q1, q2, q3, q4⟩ := hq
    refine mt_kocB q1 oc (by intros; exfalso; omega) ?_
    intro c2
    refine ⟨by omega, fun h3 r1 r2 => ?_⟩
    have e := me_nil r2
    subst e
    have z3 := z1
    unfold tx_alc at z3
    refine me_i2c (m := 141) (M := (4, 0, sb_141)) rfl rfl (by omega) (by omega) ?_
    refine mt_kocF r1 oc ⟨by omega, by omega⟩ ?_
    intro h4 s1 s2
    have e := me_nil s2
    subst e
    refine ⟨_, me_wrc (d := d + 1) s1 z1 q3, fun w h5 hw5 hq => ?_⟩
    obtain ⟨rfl, t1, t2, t3⟩ := hq
    refine mt_kocC t1 oc ?_ (by intros; exfalso; omega)
    intro c3 h6 l1 l2
    have e := me_nil l2
    subst e
    have F6 : ab_Fr wr_cs h1 h6 := q2.trans (t2.wide (fun c hc => ab_swr_ok (by decide) hc))
    have eo : (x.bind (ob (-zc))).bind (owx (-zc)) = x.bind (otk [-zc]) := by
      rw [← onil (x := (x.bind _).bind _), obind]
      cases x with
      | none => rfl
      | some o => rfl
    rw [eo] at t3
    rw [if_neg (by omega)]
    refine (cc32 (d := d) oc 6 0 0 h6 _ (by decide) (by decide) (by decide) (by decide) (lgd_0 6) l1 t3).imp (fun w h' hq => ⟨hq.1, hq.2.1, F6.trans (hq.2.2.1.wide (fun c hc => ab_swr_ok (by decide) hc)), ?_, ?_⟩)
    · have := hq.2.2.2
      rw [show ltf 6 0 = [] from rfl, onil] at this
      exact this
    · refine oCw_tok (zw := 0) (by simp) (fun c hc => ?_) ?_
      · rw [List.mem_singleton.mp hc, z2]
        exact ⟨fun q => absurd rfl q, fun q => by cases q⟩
      · rw [me_f (c := 13835) hq.2.2.1 l1 rfl rfl, me_f (c := 13835) t2 s1 rfl rfl]
        exact q4
  · -- letters
    intro c h1 g1 g2
    have e := me_nil g2
    subst e
    obtain ⟨z0, z1⟩ := hz.resolve_right (fun q => by omega)
    have hl : lts zc = ltf 6 zc := ltf_le 6 zc z1 7 (by decide)
    have hwy := ltf_wy 6 zc z1
    have e1 : ltf 6 zc = (zc % 32 + 96) :: ltf 5 (zc / 32) := by rw [ltf, if_pos z0]
    refine ⟨_, me_sepc (d := d) (zw := 1) (zc := zc % 32 + 96) g1 (by decide) (by decide) ⟨fun _ => (hwy _ (by rw [e1]; exact List.mem_cons_self)).1, fun _ => by decide⟩ i0 i1 hR hW, fun w h2 hw hq => ?_⟩
    obtain ⟨rfl, q1, q2, q3, q4⟩ := hq
    refine mt_kocB q1 oc ?_ (by intros; exfalso; omega)
    intro c2 h3 r1 r2
    have e := me_nil r2
    subst e
    refine mt_kocC r1 oc (by intros; exfalso; omega) ?_
    intro c3 h6 l1 l2
    have e := me_nil l2
    subst e
    rw [if_pos z0]
    refine (cc32 (d := d) oc 6 zc 0 h6 _ (by decide) (by decide) (by omega) ub z1 l1 q3).imp (fun w h' hq => ⟨hq.1, hq.2.1, q2.trans (hq.2.2.1.wide (fun c hc => ab_swr_ok (by decide) hc)), ?_, ?_⟩)
    · have := hq.2.2.2
      have eo : (x.bind (ob (zc % 32 + 96))).bind (owlx (ltf 6 zc)) = x.bind (otk (lts zc)) := by
        cases x with
        | none => rfl
        | some o =>
          show (ob (zc % 32 + 96) o).bind _ = otk (lts zc) o
          unfold otk
          rw [hl, e1]
          rfl
      rw [eo] at this
      exact this
    · refine oCw_tok (zw := 1) (by rw [hl, e1]; simp) (fun c hc => ?_) ?_
      · rw [hl] at hc
        exact ⟨fun _ => (hwy c hc).1, fun _ => by decide⟩
      · rw [me_f (c := 13835) hq.2.2.1 l1 rfl rfl]
        exact q4
/-- the digits, from a scale on -/
def cdg (n : Int) : Nat → Int → List Int
  | 0, _ => []
  | k + 1, s => if s ≤ n ∨ s = 1 then (48 + n / s % 10) :: cdg n k (s / 10) else cdg n k (s / 10)
theorem cdg_e {n : Int} (h0 : 0 ≤ n) (h1 : n ≤ 9999) : cdg n 4 1000 = dgs n := by
  have d1 : (1000 : Int) / 10 = 100 := by decide
  have d2 : (100 : Int) / 10 = 10 := by decide
  have d3 : (10 : Int) / 10 = 1 := by decide
  have d4 : (1 : Int) / 10 = 0 := by decide
  have p0 : ¬ (0 : Int) < 0 := by decide
  have f1 : dgf n 2 1 = [48 + n / 1 % 10] := by
    rw [dgf, if_pos (by decide), d4, dgf, if_neg p0]
  have f2 : dgf n 3 10 = (48 + n / 10 % 10) :: dgf n 2 1 := by
    rw [dgf, if_pos (by decide), d3]
  have f3 : dgf n 4 100 = (48 + n / 100 % 10) :: dgf n 3 10 := by
    rw [dgf, if_pos (by decide), d2]
  have z1 : ∀ k : Nat, dgf n (k + 2) 1 = [48 + n / 1 % 10] := fun k => by
    rw [dgf, if_pos (by decide), d4, dgf, if_neg p0]
  have z2 : ∀ k : Nat, dgf n (k + 3) 10 = (48 + n / 10 % 10) :: dgf n (k + 2) 1 := fun k => by
    rw [dgf, if_pos (by decide), d3]
  have z3 : ∀ k : Nat, dgf n (k + 4) 100 = (48 + n / 100 % 10) :: dgf n (k + 3) 10 := fun k => by
    rw [dgf, if_pos (by decide), d2]
  have z4 : ∀ k : Nat, dgf n (k + 5) 1000 = (48 + n / 1000 % 10) :: dgf n (k + 4) 100 := fun k => by
    rw [dgf, if_pos (by decide), d1]
  have c1 : cdg n 1 1 = [48 + n / 1 % 10] := by
    rw [cdg, if_pos (Or.inr rfl)]
    rfl
  have c2 : cdg n 2 10 = if 10 ≤ n ∨ (10 : Int) = 1 then (48 + n / 10 % 10) :: cdg n 1 1 else cdg n 1 1 := by rw [cdg, d3]
  have c3 : cdg n 3 100 = if 100 ≤ n ∨ (100 : Int) = 1 then (48 + n / 100 % 10) :: cdg n 2 10 else cdg n 2 10 := by rw [cdg, d2]
  have c4 : cdg n 4 1000 = if 1000 ≤ n ∨ (1000 : Int) = 1 then (48 + n / 1000 % 10) :: cdg n 3 100 else cdg n 3 100 := by rw [cdg, d1]
  unfold dgs dgu
  by_cases g1 : 999 < n
  · rw [if_pos g1, z4 0, z3 0, z2 0, z1 0, c4, if_pos (by omega), c3, if_pos (by omega), c2, if_pos (by omega), c1]
  · rw [if_neg g1, c4, if_neg (by omega), c3]
    by_cases g2 : 99 < n
    · rw [if_pos g2, z3 1, z2 1, z1 1, if_pos (by omega), c2, if_pos (by omega), c1]
    · rw [if_neg g2, if_neg (by omega), c2]
      by_cases g3 : 9 < n
      · rw [if_pos g3, z2 2, z1 2, if_pos (by omega), c1]
      · rw [if_neg g3, if_neg (by omega), z1 3, c1]
theorem cn9 {zn : Int} (n0 : 0 ≤ zn) (n1 : zn ≤ 9999) : ∀ (k : Nat) (zs : Int) (h : sm_H) (x : Option ox), ((k = 0 ∧ zs = 0) ∨ (k = 1 ∧ zs = 1) ∨ (k = 2 ∧ zs = 10) ∨ (k = 3 ∧ zs = 100) ∨ (k = 4 ∧ zs = 1000)) → ab_Sh sx_sk h → oC h x → me_E (d + 3) 138 9 [some (.inr (.inr 108)), some (.inl zn), some (.inl zs)] [] h (fun w h' => w = none ∧ ab_Sh sx_sk h' ∧ ab_Fr wr_c3 h h' ∧ oC h' (x.bind (owlx (cdg zn k zs)))) := by
  have on : mi_in zn := ⟨by omega, by omega⟩
  intro k
  induction k with
  | zero =>
    intro zs h x hk hS hR
    refine mt_konC hS on ⟨by omega, by omega⟩ ?_ (by intros; exfalso; omega) (by intros; exfalso; omega) (by intros; exfalso; omega)
    intro c h1 g1 g2
    have e := me_nil g2
    subst e
    exact ⟨rfl, g1, ab_Fr.refl, by rw [show cdg zn 0 zs = [] from rfl, onil]; exact hR⟩
  | succ k ih =>
    intro zs h x hk hS hR
    have os : mi_in zs := ⟨by omega, by omega⟩
    have s0 : 0 < zs := by omega
    have s1 : zs ≤ 1000 := by omega
    have dn : 0 ≤ zn / zs := Int.ediv_nonneg n0 (by omega)
    have dl : zn / zs ≤ zn := Int.ediv_le_self _ n0
    -- on to the next scale
    have nx : ∀ (h1 : sm_H) (y : Option ox), ab_Sh sx_sk h1 → ab_Fr wr_c3 h h1 → oC h1 y → me_E (d + 3) 138 37 [some (.inr (.inr 108)), some (.inl zn), some (.inl zs)] [] h1 (fun w h' => w = none ∧ ab_Sh sx_sk h' ∧ ab_Fr wr_c3 h h' ∧ oC h' (y.bind (owlx (cdg zn k (zs / 10))))) := by
      intro h1 y g1 g2 g3
      refine mt_konD g1 on os ?_
      intro h2 r1 r2
      have e := me_nil r2
      subst e
      rw [sh_div zs (by omega) (by omega)]
      exact (ih (zs / 10) h2 y (by omega) r1 g3).imp (fun w h' hq => ⟨hq.1, hq.2.1, g2.trans hq.2.2.1, hq.2.2.2⟩)
    -- a digit
    have dg : (zs ≤ zn ∨ zs = 1) → ∀ h1, ab_Sh sx_sk h1 → ab_Fr [] h h1 → me_E (d + 3) 138 33 [some (.inr (.inr 108)), some (.inl zn), some (.inl zs)] [.inl (48 + zn / zs % 10), .inr (.inr 108)] h1 (fun w h' => w = none ∧ ab_Sh sx_sk h' ∧ ab_Fr wr_c3 h h' ∧ oC h' (x.bind (owlx (cdg zn (k + 1) zs)))) := by
      intro hc h1 g1 g2
      have e := me_nil g2
      subst e
      refine me_i2c (m := 138) (M := (3, 0, sb_138)) rfl rfl (by omega) (by omega) ?_
      refine mt_konE g1 on os ⟨by omega, by omega⟩ ?_
      intro h2 r1 r2
      have e := me_nil r2
      subst e
      refine ⟨_, me_wrc (d := d + 1) r1 (show tx_alc (48 + zn / zs % 10) from Or.inr ⟨by omega, by omega⟩) hR, fun w h3 hw hq => ?_⟩
      obtain ⟨rfl, q1, q2, q3⟩ := hq
      refine (nx h3 _ q1 q2 q3).imp (fun w h' hq => ⟨hq.1, hq.2.1, hq.2.2.1, ?_⟩)
      have := hq.2.2.2
      rw [obind] at this
      rw [cdg, if_pos hc]
      exact this
    refine mt_konC hS on os (by intros; exfalso; omega) ?_ ?_ ?_
    · intro c c2
      rw [sh_divg n0 (by omega) s0 (by omega), sh_modg dn (by omega)]
      exact ⟨by omega, dg (Or.inl c2)⟩
    · intro c c2 c3 h1 g1 g2
      have e := me_nil g2
      subst e
      refine (nx h1 x g1 ab_Fr.refl hR).imp (fun w h' hq => ⟨hq.1, hq.2.1, hq.2.2.1, ?_⟩)
      rw [cdg, if_neg (by omega)]
      exact hq.2.2.2
    · intro c c2 c3
      rw [sh_divg n0 (by omega) s0 (by omega), sh_modg dn (by omega)]
      exact ⟨by omega, dg (Or.inr c3)⟩
theorem dgf_wy {n : Int} : ∀ (k : Nat) (e : Int), ∀ c ∈ dgf n k e, wy c = true := by
  intro k
  induction k with
  | zero => intro e c hc; cases hc
  | succ k ih =>
    intro e c hc
    rw [dgf] at hc
    split at hc
    · rcases List.mem_cons.mp hc with rfl | hc
      · unfold wy
        rw [decide_eq_true_eq]
        omega
      · exact ih _ c hc
    · cases hc
theorem me_numc {zn : Int} (hS : ab_Sh sx_sk h) (n0 : 0 ≤ zn) (n1 : zn ≤ 9999) (i0 : 0 ≤ mi_f h 13832) (i1 : mi_f h 13832 ≤ 100000) (hR : oC h x) (hW : oCw h x) : me_E (d + 3) 138 0 [some (.inr (.inr 108)), some (.inl zn), none] [] h (fun w h' => w = none ∧ ab_Sh sx_sk h' ∧ ab_Fr wr_cs h h' ∧ oC h' (x.bind (otk (dgs zn))) ∧ oCw h' (x.bind (otk (dgs zn)))) := by
  have on : mi_in zn := ⟨by omega, by omega⟩
  have hne : dgs zn = (48 + zn / dgu zn % 10) :: dgf zn 4 (dgu zn / 10) := by
    unfold dgs
    rw [dgf, if_pos (by unfold dgu; split <;> (try split) <;> (try split) <;> decide)]
  have hwy : ∀ c ∈ dgs zn, wy c = true := dgf_wy 5 (dgu zn)
  refine mt_konA hS on ?_
  intro h1 g1 g2
  have e := me_nil g2
  subst e
  refine ⟨_, me_sepc (d := d) (zw := 1) (zc := 48 + zn / dgu zn % 10) g1 (by decide) (by decide) ⟨fun _ => hwy _ (by rw [hne]; exact List.mem_cons_self), fun _ => by decide⟩ i0 i1 hR hW, fun w h2 hw hq => ?_⟩
  obtain ⟨rfl, q1, q2, q3, q4⟩ := hq
  refine mt_konB q1 on ?_
  intro h3 r1 r2
  have e := me_nil r2
  subst e
  refine (cn9 (d := d) n0 n1 4 1000 h3 _ (by omega) r1 q3).imp (fun w h' hq => ⟨hq.1, hq.2.1, q2.trans (hq.2.2.1.wide (fun c hc => ab_swr_ok (by decide) hc)), ?_, ?_⟩)
  · have := hq.2.2.2
    rw [cdg_e n0 n1] at this
    have eo : (x.bind (ob (48 + zn / dgu zn % 10))).bind (owlx (dgs zn)) = x.bind (otk (dgs zn)) := by
      cases x with
      | none => rfl
      | some o =>
        show (ob (48 + zn / dgu zn % 10) o).bind _ = otk (dgs zn) o
        unfold otk
        rw [hne]
        rfl
    rw [eo] at this
    exact this
  · refine oCw_tok (zw := 1) (by rw [hne]; simp) (fun c hc => ⟨fun _ => hwy c hc, fun _ => by decide⟩) ?_
    rw [me_f (c := 13835) hq.2.2.1 r1 rfl rfl]
    exact q4
end CTK
/-! runs of the replay, taken apart; what they append; how many of it stand on top -/
def rn (g : wk_g) (V : Int → Int) (n : Nat) (u : Int) (E : List wk_E) (s s' : gm_S) (L : List (Int × Int)) : Prop := pe_to (dm_st g V u) (dv g V) n (E, s) ([], s') L
/-- a node is left -/
def gm_cl (s : gm_S) : gm_S := (gm_X s, gm_F s, gm_T s, gm_D s - 1, gm_P s)
/-- what a part once does -/
def sgr (g : wk_g) (V : Int → Int) (n : Nat) (u p : Int) (s s' : gm_S) (L : List (Int × Int)) : Prop := ∃ B s1 L1, dm_sg u g V p [] s = some (B, s1) ∧ rn g V n u B s1 s' L1 ∧ L = dv_lf g V p (gm_len s) ++ L1
section RN0
variable {g : wk_g} {V : Int → Int} {n : Nat} {u : Int} {s s' : gm_S} {L : List (Int × Int)}
theorem rn_nil (h : rn g V n u [] s s' L) : s' = s ∧ L = [] := by
  cases n with
  | zero =>
    obtain ⟨h1, h2⟩ := h
    exact ⟨(Prod.mk.inj h1).2.symm, h2⟩
  | succ n =>
    obtain ⟨e, r, c1, L1, h1, -⟩ := h
    cases h1
theorem rn_split {A q : List wk_E} (h : rn g V n u (A ++ q) s s' L) : ∃ n1 n2 s1 L1 L2, n1 ≤ n ∧ n2 ≤ n ∧ rn g V n1 (u + wk_ul q) A s s1 L1 ∧ rn g V n2 u q s1 s' L2 ∧ L = L1 ++ L2 := by
  obtain ⟨n1, s1, L1, L2, h1, h2, h3, h4⟩ := pe_split0 dm_loc n A s L h
  exact ⟨n1, n - n1, s1, L1, L2, h1, Nat.sub_le _ _, h2, h3, h4⟩
theorem rn_cons {e : wk_E} {E : List wk_E} (h : rn g V n u (e :: E) s s' L) : ∃ m B s1 L1, m + 1 = n ∧ dm_st g V (u + wk_ul E) e [] s = some (B, s1) ∧ rn g V m u (B ++ E) s1 s' L1 ∧ L = dv g V e s ++ L1 := by
  cases n with
  | zero =>
    obtain ⟨h1, -⟩ := h
    cases (Prod.mk.inj h1).1
  | succ n =>
    obtain ⟨c1, L1, h2, h3, h4⟩ := pe_cons h
    have hl := dm_loc (g := g) (V := V) u e [] E s
    rw [List.nil_append] at hl
    rw [hl] at h2
    obtain ⟨c0, k1, k2⟩ := Option.map_eq_some_iff.mp h2
    subst k2
    exact ⟨n, c0.1, c0.2, L1, rfl, k1, h3, h4⟩
theorem ul_nil : wk_ul [] = 0 := rfl
/-- one entry is left: a node ends -/
theorem rn_2 {a : Int} (h : rn g V n u [(2, a, 0)] s s' L) : s' = gm_cl s ∧ L = [] := by
  obtain ⟨m, B, s1, L1, h1, h2, h3, h4⟩ := rn_cons h
  rw [dm_st_2] at h2
  injection h2 with h2
  injection h2 with h5 h6
  subst h5
  subst h6
  obtain ⟨h7, h8⟩ := rn_nil h3
  subst h7
  subst h8
  refine ⟨rfl, ?_⟩
  rw [h4]
  unfold dv
  rw [if_neg (show ¬ (2 : Int) = 0 by decide), if_neg (show ¬ (2 : Int) = 5 by decide)]
  rfl
theorem rn_in {a : Int} {E : List wk_E} (h : rn g V n u (E ++ [(2, a, 0)]) s s' L) : ∃ m s2, m ≤ n ∧ rn g V m (u + a) E s s2 L ∧ s' = gm_cl s2 := by
  obtain ⟨n1, n2, s1, L1, L2, h1, h2, h3, h4, h5⟩ := rn_split h
  obtain ⟨h6, h7⟩ := rn_2 h4
  subst h7
  rw [List.append_nil] at h5
  subst h5
  have e : wk_ul [(2, a, 0)] = a := by rw [wk_ul_o, ul_nil, Int.add_zero]
  rw [e] at h3
  exact ⟨n1, s1, h1, h3, h6⟩
theorem dv_lf_n {p c : Int} (h : g 119 p.toNat = 9 ∨ g 119 p.toNat = 10) : dv_lf g V p c = [] := by
  unfold dv_lf
  rw [if_pos h]
theorem dv_lf_y {p c : Int} (h9 : g 119 p.toNat ≠ 9) (h10 : g 119 p.toNat ≠ 10) : dv_lf g V p c = [(p, V c)] := by
  unfold dv_lf
  rw [if_neg (fun q => by rcases q with q | q; exact h9 q; exact h10 q)]
/-- a use -/
theorem sgr_9 {p : Int} (h9 : g 119 p.toNat = 9) (h : sgr g V n u p s s' L) : u < 12 ∧ ∃ t m s2, gm_c 1 (g 115 (g 120 p.toNat).toNat) s = some t ∧ m ≤ n ∧ rn g V m (u + 1) [(1, wk_rf g p, 0)] (gm_d t) s2 L ∧ s' = gm_cl s2 := by
  obtain ⟨B, s1, L1, h1, h2, h3⟩ := h
  rw [dv_lf_n (Or.inl h9), List.nil_append] at h3
  subst h3
  unfold dm_sg at h1
  rw [if_pos h9] at h1
  unfold pm_en at h1
  rw [ul_nil] at h1
  by_cases c : 12 ≤ u + 0
  · rw [if_pos c] at h1
    cases h1
  · rw [if_neg c] at h1
    obtain ⟨t, k1, k2⟩ := Option.map_eq_some_iff.mp h1
    injection k2 with k3 k4
    subst k3
    subst k4
    obtain ⟨m, s2, m1, m2, m3⟩ := rn_in (E := [(1, g 114 (g 115 (g 120 p.toNat).toNat).toNat, 0)]) h2
    exact ⟨by omega, t, m, s2, k1, m1, m2, m3⟩
theorem sgr_10 {p : Int} (h10 : g 119 p.toNat = 10) (h : sgr g V n u p s s' L) : rn g V n u [(1, g 120 p.toNat, 0)] s s' L := by
  obtain ⟨B, s1, L1, h1, h2, h3⟩ := h
  rw [dv_lf_n (Or.inr h10), List.nil_append] at h3
  subst h3
  unfold dm_sg at h1
  rw [if_neg (by omega), if_pos h10] at h1
  injection h1 with h1
  injection h1 with k3 k4
  subst k3
  subst k4
  exact h2
theorem sgr_lf {p : Int} (h9 : g 119 p.toNat ≠ 9) (h10 : g 119 p.toNat ≠ 10) (h : sgr g V n u p s s' L) : L = [(p, V (gm_len s))] ∧ ((g 119 p.toNat = 1 ∧ gm_c 2 (V (gm_len s)) s = some s') ∨ (g 119 p.toNat = 2 ∧ gm_c 3 (V (gm_len s)) s = some s') ∨ (g 119 p.toNat ≠ 1 ∧ g 119 p.toNat ≠ 2 ∧ s' = s)) := by
  obtain ⟨B, s1, L1, h1, h2, h3⟩ := h
  rw [dv_lf_y h9 h10] at h3
  unfold dm_sg at h1
  rw [if_neg h9, if_neg h10] at h1
  obtain ⟨t, k1, k2⟩ := Option.map_eq_some_iff.mp h1
  injection k2 with k3 k4
  subst k3
  subst k4
  obtain ⟨h4, h5⟩ := rn_nil h2
  subst h4
  subst h5
  refine ⟨h3, ?_⟩
  unfold dm_lf at k1
  by_cases c1 : g 119 p.toNat = 1
  · rw [if_pos c1] at k1
    exact Or.inl ⟨c1, k1⟩
  · rw [if_neg c1] at k1
    by_cases c2 : g 119 p.toNat = 2
    · rw [if_pos c2] at k1
      exact Or.inr (Or.inl ⟨c2, k1⟩)
    · rw [if_neg c2] at k1
      injection k1 with k1
      exact Or.inr (Or.inr ⟨c1, c2, k1.symm⟩)
/-- a unit: many -/
theorem rn_u1 {p o : Int} (c1 : g 122 p.toNat = 1) (h : rn g V n u [(0, p, o)] s s' L) : ∃ t m s2, gm_c 5 (V (gm_len (gm_op o s))) (gm_op o s) = some t ∧ m < n ∧ rn g V m u [(5, p, V (gm_len (gm_op o s)))] (gm_d t) s2 L ∧ s' = gm_cl s2 := by
  obtain ⟨m, B, s1, L1, h1, h2, h3, h4⟩ := rn_cons h
  rw [dm_st_0, ul_nil, Int.add_zero] at h2
  unfold dm_u at h2
  rw [if_pos c1] at h2
  obtain ⟨t, k1, k2⟩ := Option.map_eq_some_iff.mp h2
  injection k2 with k3 k4
  subst k3
  subst k4
  have e : dv g V (0, p, o) s = [] := by
    unfold dv
    rw [if_pos rfl, if_pos c1]
  rw [e, List.nil_append] at h4
  subst h4
  obtain ⟨m', s2, m1, m2, m3⟩ := rn_in (E := [(5, p, V (gm_len (gm_op o s)))]) h3
  rw [Int.add_zero] at m2
  exact ⟨t, m', s2, k1, by omega, m2, m3⟩
/-- .. maybe -/
theorem rn_u2 {p o : Int} (c2 : g 122 p.toNat = 2) (h : rn g V n u [(0, p, o)] s s' L) : ∃ t, gm_c 6 (V (gm_len (gm_op o s))) (gm_op o s) = some t ∧ ((0 < V (gm_len (gm_op o s)) ∧ ∃ m s2, m < n ∧ sgr g V m u p (gm_d t) s2 L ∧ s' = gm_cl s2) ∨ (¬ 0 < V (gm_len (gm_op o s)) ∧ L = [] ∧ s' = gm_cl (gm_d t))) := by
  obtain ⟨m, B, s1, L1, h1, h2, h3, h4⟩ := rn_cons h
  rw [dm_st_0, ul_nil, Int.add_zero] at h2
  have el : gm_len s = gm_len (gm_op o s) := gm_op_e.2.symm
  have e : dv g V (0, p, o) s = if 0 < V (gm_len (gm_op o s)) then dv_lf g V p (gm_len (gm_op o s) + 1) else [] := by
    unfold dv
    rw [if_pos rfl, if_neg (show ¬ g 122 p.toNat = 1 by omega), if_pos c2, el]
  rw [e] at h4
  unfold dm_u at h2
  rw [if_neg (by omega), if_pos c2] at h2
  obtain ⟨t, k1, k2⟩ := Option.bind_eq_some_iff.mp h2
  refine ⟨t, k1, ?_⟩
  by_cases c : 0 < V (gm_len (gm_op o s))
  · rw [if_pos c] at k2 h4
    have hl := dm_sg_loc (l := u) (g := g) (V := V) (u := p) (r := []) (q := [(2, 0, 0)]) (s := gm_d t)
    rw [List.nil_append] at hl
    rw [hl] at k2
    obtain ⟨c0, x1, x2⟩ := Option.map_eq_some_iff.mp k2
    injection x2 with x3 x4
    subst x3
    subst x4
    have e0 : u + wk_ul [(2, 0, 0)] = u := by rw [wk_ul_o, ul_nil]; omega
    rw [e0] at x1
    rw [List.append_nil] at h3
    obtain ⟨m', s2, m1, m2, m3⟩ := rn_in h3
    rw [Int.add_zero] at m2
    obtain ⟨l1, l2⟩ := gm_c_len k1
    have el2 : gm_len (gm_d t) = gm_len (gm_op o s) + 1 := by
      unfold gm_len
      rw [gm_d_T, l2]
      omega
    exact Or.inl ⟨c, m', s2, by omega, ⟨c0.1, c0.2, L1, x1, m2, by rw [h4, el2]⟩, m3⟩
  · rw [if_neg c] at k2 h4
    injection k2 with k2
    injection k2 with x3 x4
    subst x3
    subst x4
    obtain ⟨m1, m2⟩ := rn_2 h3
    subst m2
    exact Or.inr ⟨c, h4, m1⟩
/-- .. once -/
theorem rn_u0 {p o : Int} (c1 : g 122 p.toNat ≠ 1) (c2 : g 122 p.toNat ≠ 2) (h : rn g V n u [(0, p, o)] s s' L) : ∃ m, m < n ∧ sgr g V m u p (gm_op o s) s' L := by
  obtain ⟨m, B, s1, L1, h1, h2, h3, h4⟩ := rn_cons h
  rw [dm_st_0, ul_nil, Int.add_zero] at h2
  unfold dm_u at h2
  rw [if_neg c1, if_neg c2] at h2
  rw [List.append_nil] at h3
  refine ⟨m, by omega, B, s1, L1, h2, h3, ?_⟩
  rw [h4]
  unfold dv
  rw [if_pos rfl, if_neg c1, if_neg c2, gm_op_e.2]
/-- once more -/
theorem rn_5 {p a : Int} (h : rn g V n u [(5, p, a)] s s' L) : (0 < a ∧ ∃ m1 m2 s1 L1 L2, m1 < n ∧ m2 < n ∧ sgr g V m1 u p s s1 L1 ∧ rn g V m2 u [(5, p, a - 1)] s1 s' L2 ∧ L = L1 ++ L2) ∨ (¬ 0 < a ∧ s' = s ∧ L = []) := by
  obtain ⟨m, B, s1, L1, h1, h2, h3, h4⟩ := rn_cons h
  rw [dm_st_5, ul_nil, Int.add_zero] at h2
  rw [List.append_nil] at h3
  have e : dv g V (5, p, a) s = if 0 < a then dv_lf g V p (gm_len s) else [] := by
    unfold dv
    rw [if_neg (show ¬ (5 : Int) = 0 by decide), if_pos rfl]
  rw [e] at h4
  unfold dm_ag at h2
  by_cases c : 0 < a
  · rw [if_pos c] at h2 h4
    have hl := dm_sg_loc (l := u) (g := g) (V := V) (u := p) (r := []) (q := [(5, p, a - 1)]) (s := s)
    rw [List.nil_append] at hl
    rw [hl] at h2
    obtain ⟨c0, x1, x2⟩ := Option.map_eq_some_iff.mp h2
    injection x2 with x3 x4
    subst x3
    subst x4
    have e0 : u + wk_ul [(5, p, a - 1)] = u := by rw [wk_ul_c (by decide), ul_nil]; omega
    rw [e0] at x1
    obtain ⟨n1, n2, s2, M1, M2, i1, i2, i3, i4, i5⟩ := rn_split h3
    rw [e0] at i3
    exact Or.inl ⟨c, n1, n2, s2, _, M2, by omega, by omega, ⟨c0.1, c0.2, M1, x1, i3, rfl⟩, i4, by rw [h4, i5, List.append_assoc]⟩
  · rw [if_neg c] at h2 h4
    injection h2 with h2
    injection h2 with x3 x4
    subst x3
    subst x4
    obtain ⟨k1, k2⟩ := rn_nil h3
    exact Or.inr ⟨c, k1, by rw [h4, k2]; rfl⟩
theorem dv_1 {f a : Int} : dv g V (1, f, a) s = [] := by
  unfold dv
  rw [if_neg (show ¬ (1 : Int) = 0 by decide), if_neg (show ¬ (1 : Int) = 5 by decide)]
/-- a form: a choice -/
theorem rn_f1 {f a : Int} (c : 1 < g 130 f.toNat) (h : rn g V n u [(1, f, a)] s s' L) : (0 ≤ V (gm_len s) ∧ V (gm_len s) < g 130 f.toNat) ∧ ∃ t m s2, gm_c 4 (V (gm_len s)) s = some t ∧ m < n ∧ rn g V m u (wk_it g 61 (g 126 (wk_alt g (V (gm_len s)).toNat (g 129 f.toNat)).toNat)) (gm_d t) s2 L ∧ s' = gm_cl s2 := by
  obtain ⟨m, B, s1, L1, h1, h2, h3, h4⟩ := rn_cons h
  rw [dv_1, List.nil_append] at h4
  subst h4
  rw [dm_st_1] at h2
  unfold dm_fo at h2
  rw [if_pos c] at h2
  by_cases cv : 0 ≤ V (gm_len s) ∧ V (gm_len s) < g 130 f.toNat
  · rw [if_pos cv] at h2
    obtain ⟨t, k1, k2⟩ := Option.map_eq_some_iff.mp h2
    injection k2 with k3 k4
    subst k3
    subst k4
    rw [List.append_nil] at h3
    obtain ⟨m', s2, m1, m2, m3⟩ := rn_in h3
    rw [Int.add_zero] at m2
    exact ⟨cv, t, m', s2, k1, by omega, m2, m3⟩
  · rw [if_neg cv] at h2
    cases h2
theorem rn_f0 {f a : Int} (c : ¬ 1 < g 130 f.toNat) (h : rn g V n u [(1, f, a)] s s' L) : ∃ m, m < n ∧ rn g V m u (wk_it g 61 (g 126 (g 129 f.toNat).toNat)) s s' L := by
  obtain ⟨m, B, s1, L1, h1, h2, h3, h4⟩ := rn_cons h
  rw [dv_1, List.nil_append] at h4
  subst h4
  rw [dm_st_1] at h2
  unfold dm_fo at h2
  rw [if_neg c] at h2
  injection h2 with h2
  injection h2 with k3 k4
  subst k3
  subst k4
  rw [List.append_nil, List.append_nil] at h3
  exact ⟨m, by omega, h3⟩
theorem ul_it {N : Nat} {p : Int} : wk_ul (wk_it g N p) = 0 := by
  have := wk_ul_it (g := g) (N := N) (u := p) (r := [])
  rw [List.append_nil] at this
  exact this
/-- an item -/
theorem rn_i0 {e : wk_E} {N : Nat} {p : Int} (h : rn g V n u (e :: wk_it g N p) s s' L) : ∃ n1 n2 s1 L1 L2, n1 ≤ n ∧ n2 ≤ n ∧ rn g V n1 u [e] s s1 L1 ∧ rn g V n2 u (wk_it g N p) s1 s' L2 ∧ L = L1 ++ L2 := by
  obtain ⟨n1, n2, s1, L1, L2, h1, h2, h3, h4, h5⟩ := rn_split (A := [e]) (q := wk_it g N p) h
  rw [ul_it, Int.add_zero] at h3
  exact ⟨n1, n2, s1, L1, L2, h1, h2, h3, h4, h5⟩
/-- a pair -/
theorem rn_i1 {N : Nat} {a b p : Int} (h : rn g V n u ((0, a, 1) :: (3, 0, 0) :: (0, b, 0) :: (4, 0, 0) :: wk_it g N p) s s' L) : ∃ n1 n2 n3 s1 s2 L1 L2 L3, n1 ≤ n ∧ n2 ≤ n ∧ n3 ≤ n ∧ rn g V n1 u [(0, a, 1)] s s1 L1 ∧ rn g V n2 u [(0, b, 0)] (gm_mid s1) s2 L2 ∧ rn g V n3 u (wk_it g N p) (gm_tu s2) s' L3 ∧ L = L1 ++ (L2 ++ L3) := by
  have e4 : wk_ul ((4, 0, 0) :: wk_it g N p) = 0 := by rw [wk_ul_c (by decide), ul_it]
  have e3 : wk_ul ((3, 0, 0) :: (0, b, 0) :: (4, 0, 0) :: wk_it g N p) = 0 := by rw [wk_ul_c (by decide), wk_ul_c (by decide), e4]
  obtain ⟨n1, n2, s1, L1, L2, h1, h2, h3, h4, h5⟩ := rn_split (A := [(0, a, 1)]) (q := (3, 0, 0) :: (0, b, 0) :: (4, 0, 0) :: wk_it g N p) h
  rw [e3, Int.add_zero] at h3
  obtain ⟨m, B, s2, L3, k1, k2, k3, k4⟩ := rn_cons h4
  rw [dm_st_3] at k2
  injection k2 with k2
  injection k2 with x3 x4
  subst x3
  subst x4
  have d3 : dv g V (3, 0, 0) s1 = [] := by
    unfold dv
    rw [if_neg (show ¬ (3 : Int) = 0 by decide), if_neg (show ¬ (3 : Int) = 5 by decide)]
  rw [d3, List.nil_append] at k4
  subst k4
  obtain ⟨m1, m2, s3, L4, L5, i1, i2, i3, i4, i5⟩ := rn_split (A := [(0, b, 0)]) (q := (4, 0, 0) :: wk_it g N p) k3
  rw [e4, Int.add_zero] at i3
  obtain ⟨m', B, s4, L6, y1, y2, y3, y4⟩ := rn_cons i4
  rw [dm_st_4] at y2
  injection y2 with y2
  injection y2 with x3 x4
  subst x3
  subst x4
  have d4 : dv g V (4, 0, 0) s3 = [] := by
    unfold dv
    rw [if_neg (show ¬ (4 : Int) = 0 by decide), if_neg (show ¬ (4 : Int) = 5 by decide)]
  rw [d4, List.nil_append] at y4
  subst y4
  exact ⟨n1, m1, m', s1, s3, L1, L4, L5, h1, by omega, by omega, h3, i3, y3, by rw [h5, i5]⟩
end RN0
/-! what a run appends -/
def tpc (D : Int) (A : List (Int × Int × Int)) : Int := ((A.filter (fun x => decide (x.2.2 = D))).length : Int)
def apt (k : Int) (s s' : gm_S) : Prop := gm_D s' = gm_D s ∧ gm_P s' = gm_P s ∧ ∃ A, gm_T s' = gm_T s ++ A ∧ fo (gm_D s) A ∧ tpc (gm_D s) A = k
theorem tpc_app {D : Int} {A B : List (Int × Int × Int)} : tpc D (A ++ B) = tpc D A + tpc D B := by
  unfold tpc
  rw [List.filter_append, List.length_append]
  omega
theorem tpc_0 {D : Int} {A : List (Int × Int × Int)} (h : fo (D + 1) A) : tpc D A = 0 := by
  unfold tpc
  rw [List.filter_eq_nil_iff.mpr (fun x hx => by
    have := h.1 x hx
    rw [decide_eq_true_eq]
    omega)]
  rfl
theorem tpc_cons {D k v : Int} {A : List (Int × Int × Int)} (h : fo (D + 1) A) : tpc D ((k, v, D) :: A) = 1 := by
  have e := tpc_app (D := D) (A := [(k, v, D)]) (B := A)
  rw [tpc_0 h] at e
  have e1 : tpc D [(k, v, D)] = 1 := by
    unfold tpc
    rw [List.filter_cons, if_pos (by rw [decide_eq_true_eq])]
    rfl
  rw [e1] at e
  exact e
section APT
variable {s s1 s2 s' t : gm_S} {a b k v : Int}
theorem apt_refl : apt 0 s s := ⟨rfl, rfl, [], (List.append_nil _).symm, fo_nil, rfl⟩
theorem apt_trans (h1 : apt a s s1) (h2 : apt b s1 s2) : apt (a + b) s s2 := by
  obtain ⟨x1, x2, A, x3, x4, x5⟩ := h1
  obtain ⟨y1, y2, B, y3, y4, y5⟩ := h2
  rw [x1] at y4 y5
  exact ⟨y1.trans x1, y2.trans x2, A ++ B, by rw [y3, x3, List.append_assoc], fo_app x4 y4, by rw [tpc_app, x5, y5]⟩
theorem cl_T : gm_T (gm_cl s) = gm_T s := by unfold gm_cl; rw [gm_T_mk]
theorem cl_D : gm_D (gm_cl s) = gm_D s - 1 := by unfold gm_cl; rw [gm_D_mk]
theorem cl_P : gm_P (gm_cl s) = gm_P s := by unfold gm_cl; rw [gm_P_mk]
/-- a node with all that is in it, told openly -/
theorem node_T {A : List (Int × Int × Int)} (h : gm_c k v s = some t) (hA : gm_T s2 = gm_T (gm_d t) ++ A) : gm_T (gm_cl s2) = gm_T s ++ (k + 10 * ((gm_T s).length : Int), v, gm_D s) :: A := by
  obtain ⟨-, -, t3, -, -⟩ := gm_c_t h
  rw [cl_T, hA, gm_d_T, t3, List.append_assoc]
  rfl
theorem apt_node (h : gm_c k v s = some t) (h2 : apt a (gm_d t) s2) : apt 1 s (gm_cl s2) := by
  obtain ⟨x1, x2, A, x3, x4, x5⟩ := h2
  obtain ⟨-, -, t3, t4, t5⟩ := gm_c_t h
  obtain ⟨-, -, d3, d4⟩ := gm_d_e (t := t)
  rw [d3, t4] at x1 x4
  rw [d4, t5] at x2
  exact ⟨by rw [cl_D, x1]; omega, by rw [cl_P, x2], _, node_T h x3, fo_cons x4, tpc_cons x4⟩
theorem apt_leaf (h : gm_c k v s = some t) : apt 1 s t := by
  obtain ⟨-, -, t3, t4, t5⟩ := gm_c_t h
  exact ⟨t4, t5, _, t3, fo_one, tpc_cons fo_nil⟩
/-- a pair: what comes second stands first -/
theorem pair_T {A B : List (Int × Int × Int)} (p1 : gm_P s1 = gm_P (gm_op 1 s)) (a1 : gm_T s1 = gm_T (gm_op 1 s) ++ A) (p2 : gm_P s2 = gm_P (gm_mid s1)) (a2 : gm_T s2 = gm_T (gm_mid s1) ++ B) : gm_T (gm_tu s2) = gm_T s ++ (B ++ A) ∧ gm_P (gm_tu s2) = gm_P s ∧ gm_D (gm_tu s2) = gm_D s2 := by
  have oP : gm_P (gm_op 1 s) = ((gm_T s).length, 0) :: gm_P s := by unfold gm_op; rw [if_pos rfl, gm_P_mk]
  have mP : gm_P (gm_mid s1) = ((gm_T s).length, (gm_T s1).length) :: gm_P s := by unfold gm_mid; rw [gm_P_mk, p1, oP]
  rw [gm_op_t] at a1
  rw [gm_mid_T] at a2
  rw [mP] at p2
  have etu : gm_tu s2 = (gm_X s2, gm_F s2, gm_rot (gm_T s).length (gm_T s1).length (gm_T s2), gm_D s2, gm_P s) := by
    unfold gm_tu
    rw [p2]
  refine ⟨?_, by rw [etu, gm_P_mk], by rw [etu, gm_D_mk]⟩
  rw [etu, gm_T_mk, a2, a1]
  exact gm_rot_pre
theorem apt_pair (h1 : apt a (gm_op 1 s) s1) (h2 : apt b (gm_mid s1) s2) : apt (a + b) s (gm_tu s2) := by
  obtain ⟨x1, x2, A, x3, x4, x5⟩ := h1
  obtain ⟨y1, y2, B, y3, y4, y5⟩ := h2
  have mD : gm_D (gm_mid s1) = gm_D s1 := by unfold gm_mid; rw [gm_D_mk]
  have oD : gm_D (gm_op 1 s) = gm_D s := gm_op_e.1
  obtain ⟨z1, z2, z3⟩ := pair_T x2 x3 y2 y3
  rw [oD] at x1 x4 x5
  rw [mD, x1] at y1 y4 y5
  exact ⟨z3.trans y1, z2, B ++ A, z1, fo_app y4 x4, by rw [tpc_app, x5, y5]; omega⟩
end APT
/-- tops of items -/
def itt (t : Int → Int) : List wk_E → Int
  | [] => 0
  | e :: r => (if e.1 = 0 then t e.2.1 else 0) + itt t r
/-- the tops, told of all units -/
def tt_G (t : Int → Int) (g : wk_g) (Y : wk_Y) : Prop := ∀ p, 0 ≤ p → p < wk_u Y → (g 122 p.toNat ≠ 0 → t p = 1) ∧ (g 122 p.toNat = 0 → ((g 119 p.toNat = 1 ∨ g 119 p.toNat = 2 ∨ g 119 p.toNat = 9) → t p = 1) ∧ (g 119 p.toNat = 10 → t p = if 1 < g 130 (g 120 p.toNat).toNat then 1 else itt t (wk_it g 61 (g 126 (g 129 (g 120 p.toNat).toNat).toNat))) ∧ (g 119 p.toNat ≠ 1 → g 119 p.toNat ≠ 2 → g 119 p.toNat ≠ 9 → g 119 p.toNat ≠ 10 → t p = 0))
def ftt (t : Int → Int) (g : wk_g) (f : Int) : Int := if 1 < g 130 f.toNat then 1 else itt t (wk_it g 61 (g 126 (g 129 f.toNat).toNat))
def sgt (t : Int → Int) (g : wk_g) (p : Int) : Int := if g 119 p.toNat = 1 ∨ g 119 p.toNat = 2 ∨ g 119 p.toNat = 9 then 1 else if g 119 p.toNat = 10 then ftt t g (g 120 p.toNat) else 0
section TOP
variable {g : wk_g} {V : Int → Int} {Y : wk_Y} {t : Int → Int}
def tpq_F (g : wk_g) (V : Int → Int) (Y : wk_Y) (t : Int → Int) (N : Nat) : Prop := ∀ n, n < N → ∀ u f s s' L, 0 ≤ f → f < wk_f Y → rn g V n u [(1, f, 0)] s s' L → apt (ftt t g f) s s'
theorem tpq_sg {N : Nat} (hL : wk_L g Y) (hF : tpq_F g V Y t N) {n : Nat} {u p : Int} {s s' : gm_S} {L : List (Int × Int)} (hn : n < N) (p0 : 0 ≤ p) (p1 : p < wk_u Y) (h : sgr g V n u p s s' L) : apt (sgt t g p) s s' := by
  obtain ⟨-, -, -, l9, l10, -⟩ := hL.2.2.1 p p0 p1
  unfold sgt
  by_cases c9 : g 119 p.toNat = 9
  · rw [if_pos (Or.inr (Or.inr c9))]
    obtain ⟨-, t', m, s2, h1, h2, h3, h4⟩ := sgr_9 c9 h
    obtain ⟨-, -, -, -, r1, r2, -⟩ := l9 c9
    subst h4
    exact apt_node h1 (hF m (by omega) _ _ _ _ _ r1 r2 h3)
  · by_cases c10 : g 119 p.toNat = 10
    · rw [if_neg (by omega), if_pos c10]
      obtain ⟨x1, x2, -⟩ := l10 c10
      exact hF n hn _ _ _ _ _ x1 x2 (sgr_10 c10 h)
    · obtain ⟨-, h2⟩ := sgr_lf c9 c10 h
      rcases h2 with ⟨a, b⟩ | ⟨a, b⟩ | ⟨a, b, c⟩
      · rw [if_pos (Or.inl a)]
        exact apt_leaf b
      · rw [if_pos (Or.inr (Or.inl a))]
        exact apt_leaf b
      · rw [if_neg (by omega), if_neg c10, c]
        exact apt_refl
theorem tpq_5 {N : Nat} (hL : wk_L g Y) (hF : tpq_F g V Y t N) {u p : Int} (p0 : 0 ≤ p) (p1 : p < wk_u Y) : ∀ (k : Nat) (a : Int) (n : Nat) (s s' : gm_S) (L : List (Int × Int)), a ≤ k → n ≤ N → rn g V n u [(5, p, a)] s s' L → ∃ j, apt j s s' := by
  intro k
  induction k with
  | zero =>
    intro a n s s' L ha hn h
    rcases rn_5 h with ⟨c, -⟩ | ⟨-, c, -⟩
    · omega
    · rw [c]
      exact ⟨0, apt_refl⟩
  | succ k ih =>
    intro a n s s' L ha hn h
    rcases rn_5 h with ⟨c, m1, m2, s1, L1, L2, h1, h2, h3, h4, -⟩ | ⟨-, c, -⟩
    · obtain ⟨j, hj⟩ := ih (a - 1) m2 s1 s' L2 (by omega) (by omega) h4
      exact ⟨_, apt_trans (tpq_sg hL hF (by omega) p0 p1 h3) hj⟩
    · rw [c]
      exact ⟨0, apt_refl⟩
theorem tpq_u {N : Nat} (hL : wk_L g Y) (hT : tt_G t g Y) (hr : ∀ p, 0 ≤ p → p < wk_u Y → 0 ≤ g 122 p.toNat ∧ g 122 p.toNat ≤ 2) (hF : tpq_F g V Y t N) {n : Nat} {u p o : Int} {s s' : gm_S} {L : List (Int × Int)} (hn : n ≤ N) (p0 : 0 ≤ p) (p1 : p < wk_u Y) (h : rn g V n u [(0, p, o)] s s' L) : apt (t p) (gm_op o s) s' := by
  obtain ⟨t1, t2⟩ := hT p p0 p1
  have hr := hr p p0 p1
  by_cases c1 : g 122 p.toNat = 1
  · obtain ⟨t', m, s2, h1, h2, h3, h4⟩ := rn_u1 c1 h
    obtain ⟨j, hj⟩ := tpq_5 hL hF p0 p1 (V (gm_len (gm_op o s))).toNat _ m _ _ _ (by omega) (by omega) h3
    rw [h4, t1 (by omega)]
    exact apt_node h1 hj
  · by_cases c2 : g 122 p.toNat = 2
    · obtain ⟨t', h1, h2⟩ := rn_u2 c2 h
      rw [t1 (by omega)]
      rcases h2 with ⟨-, m, s2, h3, h4, h5⟩ | ⟨-, -, h5⟩
      · rw [h5]
        exact apt_node h1 (tpq_sg hL hF (by omega) p0 p1 h4)
      · rw [h5]
        exact apt_node h1 apt_refl
    · obtain ⟨m, h1, h2⟩ := rn_u0 c1 c2 h
      have e : t p = sgt t g p := by
        obtain ⟨a1, a2, a3⟩ := t2 (by omega)
        unfold sgt ftt
        by_cases q : g 119 p.toNat = 1 ∨ g 119 p.toNat = 2 ∨ g 119 p.toNat = 9
        · rw [if_pos q]
          exact a1 q
        · rw [if_neg q]
          by_cases q2 : g 119 p.toNat = 10
          · rw [if_pos q2]
            exact a2 q2
          · rw [if_neg q2]
            exact a3 (by omega) (by omega) (by omega) q2
      rw [e]
      exact tpq_sg hL hF (by omega) p0 p1 h2
theorem tpq_it {N : Nat} (hL : wk_L g Y) (hT : tt_G t g Y) (hr : ∀ p, 0 ≤ p → p < wk_u Y → 0 ≤ g 122 p.toNat ∧ g 122 p.toNat ≤ 2) (hF : tpq_F g V Y t N) {u : Int} : ∀ (K : Nat) (p : Int) (n : Nat) (s s' : gm_S) (L : List (Int × Int)), n ≤ N → (p < 0 ∨ p < wk_u Y) → rn g V n u (wk_it g K p) s s' L → apt (itt t (wk_it g K p)) s s' := by
  intro K
  induction K with
  | zero =>
    intro p n s s' L hn hp h
    have h : rn g V n u [] s s' L := h
    rw [(rn_nil h).1]
    exact apt_refl
  | succ K ih =>
    intro p n s s' L hn hp h
    by_cases c : p < 0
    · have e : wk_it g (K + 1) p = [] := by rw [wk_it, if_pos c]
      rw [e] at h ⊢
      rw [(rn_nil h).1]
      exact apt_refl
    · have hp : p < wk_u Y := by omega
      obtain ⟨-, lm, ln, -⟩ := hL.2.2.1 p (by omega) hp
      have nx : g 125 p.toNat < 0 ∨ g 125 p.toNat < wk_u Y := by
        by_cases q : 0 ≤ g 125 p.toNat
        · exact Or.inr (ln q).1
        · exact Or.inl (by omega)
      by_cases cm : 0 ≤ g 124 p.toNat
      · have e : wk_it g (K + 1) p = (0, p, 1) :: (3, 0, 0) :: (0, g 124 p.toNat, 0) :: (4, 0, 0) :: wk_it g K (g 125 p.toNat) := by rw [wk_it, if_neg c, if_pos cm]
        rw [e] at h ⊢
        obtain ⟨n1, n2, n3, s1, s2, L1, L2, L3, h1, h2, h3, h4, h5, h6, -⟩ := rn_i1 h
        have a1 := tpq_u hL hT hr hF (by omega) (by omega) hp h4
        have a2 := tpq_u hL hT hr hF (by omega) cm (lm cm).1 h5
        have a3 := ih _ _ _ _ _ (by omega) nx h6
        have o0 : gm_op 0 (gm_mid s1) = gm_mid s1 := by unfold gm_op; rw [if_neg (by decide)]
        rw [o0] at a2
        have := apt_trans (apt_pair a1 a2) a3
        have ei : itt t ((0, p, 1) :: (3, 0, 0) :: (0, g 124 p.toNat, 0) :: (4, 0, 0) :: wk_it g K (g 125 p.toNat)) = t p + t (g 124 p.toNat) + itt t (wk_it g K (g 125 p.toNat)) := by
          show (if (0 : Int) = 0 then t p else 0) + ((if (3 : Int) = 0 then t 0 else 0) + ((if (0 : Int) = 0 then t (g 124 p.toNat) else 0) + ((if (4 : Int) = 0 then t 0 else 0) + itt t (wk_it g K (g 125 p.toNat))))) = _
          rw [if_pos rfl, if_pos rfl, if_neg (by decide), if_neg (by decide)]
          omega
        rw [ei]
        exact this
      · have e : wk_it g (K + 1) p = (0, p, 0) :: wk_it g K (g 125 p.toNat) := by rw [wk_it, if_neg c, if_neg cm]
        rw [e] at h ⊢
        obtain ⟨n1, n2, s1, L1, L2, h1, h2, h3, h4, -⟩ := rn_i0 h
        have a1 := tpq_u hL hT hr hF (by omega) (by omega) hp h3
        have a3 := ih _ _ _ _ _ (by omega) nx h4
        have o0 : gm_op 0 s = s := by unfold gm_op; rw [if_neg (by decide)]
        rw [o0] at a1
        have ei : itt t ((0, p, 0) :: wk_it g K (g 125 p.toNat)) = t p + itt t (wk_it g K (g 125 p.toNat)) := by
          show (if (0 : Int) = 0 then t p else 0) + itt t (wk_it g K (g 125 p.toNat)) = _
          rw [if_pos rfl]
        rw [ei]
        exact apt_trans a1 a3
theorem tpq_all (hL : wk_L g Y) (hT : tt_G t g Y) (hr : ∀ p, 0 ≤ p → p < wk_u Y → 0 ≤ g 122 p.toNat ∧ g 122 p.toNat ≤ 2) : ∀ N : Nat, tpq_F g V Y t N := by
  intro N
  induction N with
  | zero => intro n hn; omega
  | succ N ih =>
    intro n hn u f s s' L f0 f1 h
    obtain ⟨-, -, d3, -, -, d5⟩ := hL.2.2.2 f f0 f1
    unfold ftt
    by_cases c : 1 < g 130 f.toNat
    · rw [if_pos c]
      obtain ⟨cv, t', m, s2, h1, h2, h3, h4⟩ := rn_f1 c h
      rw [h4]
      obtain ⟨-, -, p8⟩ := d5 (V (gm_len s)).toNat (by omega)
      exact apt_node h1 (tpq_it hL hT hr ih 61 _ m _ _ _ (by omega) (by omega) h3)
    · rw [if_neg c]
      obtain ⟨m, h1, h2⟩ := rn_f0 c h
      obtain ⟨-, -, p8⟩ := d5 0 (by omega)
      have p8 : g 126 (g 129 f.toNat).toNat < 0 ∨ (g 126 (g 129 f.toNat).toNat < wk_u Y ∧ wk_c Y (g 126 (g 129 f.toNat).toNat) = f) := p8
      exact tpq_it hL hT hr ih 61 _ m _ _ _ (by omega) (by omega) h2
end TOP
