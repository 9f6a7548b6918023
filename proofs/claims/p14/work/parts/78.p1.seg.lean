/-! segments: plus, form -/
set_option maxRecDepth 20000 in
theorem mp_plA_0 (h : sm_H) (d : Nat) : mi_path [(193, (2, 0, sb_193))] sx_sk h 4 [] (d + 9, 193, 0, [some (.inr (.inr 109)), none], [], [], []) = some ((d + 9, 193, 6, [some (.inr (.inr 109)), some (.inl (mi_f h 14000))], [.inr (.inr 109)], [], []), []) := rfl
theorem mi_tab_plA_0 : ∀ e ∈ ([(193, (2, 0, sb_193))] : mi_T), sc_P e.1 = some e.2 := mi_tb mi_P193 (mi_tb_e)
set_option maxRecDepth 20000 in
theorem ms_plA_0 {h : sm_H} {d : Nat} {Q : Option mi_V → sm_H → Prop} (hS : ab_Sh sx_sk h)  (kon : ∀ h1, me_W [] h h1 → ∃ Q1, me_E (d + 8) 177 0 (mi_entry 4 [.inr (.inr 109)]) [] h1 Q1 ∧ ∀ w h2, (∀ x, w = some x → mi_ok x) → Q1 w h2 → me_E (d + 9) 193 9 [some (.inr (.inr 109)), some (.inl (mi_f h 14000))] (mi_back w []) h2 Q) : me_E (d + 9) 193 0 [some (.inr (.inr 109)), none] [] h Q := me_seg (mp_plA_0 h d ) (mi_tab_plA_0) hS (mi_okL_c (trivial) (mi_okL_n (mi_okL_e))) (mi_okS_e) (mi_al_e) (fun h1 W _ hst => let ⟨_, k1, k2⟩ := kon h1 W; me_call (M := (2, 0, sb_193)) (M' := (4, 0, sb_177)) rfl rfl rfl rfl (Nat.le_of_ble_eq_true rfl) (Nat.le_of_ble_eq_true rfl) W.1 k1 k2)
set_option maxRecDepth 20000 in
theorem mt_plA {h : sm_H} {d : Nat} {Q : Option mi_V → sm_H → Prop} (hS : ab_Sh sx_sk h)  (k0 : (∀ h1, ab_Sh sx_sk h1 → ab_Fr [] h h1 → ∃ Q1, me_E (d + 8) 177 0 (mi_entry 4 [.inr (.inr 109)]) [] h1 Q1 ∧ ∀ w h2, (∀ x, w = some x → mi_ok x) → Q1 w h2 → me_E (d + 9) 193 9 [some (.inr (.inr 109)), some (.inl (mi_f h 14000))] (mi_back w []) h2 Q)) : me_E (d + 9) 193 0 [some (.inr (.inr 109)), none] [] h Q := ms_plA_0 hS (fun h1 W => (k0) h1 W.1 (W.2.2.2.2.2 _ rfl))
set_option maxRecDepth 20000 in
theorem mp_plB_0 (h : sm_H) (d : Nat) (zb : Int) : mi_path [(193, (2, 0, sb_193))] sx_sk h 5 [1] (d + 9, 193, 9, [some (.inr (.inr 109)), some (.inl (zb))], [], [], []) = some ((d + 9, 193, 25, [some (.inr (.inr 109)), some (.inl (zb))], [.inr (.inr 109)], [], []), [(mi_f h 14001) = ((43 : Int))]) := rfl
theorem mi_tab_plB_0 : ∀ e ∈ ([(193, (2, 0, sb_193))] : mi_T), sc_P e.1 = some e.2 := mi_tb mi_P193 (mi_tb_e)
set_option maxRecDepth 20000 in
theorem ms_plB_0 {h : sm_H} {d : Nat} {Q : Option mi_V → sm_H → Prop} {zb : Int} (hS : ab_Sh sx_sk h) (ok_zb : mi_in zb) (ho : ((mi_f h 14001) = ((43 : Int)))) (kon : ∀ h1, me_W [] h h1 → ∃ Q1, me_E (d + 8) 177 0 (mi_entry 4 [.inr (.inr 109)]) [] h1 Q1 ∧ ∀ w h2, (∀ x, w = some x → mi_ok x) → Q1 w h2 → me_E (d + 9) 193 28 [some (.inr (.inr 109)), some (.inl (zb))] (mi_back w []) h2 Q) : me_E (d + 9) 193 9 [some (.inr (.inr 109)), some (.inl (zb))] [] h Q := me_seg (mp_plB_0 h d zb) (mi_tab_plB_0) hS (mi_okL_c (trivial) (mi_okL_c (ok_zb) (mi_okL_e))) (mi_okS_e) (mi_al (ho) (mi_al_e)) (fun h1 W _ hst => let ⟨_, k1, k2⟩ := kon h1 W; me_call (M := (2, 0, sb_193)) (M' := (4, 0, sb_177)) rfl rfl rfl rfl (Nat.le_of_ble_eq_true rfl) (Nat.le_of_ble_eq_true rfl) W.1 k1 k2)
set_option maxRecDepth 20000 in
theorem mp_plB_1 (h : sm_H) (d : Nat) (zb : Int) : mi_path [(193, (2, 0, sb_193))] sx_sk h 7 [0] (d + 9, 193, 9, [some (.inr (.inr 109)), some (.inl (zb))], [], [], []) = some ((d + 9, 193, 23, [some (.inr (.inr 109)), some (.inl (zb))], [], [.inl (14000, zb)], []), [(mi_f h 14001) ≠ ((43 : Int)), 0 ≤ zb ∧ zb ≤ 2147483647]) := rfl
theorem mi_tab_plB_1 : ∀ e ∈ ([(193, (2, 0, sb_193))] : mi_T), sc_P e.1 = some e.2 := mi_tb mi_P193 (mi_tb_e)
set_option maxRecDepth 20000 in
theorem ms_plB_1 {h : sm_H} {d : Nat} {Q : Option mi_V → sm_H → Prop} {zb : Int} (hS : ab_Sh sx_sk h) (ok_zb : mi_in zb) (ho : ((mi_f h 14001) ≠ ((43 : Int))) ∧ (0 ≤ zb ∧ zb ≤ 2147483647)) (kon : ∀ h1, me_W [.inl (14000, zb)] h h1 → Q none h1) : me_E (d + 9) 193 9 [some (.inr (.inr 109)), some (.inl (zb))] [] h Q := me_seg (mp_plB_1 h d zb) (mi_tab_plB_1) hS (mi_okL_c (trivial) (mi_okL_c (ok_zb) (mi_okL_e))) (mi_okS_e) (mi_al (ho.1) (mi_al (ho.2) (mi_al_e))) (fun h1 W _ hst => me_ret (M := (2, 0, sb_193)) rfl rfl rfl hst (mi_al_e) (kon h1 W))
set_option maxRecDepth 20000 in
theorem mt_plB {h : sm_H} {d : Nat} {Q : Option mi_V → sm_H → Prop} {zb : Int} (hS : ab_Sh sx_sk h) (ok_zb : mi_in zb) (k0 : ((-2147483648) ≤ mi_f h 14001 ∧ mi_f h 14001 ≤ 2147483647) → ((mi_f h 14001) = ((43 : Int))) → (∀ h1, ab_Sh sx_sk h1 → ab_Fr [] h h1 → ∃ Q1, me_E (d + 8) 177 0 (mi_entry 4 [.inr (.inr 109)]) [] h1 Q1 ∧ ∀ w h2, (∀ x, w = some x → mi_ok x) → Q1 w h2 → me_E (d + 9) 193 28 [some (.inr (.inr 109)), some (.inl (zb))] (mi_back w []) h2 Q)) (k1 : ((-2147483648) ≤ mi_f h 14001 ∧ mi_f h 14001 ≤ 2147483647) → ((mi_f h 14001) ≠ ((43 : Int))) → ((0 ≤ zb ∧ zb ≤ 2147483647)) ∧ (∀ h1, ab_Sh sx_sk h1 → mi_f h1 14000 = zb → ab_Fr [(14000, 14001)] h h1 → Q none h1)) : me_E (d + 9) 193 9 [some (.inr (.inr 109)), some (.inl (zb))] [] h Q := Or.elim (mi_em .eq ((mi_f h 14001)) (((43 : Int)))) (fun c0 => ms_plB_0 hS ok_zb (c0) (fun h1 W => (k0 (me_fb hS rfl) c0) h1 W.1 (W.2.2.2.2.2 _ rfl))) (fun c0 => ms_plB_1 hS ok_zb ⟨c0, (k1 (me_fb hS rfl) c0).1⟩ (fun h1 W => (k1 (me_fb hS rfl) c0).2 h1 W.1 (W.2.1 14000) (W.2.2.2.2.2 _ rfl)))
set_option maxRecDepth 20000 in
theorem mp_plC_0 (h : sm_H) (d : Nat) (zb : Int) : mi_path [(193, (2, 0, sb_193))] sx_sk h 8 [1] (d + 9, 193, 28, [some (.inr (.inr 109)), some (.inl (zb))], [], [], []) = some ((d + 9, 193, 61, [some (.inr (.inr 109)), some (.inl (zb))], [.inl (mi_f h 14002), .inl ((1 : Int)), .inr (.inr 109)], [], []), [(mi_f h 14001) ≠ ((5 : Int))]) := rfl
theorem mi_tab_plC_0 : ∀ e ∈ ([(193, (2, 0, sb_193))] : mi_T), sc_P e.1 = some e.2 := mi_tb mi_P193 (mi_tb_e)
set_option maxRecDepth 20000 in
theorem ms_plC_0 {h : sm_H} {d : Nat} {Q : Option mi_V → sm_H → Prop} {zb : Int} (hS : ab_Sh sx_sk h) (ok_zb : mi_in zb) (ho : ((mi_f h 14001) ≠ ((5 : Int)))) (kon : ∀ h1, me_W [] h h1 → ∃ Q1, me_E (d + 8) 184 0 (mi_entry 3 [.inr (.inr 109), .inl ((1 : Int)), .inl (mi_f h 14002)]) [] h1 Q1 ∧ ∀ w h2, (∀ x, w = some x → mi_ok x) → Q1 w h2 → me_E (d + 9) 193 64 [some (.inr (.inr 109)), some (.inl (zb))] (mi_back w []) h2 Q) : me_E (d + 9) 193 28 [some (.inr (.inr 109)), some (.inl (zb))] [] h Q := me_seg (mp_plC_0 h d zb) (mi_tab_plC_0) hS (mi_okL_c (trivial) (mi_okL_c (ok_zb) (mi_okL_e))) (mi_okS_e) (mi_al (ho) (mi_al_e)) (fun h1 W _ hst => let ⟨_, k1, k2⟩ := kon h1 W; me_call (M := (2, 0, sb_193)) (M' := (3, 0, sb_184)) rfl rfl rfl rfl (Nat.le_of_ble_eq_true rfl) (Nat.le_of_ble_eq_true rfl) W.1 k1 k2)
set_option maxRecDepth 20000 in
theorem mp_plC_1 (h : sm_H) (d : Nat) (zb : Int) : mi_path [(193, (2, 0, sb_193))] sx_sk h 15 [0, 8] (d + 9, 193, 28, [some (.inr (.inr 109)), some (.inl (zb))], [], [], []) = some ((d + 9, 193, 64, [some (.inr (.inr 109)), some (.inl (zb))], [], [.inr (.inr (.inl (120, Int.toNat ((mi_f h 13963) - ((1 : Int))), (mx_l h 14004).toInt32.toInt)))], []), [(mi_f h 14001) = ((5 : Int)), -2147483648 ≤ (mi_f h 13963) - ((1 : Int)) ∧ (mi_f h 13963) - ((1 : Int)) ≤ 2147483647, 0 ≤ ((mi_f h 13963) - ((1 : Int))) ∧ ((mi_f h 13963) - ((1 : Int))) < 60]) := rfl
theorem mi_tab_plC_1 : ∀ e ∈ ([(193, (2, 0, sb_193))] : mi_T), sc_P e.1 = some e.2 := mi_tb mi_P193 (mi_tb_e)
set_option maxRecDepth 20000 in
theorem ms_plC_1 {h : sm_H} {d : Nat} {Q : Option mi_V → sm_H → Prop} {zb : Int} (hS : ab_Sh sx_sk h) (ok_zb : mi_in zb) (ho : ((mi_f h 14001) = ((5 : Int))) ∧ (-2147483648 ≤ (mi_f h 13963) - ((1 : Int)) ∧ (mi_f h 13963) - ((1 : Int)) ≤ 2147483647) ∧ (0 ≤ ((mi_f h 13963) - ((1 : Int))) ∧ ((mi_f h 13963) - ((1 : Int))) < 60)) (kon : ∀ h1, me_W [.inr (.inr (.inl (120, Int.toNat ((mi_f h 13963) - ((1 : Int))), (mx_l h 14004).toInt32.toInt)))] h h1 → Q none h1) : me_E (d + 9) 193 28 [some (.inr (.inr 109)), some (.inl (zb))] [] h Q := me_seg (mp_plC_1 h d zb) (mi_tab_plC_1) hS (mi_okL_c (trivial) (mi_okL_c (ok_zb) (mi_okL_e))) (mi_okS_e) (mi_al (ho.1) (mi_al (ho.2.1) (mi_al (ho.2.2) (mi_al_e)))) (fun h1 W _ hst => me_ret (M := (2, 0, sb_193)) rfl rfl rfl hst (mi_al_e) (kon h1 W))
set_option maxRecDepth 20000 in
theorem mt_plC {h : sm_H} {d : Nat} {Q : Option mi_V → sm_H → Prop} {zb : Int} (hS : ab_Sh sx_sk h) (ok_zb : mi_in zb) (k0 : ((-2147483648) ≤ mi_f h 14001 ∧ mi_f h 14001 ≤ 2147483647) → ((mi_f h 14001) ≠ ((5 : Int))) → (∀ h1, ab_Sh sx_sk h1 → ab_Fr [] h h1 → ∃ Q1, me_E (d + 8) 184 0 (mi_entry 3 [.inr (.inr 109), .inl ((1 : Int)), .inl (mi_f h 14002)]) [] h1 Q1 ∧ ∀ w h2, (∀ x, w = some x → mi_ok x) → Q1 w h2 → me_E (d + 9) 193 64 [some (.inr (.inr 109)), some (.inl (zb))] (mi_back w []) h2 Q)) (k1 : ((-2147483648) ≤ mi_f h 14001 ∧ mi_f h 14001 ≤ 2147483647) → (0 ≤ mi_f h 13963 ∧ mi_f h 13963 ≤ 60) → ((mi_f h 14001) = ((5 : Int))) → ((-2147483648 ≤ (mi_f h 13963) - ((1 : Int)) ∧ (mi_f h 13963) - ((1 : Int)) ≤ 2147483647) ∧ (0 ≤ ((mi_f h 13963) - ((1 : Int))) ∧ ((mi_f h 13963) - ((1 : Int))) < 60)) ∧ (∀ h1, ab_Sh sx_sk h1 → (∀ i, mi_a h1 120 i = if i = Int.toNat ((mi_f h 13963) - ((1 : Int))) then (mx_l h 14004).toInt32.toInt else (mi_a h 120 i)) → ab_Fr [(15360, 15361)] h h1 → Q none h1)) : me_E (d + 9) 193 28 [some (.inr (.inr 109)), some (.inl (zb))] [] h Q := Or.elim (mi_em .ne ((mi_f h 14001)) (((5 : Int)))) (fun c0 => ms_plC_0 hS ok_zb (c0) (fun h1 W => (k0 (me_fb hS rfl) c0) h1 W.1 (W.2.2.2.2.2 _ rfl))) (fun c0 => ms_plC_1 hS ok_zb ⟨c0, (k1 (me_fb hS rfl) (me_fb hS rfl) c0).1.1, (k1 (me_fb hS rfl) (me_fb hS rfl) c0).1.2⟩ (fun h1 W => (k1 (me_fb hS rfl) (me_fb hS rfl) c0).2 h1 W.1 (fun i => W.2.2.1 120 i) (W.2.2.2.2.2 _ rfl)))
set_option maxRecDepth 20000 in
theorem mp_plD_0 (h : sm_H) (d : Nat) (zb : Int) : mi_path [(193, (2, 0, sb_193))] sx_sk h 0 [] (d + 9, 193, 64, [some (.inr (.inr 109)), some (.inl (zb))], [], [], []) = some ((d + 9, 193, 64, [some (.inr (.inr 109)), some (.inl (zb))], [], [], []), []) := rfl
theorem mi_tab_plD_0 : ∀ e ∈ ([(193, (2, 0, sb_193))] : mi_T), sc_P e.1 = some e.2 := mi_tb mi_P193 (mi_tb_e)
set_option maxRecDepth 20000 in
theorem ms_plD_0 {h : sm_H} {d : Nat} {Q : Option mi_V → sm_H → Prop} {zb : Int} (hS : ab_Sh sx_sk h) (ok_zb : mi_in zb) (kon : ∀ h1, me_W [] h h1 → Q none h1) : me_E (d + 9) 193 64 [some (.inr (.inr 109)), some (.inl (zb))] [] h Q := me_seg (mp_plD_0 h d zb) (mi_tab_plD_0) hS (mi_okL_c (trivial) (mi_okL_c (ok_zb) (mi_okL_e))) (mi_okS_e) (mi_al_e) (fun h1 W _ hst => me_ret (M := (2, 0, sb_193)) rfl rfl rfl hst (mi_al_e) (kon h1 W))
set_option maxRecDepth 20000 in
theorem mt_plD {h : sm_H} {d : Nat} {Q : Option mi_V → sm_H → Prop} {zb : Int} (hS : ab_Sh sx_sk h) (ok_zb : mi_in zb) (k0 : (∀ h1, ab_Sh sx_sk h1 → ab_Fr [] h h1 → Q none h1)) : me_E (d + 9) 193 64 [some (.inr (.inr 109)), some (.inl (zb))] [] h Q := ms_plD_0 hS ok_zb (fun h1 W => (k0) h1 W.1 (W.2.2.2.2.2 _ rfl))
set_option maxRecDepth 20000 in
theorem mp_fmA_0 (h : sm_H) (d : Nat) : mi_path [(186, (9, 0, sb_186))] sx_sk h 5 [] (d + 12, 186, 0, [some (.inr (.inr 109)), none, none, none, none, none, none, none, none], [], [], []) = some ((d + 12, 186, 7, [some (.inr (.inr 109)), none, none, none, none, none, none, none, none], [.inl ((0 : Int)), .inr (.inr 109)], [.inl (14003, (0 : Int))], []), [0 ≤ ((0 : Int)) ∧ ((0 : Int)) ≤ 5]) := rfl
theorem mi_tab_fmA_0 : ∀ e ∈ ([(186, (9, 0, sb_186))] : mi_T), sc_P e.1 = some e.2 := mi_tb mi_P186 (mi_tb_e)
set_option maxRecDepth 20000 in
theorem ms_fmA_0 {h : sm_H} {d : Nat} {Q : Option mi_V → sm_H → Prop} (hS : ab_Sh sx_sk h)  (ho : (0 ≤ ((0 : Int)) ∧ ((0 : Int)) ≤ 5)) (kon : ∀ h1, me_W [.inl (14003, (0 : Int))] h h1 → ∃ Q1, me_E (d + 11) 187 0 (mi_entry 4 [.inr (.inr 109), .inl ((0 : Int))]) [] h1 Q1 ∧ ∀ w h2, (∀ x, w = some x → mi_ok x) → Q1 w h2 → me_E (d + 12) 186 10 [some (.inr (.inr 109)), none, none, none, none, none, none, none, none] (mi_back w []) h2 Q) : me_E (d + 12) 186 0 [some (.inr (.inr 109)), none, none, none, none, none, none, none, none] [] h Q := me_seg (mp_fmA_0 h d ) (mi_tab_fmA_0) hS (mi_okL_c (trivial) (mi_okL_n (mi_okL_n (mi_okL_n (mi_okL_n (mi_okL_n (mi_okL_n (mi_okL_n (mi_okL_n (mi_okL_e)))))))))) (mi_okS_e) (mi_al (ho) (mi_al_e)) (fun h1 W _ hst => let ⟨_, k1, k2⟩ := kon h1 W; me_call (M := (9, 0, sb_186)) (M' := (4, 0, sb_187)) rfl rfl rfl rfl (Nat.le_of_ble_eq_true rfl) (Nat.le_of_ble_eq_true rfl) W.1 k1 k2)
set_option maxRecDepth 20000 in
theorem mt_fmA {h : sm_H} {d : Nat} {Q : Option mi_V → sm_H → Prop} (hS : ab_Sh sx_sk h)  (k0 : (∀ h1, ab_Sh sx_sk h1 → mi_f h1 14003 = (0 : Int) → ab_Fr [(14003, 14004)] h h1 → ∃ Q1, me_E (d + 11) 187 0 (mi_entry 4 [.inr (.inr 109), .inl ((0 : Int))]) [] h1 Q1 ∧ ∀ w h2, (∀ x, w = some x → mi_ok x) → Q1 w h2 → me_E (d + 12) 186 10 [some (.inr (.inr 109)), none, none, none, none, none, none, none, none] (mi_back w []) h2 Q)) : me_E (d + 12) 186 0 [some (.inr (.inr 109)), none, none, none, none, none, none, none, none] [] h Q := ms_fmA_0 hS ((by decide)) (fun h1 W => (k0) h1 W.1 (W.2.1 14003) (W.2.2.2.2.2 _ rfl))
set_option maxRecDepth 20000 in
theorem mp_fmB_0 (h : sm_H) (d : Nat) : mi_path [(186, (9, 0, sb_186))] sx_sk h 10 [] (d + 12, 186, 10, [some (.inr (.inr 109)), none, none, none, none, none, none, none, none], [], [], []) = some ((d + 12, 186, 22, [some (.inr (.inr 109)), some (.inl ((1 : Int))), some (.inl ((0 : Int))), some (.inl ((0 : Int))), some (.inl ((1 : Int))), some (.inl ((0 : Int))), none, none, none], [], [], []), []) := rfl
theorem mi_tab_fmB_0 : ∀ e ∈ ([(186, (9, 0, sb_186))] : mi_T), sc_P e.1 = some e.2 := mi_tb mi_P186 (mi_tb_e)
set_option maxRecDepth 20000 in
theorem ms_fmB_0 {h : sm_H} {d : Nat} {Q : Option mi_V → sm_H → Prop} (hS : ab_Sh sx_sk h)  (kon : ∀ h1, me_W [] h h1 → me_E (d + 12) 186 22 [some (.inr (.inr 109)), some (.inl ((1 : Int))), some (.inl ((0 : Int))), some (.inl ((0 : Int))), some (.inl ((1 : Int))), some (.inl ((0 : Int))), none, none, none] [] h1 Q) : me_E (d + 12) 186 10 [some (.inr (.inr 109)), none, none, none, none, none, none, none, none] [] h Q := me_seg (mp_fmB_0 h d ) (mi_tab_fmB_0) hS (mi_okL_c (trivial) (mi_okL_n (mi_okL_n (mi_okL_n (mi_okL_n (mi_okL_n (mi_okL_n (mi_okL_n (mi_okL_n (mi_okL_e)))))))))) (mi_okS_e) (mi_al_e) (fun h1 W _ hst => kon h1 W)
set_option maxRecDepth 20000 in
theorem mt_fmB {h : sm_H} {d : Nat} {Q : Option mi_V → sm_H → Prop} (hS : ab_Sh sx_sk h)  (k0 : (∀ h1, ab_Sh sx_sk h1 → ab_Fr [] h h1 → me_E (d + 12) 186 22 [some (.inr (.inr 109)), some (.inl ((1 : Int))), some (.inl ((0 : Int))), some (.inl ((0 : Int))), some (.inl ((1 : Int))), some (.inl ((0 : Int))), none, none, none] [] h1 Q)) : me_E (d + 12) 186 10 [some (.inr (.inr 109)), none, none, none, none, none, none, none, none] [] h Q := ms_fmB_0 hS (fun h1 W => (k0) h1 W.1 (W.2.2.2.2.2 _ rfl))
set_option maxRecDepth 20000 in
theorem mp_fmC_0 (h : sm_H) (d : Nat) (zd zw zp zm zt : Int) (q6 q7 q8 : Option mi_V) : mi_path [(186, (9, 0, sb_186))] sx_sk h 3 [1] (d + 12, 186, 22, [some (.inr (.inr 109)), some (.inl (zd)), some (.inl (zw)), some (.inl (zp)), some (.inl (zm)), some (.inl (zt)), q6, q7, q8], [], [], []) = some ((d + 12, 186, 430, [some (.inr (.inr 109)), some (.inl (zd)), some (.inl (zw)), some (.inl (zp)), some (.inl (zm)), some (.inl (zt)), q6, q7, q8], [], [], []), [((300 : Int)) ≤ zt]) := rfl
theorem mi_tab_fmC_0 : ∀ e ∈ ([(186, (9, 0, sb_186))] : mi_T), sc_P e.1 = some e.2 := mi_tb mi_P186 (mi_tb_e)
set_option maxRecDepth 20000 in
theorem ms_fmC_0 {h : sm_H} {d : Nat} {Q : Option mi_V → sm_H → Prop} {zd zw zp zm zt : Int} {q6 q7 q8 : Option mi_V} (hS : ab_Sh sx_sk h) (ok_zd : mi_in zd) (ok_zw : mi_in zw) (ok_zp : mi_in zp) (ok_zm : mi_in zm) (ok_zt : mi_in zt) (ok_q6 : ∀ v, q6 = some v → mi_ok v) (ok_q7 : ∀ v, q7 = some v → mi_ok v) (ok_q8 : ∀ v, q8 = some v → mi_ok v) (ho : (((300 : Int)) ≤ zt)) (kon : ∀ h1, me_W [] h h1 → Q none h1) : me_E (d + 12) 186 22 [some (.inr (.inr 109)), some (.inl (zd)), some (.inl (zw)), some (.inl (zp)), some (.inl (zm)), some (.inl (zt)), q6, q7, q8] [] h Q := me_seg (mp_fmC_0 h d zd zw zp zm zt q6 q7 q8) (mi_tab_fmC_0) hS (mi_okL_c (trivial) (mi_okL_c (ok_zd) (mi_okL_c (ok_zw) (mi_okL_c (ok_zp) (mi_okL_c (ok_zm) (mi_okL_c (ok_zt) (mi_okL_o ok_q6 (mi_okL_o ok_q7 (mi_okL_o ok_q8 (mi_okL_e)))))))))) (mi_okS_e) (mi_al (ho) (mi_al_e)) (fun h1 W _ hst => me_ret (M := (9, 0, sb_186)) rfl rfl rfl hst (mi_al_e) (kon h1 W))
set_option maxRecDepth 20000 in
theorem mp_fmC_1 (h : sm_H) (d : Nat) (zd zw zp zm zt : Int) (q6 q7 q8 : Option mi_V) : mi_path [(186, (9, 0, sb_186))] sx_sk h 5 [0, 1] (d + 12, 186, 22, [some (.inr (.inr 109)), some (.inl (zd)), some (.inl (zw)), some (.inl (zp)), some (.inl (zm)), some (.inl (zt)), q6, q7, q8], [], [], []) = some ((d + 12, 186, 430, [some (.inr (.inr 109)), some (.inl (zd)), some (.inl (zw)), some (.inl (zp)), some (.inl (zm)), some (.inl (zt)), q6, q7, q8], [], [], []), [zt < ((300 : Int)), zm = ((0 : Int))]) := rfl
theorem mi_tab_fmC_1 : ∀ e ∈ ([(186, (9, 0, sb_186))] : mi_T), sc_P e.1 = some e.2 := mi_tb mi_P186 (mi_tb_e)
set_option maxRecDepth 20000 in
theorem ms_fmC_1 {h : sm_H} {d : Nat} {Q : Option mi_V → sm_H → Prop} {zd zw zp zm zt : Int} {q6 q7 q8 : Option mi_V} (hS : ab_Sh sx_sk h) (ok_zd : mi_in zd) (ok_zw : mi_in zw) (ok_zp : mi_in zp) (ok_zm : mi_in zm) (ok_zt : mi_in zt) (ok_q6 : ∀ v, q6 = some v → mi_ok v) (ok_q7 : ∀ v, q7 = some v → mi_ok v) (ok_q8 : ∀ v, q8 = some v → mi_ok v) (ho : (zt < ((300 : Int))) ∧ (zm = ((0 : Int)))) (kon : ∀ h1, me_W [] h h1 → Q none h1) : me_E (d + 12) 186 22 [some (.inr (.inr 109)), some (.inl (zd)), some (.inl (zw)), some (.inl (zp)), some (.inl (zm)), some (.inl (zt)), q6, q7, q8] [] h Q := me_seg (mp_fmC_1 h d zd zw zp zm zt q6 q7 q8) (mi_tab_fmC_1) hS (mi_okL_c (trivial) (mi_okL_c (ok_zd) (mi_okL_c (ok_zw) (mi_okL_c (ok_zp) (mi_okL_c (ok_zm) (mi_okL_c (ok_zt) (mi_okL_o ok_q6 (mi_okL_o ok_q7 (mi_okL_o ok_q8 (mi_okL_e)))))))))) (mi_okS_e) (mi_al (ho.1) (mi_al (ho.2) (mi_al_e))) (fun h1 W _ hst => me_ret (M := (9, 0, sb_186)) rfl rfl rfl hst (mi_al_e) (kon h1 W))
set_option maxRecDepth 20000 in
theorem mp_fmC_2 (h : sm_H) (d : Nat) (zd zw zp zm zt : Int) (q6 q7 q8 : Option mi_V) : mi_path [(186, (9, 0, sb_186))] sx_sk h 8 [0, 0, 1] (d + 12, 186, 22, [some (.inr (.inr 109)), some (.inl (zd)), some (.inl (zw)), some (.inl (zp)), some (.inl (zm)), some (.inl (zt)), q6, q7, q8], [], [], []) = some ((d + 12, 186, 430, [some (.inr (.inr 109)), some (.inl (zd)), some (.inl (zw)), some (.inl (zp)), some (.inl (zm)), some (.inl (zt)), q6, q7, q8], [], [], []), [zt < ((300 : Int)), zm ≠ ((0 : Int)), (mi_f h 13960) ≠ ((0 : Int))]) := rfl
theorem mi_tab_fmC_2 : ∀ e ∈ ([(186, (9, 0, sb_186))] : mi_T), sc_P e.1 = some e.2 := mi_tb mi_P186 (mi_tb_e)
set_option maxRecDepth 20000 in
theorem ms_fmC_2 {h : sm_H} {d : Nat} {Q : Option mi_V → sm_H → Prop} {zd zw zp zm zt : Int} {q6 q7 q8 : Option mi_V} (hS : ab_Sh sx_sk h) (ok_zd : mi_in zd) (ok_zw : mi_in zw) (ok_zp : mi_in zp) (ok_zm : mi_in zm) (ok_zt : mi_in zt) (ok_q6 : ∀ v, q6 = some v → mi_ok v) (ok_q7 : ∀ v, q7 = some v → mi_ok v) (ok_q8 : ∀ v, q8 = some v → mi_ok v) (ho : (zt < ((300 : Int))) ∧ (zm ≠ ((0 : Int))) ∧ ((mi_f h 13960) ≠ ((0 : Int)))) (kon : ∀ h1, me_W [] h h1 → Q none h1) : me_E (d + 12) 186 22 [some (.inr (.inr 109)), some (.inl (zd)), some (.inl (zw)), some (.inl (zp)), some (.inl (zm)), some (.inl (zt)), q6, q7, q8] [] h Q := me_seg (mp_fmC_2 h d zd zw zp zm zt q6 q7 q8) (mi_tab_fmC_2) hS (mi_okL_c (trivial) (mi_okL_c (ok_zd) (mi_okL_c (ok_zw) (mi_okL_c (ok_zp) (mi_okL_c (ok_zm) (mi_okL_c (ok_zt) (mi_okL_o ok_q6 (mi_okL_o ok_q7 (mi_okL_o ok_q8 (mi_okL_e)))))))))) (mi_okS_e) (mi_al (ho.1) (mi_al (ho.2.1) (mi_al (ho.2.2) (mi_al_e)))) (fun h1 W _ hst => me_ret (M := (9, 0, sb_186)) rfl rfl rfl hst (mi_al_e) (kon h1 W))
set_option maxRecDepth 20000 in
theorem mp_fmC_3 (h : sm_H) (d : Nat) (zd zw zp zm zt : Int) (q6 q7 q8 : Option mi_V) : mi_path [(186, (9, 0, sb_186))] sx_sk h 9 [0, 0, 0] (d + 12, 186, 22, [some (.inr (.inr 109)), some (.inl (zd)), some (.inl (zw)), some (.inl (zp)), some (.inl (zm)), some (.inl (zt)), q6, q7, q8], [], [], []) = some ((d + 12, 186, 43, [some (.inr (.inr 109)), some (.inl (zd)), some (.inl (zw)), some (.inl (zp)), some (.inl (zm)), some (.inl (zt)), q6, q7, q8], [.inr (.inr 109)], [], []), [zt < ((300 : Int)), zm ≠ ((0 : Int)), (mi_f h 13960) = ((0 : Int))]) := rfl
theorem mi_tab_fmC_3 : ∀ e ∈ ([(186, (9, 0, sb_186))] : mi_T), sc_P e.1 = some e.2 := mi_tb mi_P186 (mi_tb_e)
set_option maxRecDepth 20000 in
theorem ms_fmC_3 {h : sm_H} {d : Nat} {Q : Option mi_V → sm_H → Prop} {zd zw zp zm zt : Int} {q6 q7 q8 : Option mi_V} (hS : ab_Sh sx_sk h) (ok_zd : mi_in zd) (ok_zw : mi_in zw) (ok_zp : mi_in zp) (ok_zm : mi_in zm) (ok_zt : mi_in zt) (ok_q6 : ∀ v, q6 = some v → mi_ok v) (ok_q7 : ∀ v, q7 = some v → mi_ok v) (ok_q8 : ∀ v, q8 = some v → mi_ok v) (ho : (zt < ((300 : Int))) ∧ (zm ≠ ((0 : Int))) ∧ ((mi_f h 13960) = ((0 : Int)))) (kon : ∀ h1, me_W [] h h1 → ∃ Q1, me_E (d + 11) 177 0 (mi_entry 4 [.inr (.inr 109)]) [] h1 Q1 ∧ ∀ w h2, (∀ x, w = some x → mi_ok x) → Q1 w h2 → me_E (d + 12) 186 46 [some (.inr (.inr 109)), some (.inl (zd)), some (.inl (zw)), some (.inl (zp)), some (.inl (zm)), some (.inl (zt)), q6, q7, q8] (mi_back w []) h2 Q) : me_E (d + 12) 186 22 [some (.inr (.inr 109)), some (.inl (zd)), some (.inl (zw)), some (.inl (zp)), some (.inl (zm)), some (.inl (zt)), q6, q7, q8] [] h Q := me_seg (mp_fmC_3 h d zd zw zp zm zt q6 q7 q8) (mi_tab_fmC_3) hS (mi_okL_c (trivial) (mi_okL_c (ok_zd) (mi_okL_c (ok_zw) (mi_okL_c (ok_zp) (mi_okL_c (ok_zm) (mi_okL_c (ok_zt) (mi_okL_o ok_q6 (mi_okL_o ok_q7 (mi_okL_o ok_q8 (mi_okL_e)))))))))) (mi_okS_e) (mi_al (ho.1) (mi_al (ho.2.1) (mi_al (ho.2.2) (mi_al_e)))) (fun h1 W _ hst => let ⟨_, k1, k2⟩ := kon h1 W; me_call (M := (9, 0, sb_186)) (M' := (4, 0, sb_177)) rfl rfl rfl rfl (Nat.le_of_ble_eq_true rfl) (Nat.le_of_ble_eq_true rfl) W.1 k1 k2)
set_option maxRecDepth 20000 in
theorem mt_fmC {h : sm_H} {d : Nat} {Q : Option mi_V → sm_H → Prop} {zd zw zp zm zt : Int} {q6 q7 q8 : Option mi_V} (hS : ab_Sh sx_sk h) (ok_zd : mi_in zd) (ok_zw : mi_in zw) (ok_zp : mi_in zp) (ok_zm : mi_in zm) (ok_zt : mi_in zt) (ok_q6 : ∀ v, q6 = some v → mi_ok v) (ok_q7 : ∀ v, q7 = some v → mi_ok v) (ok_q8 : ∀ v, q8 = some v → mi_ok v) (k0 : (((300 : Int)) ≤ zt) → (∀ h1, ab_Sh sx_sk h1 → ab_Fr [] h h1 → Q none h1)) (k1 : (zt < ((300 : Int))) → (zm = ((0 : Int))) → (∀ h1, ab_Sh sx_sk h1 → ab_Fr [] h h1 → Q none h1)) (k2 : ((-2147483648) ≤ mi_f h 13960 ∧ mi_f h 13960 ≤ 2147483647) → (zt < ((300 : Int))) → (zm ≠ ((0 : Int))) → ((mi_f h 13960) ≠ ((0 : Int))) → (∀ h1, ab_Sh sx_sk h1 → ab_Fr [] h h1 → Q none h1)) (k3 : ((-2147483648) ≤ mi_f h 13960 ∧ mi_f h 13960 ≤ 2147483647) → (zt < ((300 : Int))) → (zm ≠ ((0 : Int))) → ((mi_f h 13960) = ((0 : Int))) → (∀ h1, ab_Sh sx_sk h1 → ab_Fr [] h h1 → ∃ Q1, me_E (d + 11) 177 0 (mi_entry 4 [.inr (.inr 109)]) [] h1 Q1 ∧ ∀ w h2, (∀ x, w = some x → mi_ok x) → Q1 w h2 → me_E (d + 12) 186 46 [some (.inr (.inr 109)), some (.inl (zd)), some (.inl (zw)), some (.inl (zp)), some (.inl (zm)), some (.inl (zt)), q6, q7, q8] (mi_back w []) h2 Q)) : me_E (d + 12) 186 22 [some (.inr (.inr 109)), some (.inl (zd)), some (.inl (zw)), some (.inl (zp)), some (.inl (zm)), some (.inl (zt)), q6, q7, q8] [] h Q := Or.elim (mi_em .ge (zt) (((300 : Int)))) (fun c0 => ms_fmC_0 hS ok_zd ok_zw ok_zp ok_zm ok_zt ok_q6 ok_q7 ok_q8 (c0) (fun h1 W => (k0 c0) h1 W.1 (W.2.2.2.2.2 _ rfl))) (fun c0 => Or.elim (mi_em .eq (zm) (((0 : Int)))) (fun c1 => ms_fmC_1 hS ok_zd ok_zw ok_zp ok_zm ok_zt ok_q6 ok_q7 ok_q8 ⟨c0, c1⟩ (fun h1 W => (k1 c0 c1) h1 W.1 (W.2.2.2.2.2 _ rfl))) (fun c1 => Or.elim (mi_em .ne ((mi_f h 13960)) (((0 : Int)))) (fun c2 => ms_fmC_2 hS ok_zd ok_zw ok_zp ok_zm ok_zt ok_q6 ok_q7 ok_q8 ⟨c0, c1, c2⟩ (fun h1 W => (k2 (me_fb hS rfl) c0 c1 c2) h1 W.1 (W.2.2.2.2.2 _ rfl))) (fun c2 => ms_fmC_3 hS ok_zd ok_zw ok_zp ok_zm ok_zt ok_q6 ok_q7 ok_q8 ⟨c0, c1, c2⟩ (fun h1 W => (k3 (me_fb hS rfl) c0 c1 c2) h1 W.1 (W.2.2.2.2.2 _ rfl)))))
set_option maxRecDepth 20000 in
theorem mp_fmD_0 (h : sm_H) (d : Nat) (zd zw zp zm zt : Int) (q6 q7 q8 : Option mi_V) : mi_path [(186, (9, 0, sb_186))] sx_sk h 7 [] (d + 12, 186, 46, [some (.inr (.inr 109)), some (.inl (zd)), some (.inl (zw)), some (.inl (zp)), some (.inl (zm)), some (.inl (zt)), q6, q7, q8], [], [], []) = some ((d + 12, 186, 58, [some (.inr (.inr 109)), some (.inl (zd)), some (.inl (zw)), some (.inl (zp)), some (.inl (zm)), some (.inl (zt)), some (.inl (mi_a h 151 (Int.toNat (mi_f h 14003)))), q7, q8], [.inr (.inr 109)], [], []), [0 ≤ (mi_f h 14003) ∧ (mi_f h 14003) < 6]) := rfl
theorem mi_tab_fmD_0 : ∀ e ∈ ([(186, (9, 0, sb_186))] : mi_T), sc_P e.1 = some e.2 := mi_tb mi_P186 (mi_tb_e)
set_option maxRecDepth 20000 in
theorem ms_fmD_0 {h : sm_H} {d : Nat} {Q : Option mi_V → sm_H → Prop} {zd zw zp zm zt : Int} {q6 q7 q8 : Option mi_V} (hS : ab_Sh sx_sk h) (ok_zd : mi_in zd) (ok_zw : mi_in zw) (ok_zp : mi_in zp) (ok_zm : mi_in zm) (ok_zt : mi_in zt) (ok_q6 : ∀ v, q6 = some v → mi_ok v) (ok_q7 : ∀ v, q7 = some v → mi_ok v) (ok_q8 : ∀ v, q8 = some v → mi_ok v) (ho : (0 ≤ (mi_f h 14003) ∧ (mi_f h 14003) < 6)) (kon : ∀ h1, me_W [] h h1 → ∃ Q1, me_E (d + 11) 188 0 (mi_entry 1 [.inr (.inr 109)]) [] h1 Q1 ∧ ∀ w h2, (∀ x, w = some x → mi_ok x) → Q1 w h2 → me_E (d + 12) 186 61 [some (.inr (.inr 109)), some (.inl (zd)), some (.inl (zw)), some (.inl (zp)), some (.inl (zm)), some (.inl (zt)), some (.inl (mi_a h 151 (Int.toNat (mi_f h 14003)))), q7, q8] (mi_back w []) h2 Q) : me_E (d + 12) 186 46 [some (.inr (.inr 109)), some (.inl (zd)), some (.inl (zw)), some (.inl (zp)), some (.inl (zm)), some (.inl (zt)), q6, q7, q8] [] h Q := me_seg (mp_fmD_0 h d zd zw zp zm zt q6 q7 q8) (mi_tab_fmD_0) hS (mi_okL_c (trivial) (mi_okL_c (ok_zd) (mi_okL_c (ok_zw) (mi_okL_c (ok_zp) (mi_okL_c (ok_zm) (mi_okL_c (ok_zt) (mi_okL_o ok_q6 (mi_okL_o ok_q7 (mi_okL_o ok_q8 (mi_okL_e)))))))))) (mi_okS_e) (mi_al (ho) (mi_al_e)) (fun h1 W _ hst => let ⟨_, k1, k2⟩ := kon h1 W; me_call (M := (9, 0, sb_186)) (M' := (1, 4, sb_188)) rfl rfl rfl rfl (Nat.le_of_ble_eq_true rfl) (Nat.le_of_ble_eq_true rfl) W.1 k1 k2)
set_option maxRecDepth 20000 in
theorem mt_fmD {h : sm_H} {d : Nat} {Q : Option mi_V → sm_H → Prop} {zd zw zp zm zt : Int} {q6 q7 q8 : Option mi_V} (hS : ab_Sh sx_sk h) (ok_zd : mi_in zd) (ok_zw : mi_in zw) (ok_zp : mi_in zp) (ok_zm : mi_in zm) (ok_zt : mi_in zt) (ok_q6 : ∀ v, q6 = some v → mi_ok v) (ok_q7 : ∀ v, q7 = some v → mi_ok v) (ok_q8 : ∀ v, q8 = some v → mi_ok v) (k0 : (0 ≤ mi_f h 14003 ∧ mi_f h 14003 ≤ 5) → ((0 ≤ (mi_f h 14003) ∧ (mi_f h 14003) < 6)) ∧ (∀ h1, ab_Sh sx_sk h1 → ab_Fr [] h h1 → ∃ Q1, me_E (d + 11) 188 0 (mi_entry 1 [.inr (.inr 109)]) [] h1 Q1 ∧ ∀ w h2, (∀ x, w = some x → mi_ok x) → Q1 w h2 → me_E (d + 12) 186 61 [some (.inr (.inr 109)), some (.inl (zd)), some (.inl (zw)), some (.inl (zp)), some (.inl (zm)), some (.inl (zt)), some (.inl (mi_a h 151 (Int.toNat (mi_f h 14003)))), q7, q8] (mi_back w []) h2 Q)) : me_E (d + 12) 186 46 [some (.inr (.inr 109)), some (.inl (zd)), some (.inl (zw)), some (.inl (zp)), some (.inl (zm)), some (.inl (zt)), q6, q7, q8] [] h Q := ms_fmD_0 hS ok_zd ok_zw ok_zp ok_zm ok_zt ok_q6 ok_q7 ok_q8 ((k0 (me_fb hS rfl)).1) (fun h1 W => (k0 (me_fb hS rfl)).2 h1 W.1 (W.2.2.2.2.2 _ rfl))
set_option maxRecDepth 20000 in
theorem mp_fmE_0 (h : sm_H) (d : Nat) (zd zw zp zm zt zb zz : Int) (q7 q8 : Option mi_V) : mi_path [(186, (9, 0, sb_186))] sx_sk h 1 [1] (d + 12, 186, 61, [some (.inr (.inr 109)), some (.inl (zd)), some (.inl (zw)), some (.inl (zp)), some (.inl (zm)), some (.inl (zt)), some (.inl (zb)), q7, q8], [.inl (zz)], [], []) = some ((d + 12, 186, 159, [some (.inr (.inr 109)), some (.inl (zd)), some (.inl (zw)), some (.inl (zp)), some (.inl (zm)), some (.inl (zt)), some (.inl (zb)), q7, q8], [], [], []), [zz = ((0 : Int))]) := rfl
theorem mi_tab_fmE_0 : ∀ e ∈ ([(186, (9, 0, sb_186))] : mi_T), sc_P e.1 = some e.2 := mi_tb mi_P186 (mi_tb_e)
set_option maxRecDepth 20000 in
theorem ms_fmE_0 {h : sm_H} {d : Nat} {Q : Option mi_V → sm_H → Prop} {zd zw zp zm zt zb zz : Int} {q7 q8 : Option mi_V} (hS : ab_Sh sx_sk h) (ok_zd : mi_in zd) (ok_zw : mi_in zw) (ok_zp : mi_in zp) (ok_zm : mi_in zm) (ok_zt : mi_in zt) (ok_zb : mi_in zb) (ok_zz : mi_in zz) (ok_q7 : ∀ v, q7 = some v → mi_ok v) (ok_q8 : ∀ v, q8 = some v → mi_ok v) (ho : (zz = ((0 : Int)))) (kon : ∀ h1, me_W [] h h1 → me_E (d + 12) 186 159 [some (.inr (.inr 109)), some (.inl (zd)), some (.inl (zw)), some (.inl (zp)), some (.inl (zm)), some (.inl (zt)), some (.inl (zb)), q7, q8] [] h1 Q) : me_E (d + 12) 186 61 [some (.inr (.inr 109)), some (.inl (zd)), some (.inl (zw)), some (.inl (zp)), some (.inl (zm)), some (.inl (zt)), some (.inl (zb)), q7, q8] [.inl (zz)] h Q := me_seg (mp_fmE_0 h d zd zw zp zm zt zb zz q7 q8) (mi_tab_fmE_0) hS (mi_okL_c (trivial) (mi_okL_c (ok_zd) (mi_okL_c (ok_zw) (mi_okL_c (ok_zp) (mi_okL_c (ok_zm) (mi_okL_c (ok_zt) (mi_okL_c (ok_zb) (mi_okL_o ok_q7 (mi_okL_o ok_q8 (mi_okL_e)))))))))) (mi_okS_cons (ok_zz) (mi_okS_e)) (mi_al (ho) (mi_al_e)) (fun h1 W _ hst => kon h1 W)
set_option maxRecDepth 20000 in
theorem mp_fmE_1 (h : sm_H) (d : Nat) (zd zw zp zm zt zb zz : Int) (q7 q8 : Option mi_V) : mi_path [(186, (9, 0, sb_186))] sx_sk h 7 [0, 1] (d + 12, 186, 61, [some (.inr (.inr 109)), some (.inl (zd)), some (.inl (zw)), some (.inl (zp)), some (.inl (zm)), some (.inl (zt)), some (.inl (zb)), q7, q8], [.inl (zz)], [], []) = some ((d + 12, 186, 80, [some (.inr (.inr 109)), some (.inl (zd)), some (.inl (zw)), some (.inl (zp)), some (.inl (zm)), some (.inl (zt)), some (.inl (zb)), some (.inl ((0 : Int))), q8], [], [], []), [zz ≠ ((0 : Int)), (mi_f h 14001) ≠ ((40 : Int))]) := rfl
theorem mi_tab_fmE_1 : ∀ e ∈ ([(186, (9, 0, sb_186))] : mi_T), sc_P e.1 = some e.2 := mi_tb mi_P186 (mi_tb_e)
set_option maxRecDepth 20000 in
theorem ms_fmE_1 {h : sm_H} {d : Nat} {Q : Option mi_V → sm_H → Prop} {zd zw zp zm zt zb zz : Int} {q7 q8 : Option mi_V} (hS : ab_Sh sx_sk h) (ok_zd : mi_in zd) (ok_zw : mi_in zw) (ok_zp : mi_in zp) (ok_zm : mi_in zm) (ok_zt : mi_in zt) (ok_zb : mi_in zb) (ok_zz : mi_in zz) (ok_q7 : ∀ v, q7 = some v → mi_ok v) (ok_q8 : ∀ v, q8 = some v → mi_ok v) (ho : (zz ≠ ((0 : Int))) ∧ ((mi_f h 14001) ≠ ((40 : Int)))) (kon : ∀ h1, me_W [] h h1 → me_E (d + 12) 186 80 [some (.inr (.inr 109)), some (.inl (zd)), some (.inl (zw)), some (.inl (zp)), some (.inl (zm)), some (.inl (zt)), some (.inl (zb)), some (.inl ((0 : Int))), q8] [] h1 Q) : me_E (d + 12) 186 61 [some (.inr (.inr 109)), some (.inl (zd)), some (.inl (zw)), some (.inl (zp)), some (.inl (zm)), some (.inl (zt)), some (.inl (zb)), q7, q8] [.inl (zz)] h Q := me_seg (mp_fmE_1 h d zd zw zp zm zt zb zz q7 q8) (mi_tab_fmE_1) hS (mi_okL_c (trivial) (mi_okL_c (ok_zd) (mi_okL_c (ok_zw) (mi_okL_c (ok_zp) (mi_okL_c (ok_zm) (mi_okL_c (ok_zt) (mi_okL_c (ok_zb) (mi_okL_o ok_q7 (mi_okL_o ok_q8 (mi_okL_e)))))))))) (mi_okS_cons (ok_zz) (mi_okS_e)) (mi_al (ho.1) (mi_al (ho.2) (mi_al_e))) (fun h1 W _ hst => kon h1 W)
set_option maxRecDepth 20000 in
theorem mp_fmE_2 (h : sm_H) (d : Nat) (zd zw zp zm zt zb zz : Int) (q7 q8 : Option mi_V) : mi_path [(186, (9, 0, sb_186))] sx_sk h 8 [0, 0] (d + 12, 186, 61, [some (.inr (.inr 109)), some (.inl (zd)), some (.inl (zw)), some (.inl (zp)), some (.inl (zm)), some (.inl (zt)), some (.inl (zb)), q7, q8], [.inl (zz)], [], []) = some ((d + 12, 186, 80, [some (.inr (.inr 109)), some (.inl (zd)), some (.inl (zw)), some (.inl (zp)), some (.inl (zm)), some (.inl (zt)), some (.inl (zb)), some (.inl ((1 : Int))), q8], [], [], []), [zz ≠ ((0 : Int)), (mi_f h 14001) = ((40 : Int))]) := rfl
theorem mi_tab_fmE_2 : ∀ e ∈ ([(186, (9, 0, sb_186))] : mi_T), sc_P e.1 = some e.2 := mi_tb mi_P186 (mi_tb_e)
set_option maxRecDepth 20000 in
theorem ms_fmE_2 {h : sm_H} {d : Nat} {Q : Option mi_V → sm_H → Prop} {zd zw zp zm zt zb zz : Int} {q7 q8 : Option mi_V} (hS : ab_Sh sx_sk h) (ok_zd : mi_in zd) (ok_zw : mi_in zw) (ok_zp : mi_in zp) (ok_zm : mi_in zm) (ok_zt : mi_in zt) (ok_zb : mi_in zb) (ok_zz : mi_in zz) (ok_q7 : ∀ v, q7 = some v → mi_ok v) (ok_q8 : ∀ v, q8 = some v → mi_ok v) (ho : (zz ≠ ((0 : Int))) ∧ ((mi_f h 14001) = ((40 : Int)))) (kon : ∀ h1, me_W [] h h1 → me_E (d + 12) 186 80 [some (.inr (.inr 109)), some (.inl (zd)), some (.inl (zw)), some (.inl (zp)), some (.inl (zm)), some (.inl (zt)), some (.inl (zb)), some (.inl ((1 : Int))), q8] [] h1 Q) : me_E (d + 12) 186 61 [some (.inr (.inr 109)), some (.inl (zd)), some (.inl (zw)), some (.inl (zp)), some (.inl (zm)), some (.inl (zt)), some (.inl (zb)), q7, q8] [.inl (zz)] h Q := me_seg (mp_fmE_2 h d zd zw zp zm zt zb zz q7 q8) (mi_tab_fmE_2) hS (mi_okL_c (trivial) (mi_okL_c (ok_zd) (mi_okL_c (ok_zw) (mi_okL_c (ok_zp) (mi_okL_c (ok_zm) (mi_okL_c (ok_zt) (mi_okL_c (ok_zb) (mi_okL_o ok_q7 (mi_okL_o ok_q8 (mi_okL_e)))))))))) (mi_okS_cons (ok_zz) (mi_okS_e)) (mi_al (ho.1) (mi_al (ho.2) (mi_al_e))) (fun h1 W _ hst => kon h1 W)
set_option maxRecDepth 20000 in
theorem mt_fmE {h : sm_H} {d : Nat} {Q : Option mi_V → sm_H → Prop} {zd zw zp zm zt zb zz : Int} {q7 q8 : Option mi_V} (hS : ab_Sh sx_sk h) (ok_zd : mi_in zd) (ok_zw : mi_in zw) (ok_zp : mi_in zp) (ok_zm : mi_in zm) (ok_zt : mi_in zt) (ok_zb : mi_in zb) (ok_zz : mi_in zz) (ok_q7 : ∀ v, q7 = some v → mi_ok v) (ok_q8 : ∀ v, q8 = some v → mi_ok v) (k0 : (zz = ((0 : Int))) → (∀ h1, ab_Sh sx_sk h1 → ab_Fr [] h h1 → me_E (d + 12) 186 159 [some (.inr (.inr 109)), some (.inl (zd)), some (.inl (zw)), some (.inl (zp)), some (.inl (zm)), some (.inl (zt)), some (.inl (zb)), q7, q8] [] h1 Q)) (k1 : ((-2147483648) ≤ mi_f h 14001 ∧ mi_f h 14001 ≤ 2147483647) → (zz ≠ ((0 : Int))) → ((mi_f h 14001) ≠ ((40 : Int))) → (∀ h1, ab_Sh sx_sk h1 → ab_Fr [] h h1 → me_E (d + 12) 186 80 [some (.inr (.inr 109)), some (.inl (zd)), some (.inl (zw)), some (.inl (zp)), some (.inl (zm)), some (.inl (zt)), some (.inl (zb)), some (.inl ((0 : Int))), q8] [] h1 Q)) (k2 : ((-2147483648) ≤ mi_f h 14001 ∧ mi_f h 14001 ≤ 2147483647) → (zz ≠ ((0 : Int))) → ((mi_f h 14001) = ((40 : Int))) → (∀ h1, ab_Sh sx_sk h1 → ab_Fr [] h h1 → me_E (d + 12) 186 80 [some (.inr (.inr 109)), some (.inl (zd)), some (.inl (zw)), some (.inl (zp)), some (.inl (zm)), some (.inl (zt)), some (.inl (zb)), some (.inl ((1 : Int))), q8] [] h1 Q)) : me_E (d + 12) 186 61 [some (.inr (.inr 109)), some (.inl (zd)), some (.inl (zw)), some (.inl (zp)), some (.inl (zm)), some (.inl (zt)), some (.inl (zb)), q7, q8] [.inl (zz)] h Q := Or.elim (mi_em .eq (zz) (((0 : Int)))) (fun c0 => ms_fmE_0 hS ok_zd ok_zw ok_zp ok_zm ok_zt ok_zb ok_zz ok_q7 ok_q8 (c0) (fun h1 W => (k0 c0) h1 W.1 (W.2.2.2.2.2 _ rfl))) (fun c0 => Or.elim (mi_em .ne ((mi_f h 14001)) (((40 : Int)))) (fun c1 => ms_fmE_1 hS ok_zd ok_zw ok_zp ok_zm ok_zt ok_zb ok_zz ok_q7 ok_q8 ⟨c0, c1⟩ (fun h1 W => (k1 (me_fb hS rfl) c0 c1) h1 W.1 (W.2.2.2.2.2 _ rfl))) (fun c1 => ms_fmE_2 hS ok_zd ok_zw ok_zp ok_zm ok_zt ok_zb ok_zz ok_q7 ok_q8 ⟨c0, c1⟩ (fun h1 W => (k2 (me_fb hS rfl) c0 c1) h1 W.1 (W.2.2.2.2.2 _ rfl))))
set_option maxRecDepth 20000 in
theorem mp_fmF_0 (h : sm_H) (d : Nat) (zd zw zp zm zt zb zg : Int) (q8 : Option mi_V) : mi_path [(186, (9, 0, sb_186))] sx_sk h 6 [1] (d + 12, 186, 80, [some (.inr (.inr 109)), some (.inl (zd)), some (.inl (zw)), some (.inl (zp)), some (.inl (zm)), some (.inl (zt)), some (.inl (zb)), some (.inl (zg)), q8], [], [], []) = some ((d + 12, 186, 106, [some (.inr (.inr 109)), some (.inl (zd)), some (.inl (zw)), some (.inl (zp)), some (.inl (zm)), some (.inl (zt)), some (.inl (zb)), some (.inl (zg)), some (.inl ((0 : Int)))], [], [], []), [(mi_f h 14001) ≠ ((1 : Int))]) := rfl
theorem mi_tab_fmF_0 : ∀ e ∈ ([(186, (9, 0, sb_186))] : mi_T), sc_P e.1 = some e.2 := mi_tb mi_P186 (mi_tb_e)
set_option maxRecDepth 20000 in
theorem ms_fmF_0 {h : sm_H} {d : Nat} {Q : Option mi_V → sm_H → Prop} {zd zw zp zm zt zb zg : Int} {q8 : Option mi_V} (hS : ab_Sh sx_sk h) (ok_zd : mi_in zd) (ok_zw : mi_in zw) (ok_zp : mi_in zp) (ok_zm : mi_in zm) (ok_zt : mi_in zt) (ok_zb : mi_in zb) (ok_zg : mi_in zg) (ok_q8 : ∀ v, q8 = some v → mi_ok v) (ho : ((mi_f h 14001) ≠ ((1 : Int)))) (kon : ∀ h1, me_W [] h h1 → me_E (d + 12) 186 106 [some (.inr (.inr 109)), some (.inl (zd)), some (.inl (zw)), some (.inl (zp)), some (.inl (zm)), some (.inl (zt)), some (.inl (zb)), some (.inl (zg)), some (.inl ((0 : Int)))] [] h1 Q) : me_E (d + 12) 186 80 [some (.inr (.inr 109)), some (.inl (zd)), some (.inl (zw)), some (.inl (zp)), some (.inl (zm)), some (.inl (zt)), some (.inl (zb)), some (.inl (zg)), q8] [] h Q := me_seg (mp_fmF_0 h d zd zw zp zm zt zb zg q8) (mi_tab_fmF_0) hS (mi_okL_c (trivial) (mi_okL_c (ok_zd) (mi_okL_c (ok_zw) (mi_okL_c (ok_zp) (mi_okL_c (ok_zm) (mi_okL_c (ok_zt) (mi_okL_c (ok_zb) (mi_okL_c (ok_zg) (mi_okL_o ok_q8 (mi_okL_e)))))))))) (mi_okS_e) (mi_al (ho) (mi_al_e)) (fun h1 W _ hst => kon h1 W)
set_option maxRecDepth 20000 in
theorem mp_fmF_1 (h : sm_H) (d : Nat) (zd zw zp zm zt zb zg : Int) (q8 : Option mi_V) : mi_path [(186, (9, 0, sb_186))] sx_sk h 6 [0] (d + 12, 186, 80, [some (.inr (.inr 109)), some (.inl (zd)), some (.inl (zw)), some (.inl (zp)), some (.inl (zm)), some (.inl (zt)), some (.inl (zb)), some (.inl (zg)), q8], [], [], []) = some ((d + 12, 186, 92, [some (.inr (.inr 109)), some (.inl (zd)), some (.inl (zw)), some (.inl (zp)), some (.inl (zm)), some (.inl (zt)), some (.inl (zb)), some (.inl (zg)), q8], [.inr (.inl (mx_l h 14004))], [], []), [(mi_f h 14001) = ((1 : Int))]) := rfl
theorem mi_tab_fmF_1 : ∀ e ∈ ([(186, (9, 0, sb_186))] : mi_T), sc_P e.1 = some e.2 := mi_tb mi_P186 (mi_tb_e)
set_option maxRecDepth 20000 in
theorem ms_fmF_1 {h : sm_H} {d : Nat} {Q : Option mi_V → sm_H → Prop} {zd zw zp zm zt zb zg : Int} {q8 : Option mi_V} (hS : ab_Sh sx_sk h) (ok_zd : mi_in zd) (ok_zw : mi_in zw) (ok_zp : mi_in zp) (ok_zm : mi_in zm) (ok_zt : mi_in zt) (ok_zb : mi_in zb) (ok_zg : mi_in zg) (ok_q8 : ∀ v, q8 = some v → mi_ok v) (ho : ((mi_f h 14001) = ((1 : Int)))) (kon : ∀ h1, me_W [] h h1 → ∃ Q1, me_E (d + 11) 189 0 (mi_entry 2 [.inr (.inl (mx_l h 14004))]) [] h1 Q1 ∧ ∀ w h2, (∀ x, w = some x → mi_ok x) → Q1 w h2 → me_E (d + 12) 186 95 [some (.inr (.inr 109)), some (.inl (zd)), some (.inl (zw)), some (.inl (zp)), some (.inl (zm)), some (.inl (zt)), some (.inl (zb)), some (.inl (zg)), q8] (mi_back w []) h2 Q) : me_E (d + 12) 186 80 [some (.inr (.inr 109)), some (.inl (zd)), some (.inl (zw)), some (.inl (zp)), some (.inl (zm)), some (.inl (zt)), some (.inl (zb)), some (.inl (zg)), q8] [] h Q := me_seg (mp_fmF_1 h d zd zw zp zm zt zb zg q8) (mi_tab_fmF_1) hS (mi_okL_c (trivial) (mi_okL_c (ok_zd) (mi_okL_c (ok_zw) (mi_okL_c (ok_zp) (mi_okL_c (ok_zm) (mi_okL_c (ok_zt) (mi_okL_c (ok_zb) (mi_okL_c (ok_zg) (mi_okL_o ok_q8 (mi_okL_e)))))))))) (mi_okS_e) (mi_al (ho) (mi_al_e)) (fun h1 W _ hst => let ⟨_, k1, k2⟩ := kon h1 W; me_call (M := (9, 0, sb_186)) (M' := (2, 1, sb_189)) rfl rfl rfl rfl (Nat.le_of_ble_eq_true rfl) (Nat.le_of_ble_eq_true rfl) W.1 k1 k2)
set_option maxRecDepth 20000 in
theorem mt_fmF {h : sm_H} {d : Nat} {Q : Option mi_V → sm_H → Prop} {zd zw zp zm zt zb zg : Int} {q8 : Option mi_V} (hS : ab_Sh sx_sk h) (ok_zd : mi_in zd) (ok_zw : mi_in zw) (ok_zp : mi_in zp) (ok_zm : mi_in zm) (ok_zt : mi_in zt) (ok_zb : mi_in zb) (ok_zg : mi_in zg) (ok_q8 : ∀ v, q8 = some v → mi_ok v) (k0 : ((-2147483648) ≤ mi_f h 14001 ∧ mi_f h 14001 ≤ 2147483647) → ((mi_f h 14001) ≠ ((1 : Int))) → (∀ h1, ab_Sh sx_sk h1 → ab_Fr [] h h1 → me_E (d + 12) 186 106 [some (.inr (.inr 109)), some (.inl (zd)), some (.inl (zw)), some (.inl (zp)), some (.inl (zm)), some (.inl (zt)), some (.inl (zb)), some (.inl (zg)), some (.inl ((0 : Int)))] [] h1 Q)) (k1 : ((-2147483648) ≤ mi_f h 14001 ∧ mi_f h 14001 ≤ 2147483647) → ((mi_f h 14001) = ((1 : Int))) → (∀ h1, ab_Sh sx_sk h1 → ab_Fr [] h h1 → ∃ Q1, me_E (d + 11) 189 0 (mi_entry 2 [.inr (.inl (mx_l h 14004))]) [] h1 Q1 ∧ ∀ w h2, (∀ x, w = some x → mi_ok x) → Q1 w h2 → me_E (d + 12) 186 95 [some (.inr (.inr 109)), some (.inl (zd)), some (.inl (zw)), some (.inl (zp)), some (.inl (zm)), some (.inl (zt)), some (.inl (zb)), some (.inl (zg)), q8] (mi_back w []) h2 Q)) : me_E (d + 12) 186 80 [some (.inr (.inr 109)), some (.inl (zd)), some (.inl (zw)), some (.inl (zp)), some (.inl (zm)), some (.inl (zt)), some (.inl (zb)), some (.inl (zg)), q8] [] h Q := Or.elim (mi_em .ne ((mi_f h 14001)) (((1 : Int)))) (fun c0 => ms_fmF_0 hS ok_zd ok_zw ok_zp ok_zm ok_zt ok_zb ok_zg ok_q8 (c0) (fun h1 W => (k0 (me_fb hS rfl) c0) h1 W.1 (W.2.2.2.2.2 _ rfl))) (fun c0 => ms_fmF_1 hS ok_zd ok_zw ok_zp ok_zm ok_zt ok_zb ok_zg ok_q8 (c0) (fun h1 W => (k1 (me_fb hS rfl) c0) h1 W.1 (W.2.2.2.2.2 _ rfl)))
set_option maxRecDepth 20000 in
theorem mp_fmG_0 (h : sm_H) (d : Nat) (zd zw zp zm zt zb zg zz : Int) (q8 : Option mi_V) : mi_path [(186, (9, 0, sb_186))] sx_sk h 4 [1] (d + 12, 186, 95, [some (.inr (.inr 109)), some (.inl (zd)), some (.inl (zw)), some (.inl (zp)), some (.inl (zm)), some (.inl (zt)), some (.inl (zb)), some (.inl (zg)), q8], [.inl (zz)], [], []) = some ((d + 12, 186, 106, [some (.inr (.inr 109)), some (.inl (zd)), some (.inl (zw)), some (.inl (zp)), some (.inl (zm)), some (.inl (zt)), some (.inl (zb)), some (.inl (zg)), some (.inl ((0 : Int)))], [], [], []), [zz ≠ ((1 : Int))]) := rfl
theorem mi_tab_fmG_0 : ∀ e ∈ ([(186, (9, 0, sb_186))] : mi_T), sc_P e.1 = some e.2 := mi_tb mi_P186 (mi_tb_e)
set_option maxRecDepth 20000 in
theorem ms_fmG_0 {h : sm_H} {d : Nat} {Q : Option mi_V → sm_H → Prop} {zd zw zp zm zt zb zg zz : Int} {q8 : Option mi_V} (hS : ab_Sh sx_sk h) (ok_zd : mi_in zd) (ok_zw : mi_in zw) (ok_zp : mi_in zp) (ok_zm : mi_in zm) (ok_zt : mi_in zt) (ok_zb : mi_in zb) (ok_zg : mi_in zg) (ok_zz : mi_in zz) (ok_q8 : ∀ v, q8 = some v → mi_ok v) (ho : (zz ≠ ((1 : Int)))) (kon : ∀ h1, me_W [] h h1 → me_E (d + 12) 186 106 [some (.inr (.inr 109)), some (.inl (zd)), some (.inl (zw)), some (.inl (zp)), some (.inl (zm)), some (.inl (zt)), some (.inl (zb)), some (.inl (zg)), some (.inl ((0 : Int)))] [] h1 Q) : me_E (d + 12) 186 95 [some (.inr (.inr 109)), some (.inl (zd)), some (.inl (zw)), some (.inl (zp)), some (.inl (zm)), some (.inl (zt)), some (.inl (zb)), some (.inl (zg)), q8] [.inl (zz)] h Q := me_seg (mp_fmG_0 h d zd zw zp zm zt zb zg zz q8) (mi_tab_fmG_0) hS (mi_okL_c (trivial) (mi_okL_c (ok_zd) (mi_okL_c (ok_zw) (mi_okL_c (ok_zp) (mi_okL_c (ok_zm) (mi_okL_c (ok_zt) (mi_okL_c (ok_zb) (mi_okL_c (ok_zg) (mi_okL_o ok_q8 (mi_okL_e)))))))))) (mi_okS_cons (ok_zz) (mi_okS_e)) (mi_al (ho) (mi_al_e)) (fun h1 W _ hst => kon h1 W)
set_option maxRecDepth 20000 in
theorem mp_fmG_1 (h : sm_H) (d : Nat) (zd zw zp zm zt zb zg zz : Int) (q8 : Option mi_V) : mi_path [(186, (9, 0, sb_186))] sx_sk h 5 [0] (d + 12, 186, 95, [some (.inr (.inr 109)), some (.inl (zd)), some (.inl (zw)), some (.inl (zp)), some (.inl (zm)), some (.inl (zt)), some (.inl (zb)), some (.inl (zg)), q8], [.inl (zz)], [], []) = some ((d + 12, 186, 106, [some (.inr (.inr 109)), some (.inl (zd)), some (.inl (zw)), some (.inl (zp)), some (.inl (zm)), some (.inl (zt)), some (.inl (zb)), some (.inl (zg)), some (.inl ((1 : Int)))], [], [], []), [zz = ((1 : Int))]) := rfl
theorem mi_tab_fmG_1 : ∀ e ∈ ([(186, (9, 0, sb_186))] : mi_T), sc_P e.1 = some e.2 := mi_tb mi_P186 (mi_tb_e)
set_option maxRecDepth 20000 in
theorem ms_fmG_1 {h : sm_H} {d : Nat} {Q : Option mi_V → sm_H → Prop} {zd zw zp zm zt zb zg zz : Int} {q8 : Option mi_V} (hS : ab_Sh sx_sk h) (ok_zd : mi_in zd) (ok_zw : mi_in zw) (ok_zp : mi_in zp) (ok_zm : mi_in zm) (ok_zt : mi_in zt) (ok_zb : mi_in zb) (ok_zg : mi_in zg) (ok_zz : mi_in zz) (ok_q8 : ∀ v, q8 = some v → mi_ok v) (ho : (zz = ((1 : Int)))) (kon : ∀ h1, me_W [] h h1 → me_E (d + 12) 186 106 [some (.inr (.inr 109)), some (.inl (zd)), some (.inl (zw)), some (.inl (zp)), some (.inl (zm)), some (.inl (zt)), some (.inl (zb)), some (.inl (zg)), some (.inl ((1 : Int)))] [] h1 Q) : me_E (d + 12) 186 95 [some (.inr (.inr 109)), some (.inl (zd)), some (.inl (zw)), some (.inl (zp)), some (.inl (zm)), some (.inl (zt)), some (.inl (zb)), some (.inl (zg)), q8] [.inl (zz)] h Q := me_seg (mp_fmG_1 h d zd zw zp zm zt zb zg zz q8) (mi_tab_fmG_1) hS (mi_okL_c (trivial) (mi_okL_c (ok_zd) (mi_okL_c (ok_zw) (mi_okL_c (ok_zp) (mi_okL_c (ok_zm) (mi_okL_c (ok_zt) (mi_okL_c (ok_zb) (mi_okL_c (ok_zg) (mi_okL_o ok_q8 (mi_okL_e)))))))))) (mi_okS_cons (ok_zz) (mi_okS_e)) (mi_al (ho) (mi_al_e)) (fun h1 W _ hst => kon h1 W)
set_option maxRecDepth 20000 in
theorem mt_fmG {h : sm_H} {d : Nat} {Q : Option mi_V → sm_H → Prop} {zd zw zp zm zt zb zg zz : Int} {q8 : Option mi_V} (hS : ab_Sh sx_sk h) (ok_zd : mi_in zd) (ok_zw : mi_in zw) (ok_zp : mi_in zp) (ok_zm : mi_in zm) (ok_zt : mi_in zt) (ok_zb : mi_in zb) (ok_zg : mi_in zg) (ok_zz : mi_in zz) (ok_q8 : ∀ v, q8 = some v → mi_ok v) (k0 : (zz ≠ ((1 : Int))) → (∀ h1, ab_Sh sx_sk h1 → ab_Fr [] h h1 → me_E (d + 12) 186 106 [some (.inr (.inr 109)), some (.inl (zd)), some (.inl (zw)), some (.inl (zp)), some (.inl (zm)), some (.inl (zt)), some (.inl (zb)), some (.inl (zg)), some (.inl ((0 : Int)))] [] h1 Q)) (k1 : (zz = ((1 : Int))) → (∀ h1, ab_Sh sx_sk h1 → ab_Fr [] h h1 → me_E (d + 12) 186 106 [some (.inr (.inr 109)), some (.inl (zd)), some (.inl (zw)), some (.inl (zp)), some (.inl (zm)), some (.inl (zt)), some (.inl (zb)), some (.inl (zg)), some (.inl ((1 : Int)))] [] h1 Q)) : me_E (d + 12) 186 95 [some (.inr (.inr 109)), some (.inl (zd)), some (.inl (zw)), some (.inl (zp)), some (.inl (zm)), some (.inl (zt)), some (.inl (zb)), some (.inl (zg)), q8] [.inl (zz)] h Q := Or.elim (mi_em .ne (zz) (((1 : Int)))) (fun c0 => ms_fmG_0 hS ok_zd ok_zw ok_zp ok_zm ok_zt ok_zb ok_zg ok_zz ok_q8 (c0) (fun h1 W => (k0 c0) h1 W.1 (W.2.2.2.2.2 _ rfl))) (fun c0 => ms_fmG_1 hS ok_zd ok_zw ok_zp ok_zm ok_zt ok_zb ok_zg ok_zz ok_q8 (c0) (fun h1 W => (k1 c0) h1 W.1 (W.2.2.2.2.2 _ rfl)))
set_option maxRecDepth 20000 in
theorem mp_fmH_0 (h : sm_H) (d : Nat) (zd zw zp zm zt zb zg zn : Int) : mi_path [(186, (9, 0, sb_186))] sx_sk h 1 [] (d + 12, 186, 106, [some (.inr (.inr 109)), some (.inl (zd)), some (.inl (zw)), some (.inl (zp)), some (.inl (zm)), some (.inl (zt)), some (.inl (zb)), some (.inl (zg)), some (.inl (zn))], [], [], []) = some ((d + 12, 186, 107, [some (.inr (.inr 109)), some (.inl (zd)), some (.inl (zw)), some (.inl (zp)), some (.inl (zm)), some (.inl (zt)), some (.inl (zb)), some (.inl (zg)), some (.inl (zn))], [.inr (.inr 109)], [], []), []) := rfl
theorem mi_tab_fmH_0 : ∀ e ∈ ([(186, (9, 0, sb_186))] : mi_T), sc_P e.1 = some e.2 := mi_tb mi_P186 (mi_tb_e)
set_option maxRecDepth 20000 in
theorem ms_fmH_0 {h : sm_H} {d : Nat} {Q : Option mi_V → sm_H → Prop} {zd zw zp zm zt zb zg zn : Int} (hS : ab_Sh sx_sk h) (ok_zd : mi_in zd) (ok_zw : mi_in zw) (ok_zp : mi_in zp) (ok_zm : mi_in zm) (ok_zt : mi_in zt) (ok_zb : mi_in zb) (ok_zg : mi_in zg) (ok_zn : mi_in zn) (kon : ∀ h1, me_W [] h h1 → ∃ Q1, me_E (d + 11) 190 0 (mi_entry 2 [.inr (.inr 109)]) [] h1 Q1 ∧ ∀ w h2, (∀ x, w = some x → mi_ok x) → Q1 w h2 → me_E (d + 12) 186 110 [some (.inr (.inr 109)), some (.inl (zd)), some (.inl (zw)), some (.inl (zp)), some (.inl (zm)), some (.inl (zt)), some (.inl (zb)), some (.inl (zg)), some (.inl (zn))] (mi_back w []) h2 Q) : me_E (d + 12) 186 106 [some (.inr (.inr 109)), some (.inl (zd)), some (.inl (zw)), some (.inl (zp)), some (.inl (zm)), some (.inl (zt)), some (.inl (zb)), some (.inl (zg)), some (.inl (zn))] [] h Q := me_seg (mp_fmH_0 h d zd zw zp zm zt zb zg zn) (mi_tab_fmH_0) hS (mi_okL_c (trivial) (mi_okL_c (ok_zd) (mi_okL_c (ok_zw) (mi_okL_c (ok_zp) (mi_okL_c (ok_zm) (mi_okL_c (ok_zt) (mi_okL_c (ok_zb) (mi_okL_c (ok_zg) (mi_okL_c (ok_zn) (mi_okL_e)))))))))) (mi_okS_e) (mi_al_e) (fun h1 W _ hst => let ⟨_, k1, k2⟩ := kon h1 W; me_call (M := (9, 0, sb_186)) (M' := (2, 0, sb_190)) rfl rfl rfl rfl (Nat.le_of_ble_eq_true rfl) (Nat.le_of_ble_eq_true rfl) W.1 k1 k2)
set_option maxRecDepth 20000 in
theorem mt_fmH {h : sm_H} {d : Nat} {Q : Option mi_V → sm_H → Prop} {zd zw zp zm zt zb zg zn : Int} (hS : ab_Sh sx_sk h) (ok_zd : mi_in zd) (ok_zw : mi_in zw) (ok_zp : mi_in zp) (ok_zm : mi_in zm) (ok_zt : mi_in zt) (ok_zb : mi_in zb) (ok_zg : mi_in zg) (ok_zn : mi_in zn) (k0 : (∀ h1, ab_Sh sx_sk h1 → ab_Fr [] h h1 → ∃ Q1, me_E (d + 11) 190 0 (mi_entry 2 [.inr (.inr 109)]) [] h1 Q1 ∧ ∀ w h2, (∀ x, w = some x → mi_ok x) → Q1 w h2 → me_E (d + 12) 186 110 [some (.inr (.inr 109)), some (.inl (zd)), some (.inl (zw)), some (.inl (zp)), some (.inl (zm)), some (.inl (zt)), some (.inl (zb)), some (.inl (zg)), some (.inl (zn))] (mi_back w []) h2 Q)) : me_E (d + 12) 186 106 [some (.inr (.inr 109)), some (.inl (zd)), some (.inl (zw)), some (.inl (zp)), some (.inl (zm)), some (.inl (zt)), some (.inl (zb)), some (.inl (zg)), some (.inl (zn))] [] h Q := ms_fmH_0 hS ok_zd ok_zw ok_zp ok_zm ok_zt ok_zb ok_zg ok_zn (fun h1 W => (k0) h1 W.1 (W.2.2.2.2.2 _ rfl))
set_option maxRecDepth 20000 in
theorem mp_fmI_0 (h : sm_H) (d : Nat) (zd zw zp zm zt zb zg zn : Int) : mi_path [(186, (9, 0, sb_186))] sx_sk h 2 [1] (d + 12, 186, 110, [some (.inr (.inr 109)), some (.inl (zd)), some (.inl (zw)), some (.inl (zp)), some (.inl (zm)), some (.inl (zt)), some (.inl (zb)), some (.inl (zg)), some (.inl (zn))], [], [], []) = some ((d + 12, 186, 126, [some (.inr (.inr 109)), some (.inl (zd)), some (.inl (zw)), some (.inl (zp)), some (.inl (zm)), some (.inl (zt)), some (.inl (zb)), some (.inl (zg)), some (.inl (zn))], [], [], []), [zn = ((0 : Int))]) := rfl
theorem mi_tab_fmI_0 : ∀ e ∈ ([(186, (9, 0, sb_186))] : mi_T), sc_P e.1 = some e.2 := mi_tb mi_P186 (mi_tb_e)
set_option maxRecDepth 20000 in
theorem ms_fmI_0 {h : sm_H} {d : Nat} {Q : Option mi_V → sm_H → Prop} {zd zw zp zm zt zb zg zn : Int} (hS : ab_Sh sx_sk h) (ok_zd : mi_in zd) (ok_zw : mi_in zw) (ok_zp : mi_in zp) (ok_zm : mi_in zm) (ok_zt : mi_in zt) (ok_zb : mi_in zb) (ok_zg : mi_in zg) (ok_zn : mi_in zn) (ho : (zn = ((0 : Int)))) (kon : ∀ h1, me_W [] h h1 → me_E (d + 12) 186 126 [some (.inr (.inr 109)), some (.inl (zd)), some (.inl (zw)), some (.inl (zp)), some (.inl (zm)), some (.inl (zt)), some (.inl (zb)), some (.inl (zg)), some (.inl (zn))] [] h1 Q) : me_E (d + 12) 186 110 [some (.inr (.inr 109)), some (.inl (zd)), some (.inl (zw)), some (.inl (zp)), some (.inl (zm)), some (.inl (zt)), some (.inl (zb)), some (.inl (zg)), some (.inl (zn))] [] h Q := me_seg (mp_fmI_0 h d zd zw zp zm zt zb zg zn) (mi_tab_fmI_0) hS (mi_okL_c (trivial) (mi_okL_c (ok_zd) (mi_okL_c (ok_zw) (mi_okL_c (ok_zp) (mi_okL_c (ok_zm) (mi_okL_c (ok_zt) (mi_okL_c (ok_zb) (mi_okL_c (ok_zg) (mi_okL_c (ok_zn) (mi_okL_e)))))))))) (mi_okS_e) (mi_al (ho) (mi_al_e)) (fun h1 W _ hst => kon h1 W)
set_option maxRecDepth 20000 in
theorem mp_fmI_1 (h : sm_H) (d : Nat) (zd zw zp zm zt zb zg zn : Int) : mi_path [(186, (9, 0, sb_186))] sx_sk h 5 [0, 1] (d + 12, 186, 110, [some (.inr (.inr 109)), some (.inl (zd)), some (.inl (zw)), some (.inl (zp)), some (.inl (zm)), some (.inl (zt)), some (.inl (zb)), some (.inl (zg)), some (.inl (zn))], [], [], []) = some ((d + 12, 186, 126, [some (.inr (.inr 109)), some (.inl (zd)), some (.inl (zw)), some (.inl (zp)), some (.inl (zm)), some (.inl (zt)), some (.inl (zb)), some (.inl (zg)), some (.inl (zn))], [], [], []), [zn ≠ ((0 : Int)), (mi_f h 13960) ≠ ((0 : Int))]) := rfl
theorem mi_tab_fmI_1 : ∀ e ∈ ([(186, (9, 0, sb_186))] : mi_T), sc_P e.1 = some e.2 := mi_tb mi_P186 (mi_tb_e)
set_option maxRecDepth 20000 in
theorem ms_fmI_1 {h : sm_H} {d : Nat} {Q : Option mi_V → sm_H → Prop} {zd zw zp zm zt zb zg zn : Int} (hS : ab_Sh sx_sk h) (ok_zd : mi_in zd) (ok_zw : mi_in zw) (ok_zp : mi_in zp) (ok_zm : mi_in zm) (ok_zt : mi_in zt) (ok_zb : mi_in zb) (ok_zg : mi_in zg) (ok_zn : mi_in zn) (ho : (zn ≠ ((0 : Int))) ∧ ((mi_f h 13960) ≠ ((0 : Int)))) (kon : ∀ h1, me_W [] h h1 → me_E (d + 12) 186 126 [some (.inr (.inr 109)), some (.inl (zd)), some (.inl (zw)), some (.inl (zp)), some (.inl (zm)), some (.inl (zt)), some (.inl (zb)), some (.inl (zg)), some (.inl (zn))] [] h1 Q) : me_E (d + 12) 186 110 [some (.inr (.inr 109)), some (.inl (zd)), some (.inl (zw)), some (.inl (zp)), some (.inl (zm)), some (.inl (zt)), some (.inl (zb)), some (.inl (zg)), some (.inl (zn))] [] h Q := me_seg (mp_fmI_1 h d zd zw zp zm zt zb zg zn) (mi_tab_fmI_1) hS (mi_okL_c (trivial) (mi_okL_c (ok_zd) (mi_okL_c (ok_zw) (mi_okL_c (ok_zp) (mi_okL_c (ok_zm) (mi_okL_c (ok_zt) (mi_okL_c (ok_zb) (mi_okL_c (ok_zg) (mi_okL_c (ok_zn) (mi_okL_e)))))))))) (mi_okS_e) (mi_al (ho.1) (mi_al (ho.2) (mi_al_e))) (fun h1 W _ hst => kon h1 W)
set_option maxRecDepth 20000 in
theorem mp_fmI_2 (h : sm_H) (d : Nat) (zd zw zp zm zt zb zg zn : Int) : mi_path [(186, (9, 0, sb_186))] sx_sk h 6 [0, 0] (d + 12, 186, 110, [some (.inr (.inr 109)), some (.inl (zd)), some (.inl (zw)), some (.inl (zp)), some (.inl (zm)), some (.inl (zt)), some (.inl (zb)), some (.inl (zg)), some (.inl (zn))], [], [], []) = some ((d + 12, 186, 123, [some (.inr (.inr 109)), some (.inl (zd)), some (.inl (zw)), some (.inl (zp)), some (.inl (zm)), some (.inl (zt)), some (.inl (zb)), some (.inl (zg)), some (.inl (zn))], [.inr (.inr 109)], [], []), [zn ≠ ((0 : Int)), (mi_f h 13960) = ((0 : Int))]) := rfl
theorem mi_tab_fmI_2 : ∀ e ∈ ([(186, (9, 0, sb_186))] : mi_T), sc_P e.1 = some e.2 := mi_tb mi_P186 (mi_tb_e)
set_option maxRecDepth 20000 in
theorem ms_fmI_2 {h : sm_H} {d : Nat} {Q : Option mi_V → sm_H → Prop} {zd zw zp zm zt zb zg zn : Int} (hS : ab_Sh sx_sk h) (ok_zd : mi_in zd) (ok_zw : mi_in zw) (ok_zp : mi_in zp) (ok_zm : mi_in zm) (ok_zt : mi_in zt) (ok_zb : mi_in zb) (ok_zg : mi_in zg) (ok_zn : mi_in zn) (ho : (zn ≠ ((0 : Int))) ∧ ((mi_f h 13960) = ((0 : Int)))) (kon : ∀ h1, me_W [] h h1 → ∃ Q1, me_E (d + 11) 193 0 (mi_entry 2 [.inr (.inr 109)]) [] h1 Q1 ∧ ∀ w h2, (∀ x, w = some x → mi_ok x) → Q1 w h2 → me_E (d + 12) 186 126 [some (.inr (.inr 109)), some (.inl (zd)), some (.inl (zw)), some (.inl (zp)), some (.inl (zm)), some (.inl (zt)), some (.inl (zb)), some (.inl (zg)), some (.inl (zn))] (mi_back w []) h2 Q) : me_E (d + 12) 186 110 [some (.inr (.inr 109)), some (.inl (zd)), some (.inl (zw)), some (.inl (zp)), some (.inl (zm)), some (.inl (zt)), some (.inl (zb)), some (.inl (zg)), some (.inl (zn))] [] h Q := me_seg (mp_fmI_2 h d zd zw zp zm zt zb zg zn) (mi_tab_fmI_2) hS (mi_okL_c (trivial) (mi_okL_c (ok_zd) (mi_okL_c (ok_zw) (mi_okL_c (ok_zp) (mi_okL_c (ok_zm) (mi_okL_c (ok_zt) (mi_okL_c (ok_zb) (mi_okL_c (ok_zg) (mi_okL_c (ok_zn) (mi_okL_e)))))))))) (mi_okS_e) (mi_al (ho.1) (mi_al (ho.2) (mi_al_e))) (fun h1 W _ hst => let ⟨_, k1, k2⟩ := kon h1 W; me_call (M := (9, 0, sb_186)) (M' := (2, 0, sb_193)) rfl rfl rfl rfl (Nat.le_of_ble_eq_true rfl) (Nat.le_of_ble_eq_true rfl) W.1 k1 k2)
set_option maxRecDepth 20000 in
theorem mt_fmI {h : sm_H} {d : Nat} {Q : Option mi_V → sm_H → Prop} {zd zw zp zm zt zb zg zn : Int} (hS : ab_Sh sx_sk h) (ok_zd : mi_in zd) (ok_zw : mi_in zw) (ok_zp : mi_in zp) (ok_zm : mi_in zm) (ok_zt : mi_in zt) (ok_zb : mi_in zb) (ok_zg : mi_in zg) (ok_zn : mi_in zn) (k0 : (zn = ((0 : Int))) → (∀ h1, ab_Sh sx_sk h1 → ab_Fr [] h h1 → me_E (d + 12) 186 126 [some (.inr (.inr 109)), some (.inl (zd)), some (.inl (zw)), some (.inl (zp)), some (.inl (zm)), some (.inl (zt)), some (.inl (zb)), some (.inl (zg)), some (.inl (zn))] [] h1 Q)) (k1 : ((-2147483648) ≤ mi_f h 13960 ∧ mi_f h 13960 ≤ 2147483647) → (zn ≠ ((0 : Int))) → ((mi_f h 13960) ≠ ((0 : Int))) → (∀ h1, ab_Sh sx_sk h1 → ab_Fr [] h h1 → me_E (d + 12) 186 126 [some (.inr (.inr 109)), some (.inl (zd)), some (.inl (zw)), some (.inl (zp)), some (.inl (zm)), some (.inl (zt)), some (.inl (zb)), some (.inl (zg)), some (.inl (zn))] [] h1 Q)) (k2 : ((-2147483648) ≤ mi_f h 13960 ∧ mi_f h 13960 ≤ 2147483647) → (zn ≠ ((0 : Int))) → ((mi_f h 13960) = ((0 : Int))) → (∀ h1, ab_Sh sx_sk h1 → ab_Fr [] h h1 → ∃ Q1, me_E (d + 11) 193 0 (mi_entry 2 [.inr (.inr 109)]) [] h1 Q1 ∧ ∀ w h2, (∀ x, w = some x → mi_ok x) → Q1 w h2 → me_E (d + 12) 186 126 [some (.inr (.inr 109)), some (.inl (zd)), some (.inl (zw)), some (.inl (zp)), some (.inl (zm)), some (.inl (zt)), some (.inl (zb)), some (.inl (zg)), some (.inl (zn))] (mi_back w []) h2 Q)) : me_E (d + 12) 186 110 [some (.inr (.inr 109)), some (.inl (zd)), some (.inl (zw)), some (.inl (zp)), some (.inl (zm)), some (.inl (zt)), some (.inl (zb)), some (.inl (zg)), some (.inl (zn))] [] h Q := Or.elim (mi_em .eq (zn) (((0 : Int)))) (fun c0 => ms_fmI_0 hS ok_zd ok_zw ok_zp ok_zm ok_zt ok_zb ok_zg ok_zn (c0) (fun h1 W => (k0 c0) h1 W.1 (W.2.2.2.2.2 _ rfl))) (fun c0 => Or.elim (mi_em .ne ((mi_f h 13960)) (((0 : Int)))) (fun c1 => ms_fmI_1 hS ok_zd ok_zw ok_zp ok_zm ok_zt ok_zb ok_zg ok_zn ⟨c0, c1⟩ (fun h1 W => (k1 (me_fb hS rfl) c0 c1) h1 W.1 (W.2.2.2.2.2 _ rfl))) (fun c1 => ms_fmI_2 hS ok_zd ok_zw ok_zp ok_zm ok_zt ok_zb ok_zg ok_zn ⟨c0, c1⟩ (fun h1 W => (k2 (me_fb hS rfl) c0 c1) h1 W.1 (W.2.2.2.2.2 _ rfl))))
set_option maxRecDepth 20000 in
theorem mp_fmJ_0 (h : sm_H) (d : Nat) (zd zw zp zm zt zb zg zn : Int) : mi_path [(186, (9, 0, sb_186))] sx_sk h 13 [1, 1] (d + 12, 186, 126, [some (.inr (.inr 109)), some (.inl (zd)), some (.inl (zw)), some (.inl (zp)), some (.inl (zm)), some (.inl (zt)), some (.inl (zb)), some (.inl (zg)), some (.inl (zn))], [], [], []) = some ((d + 12, 186, 22, [some (.inr (.inr 109)), some (.inl (zg)), some (.inl ((0 : Int))), some (.inl ((0 : Int))), some (.inl (zm)), some (.inl (zt + 1)), some (.inl (zb)), some (.inl (zg)), some (.inl (zn))], [], [], []), [zg ≠ ((0 : Int)), zg ≠ ((0 : Int)), -2147483648 ≤ zt + 1 ∧ zt + 1 ≤ 2147483647]) := rfl
theorem mi_tab_fmJ_0 : ∀ e ∈ ([(186, (9, 0, sb_186))] : mi_T), sc_P e.1 = some e.2 := mi_tb mi_P186 (mi_tb_e)
set_option maxRecDepth 20000 in
theorem ms_fmJ_0 {h : sm_H} {d : Nat} {Q : Option mi_V → sm_H → Prop} {zd zw zp zm zt zb zg zn : Int} (hS : ab_Sh sx_sk h) (ok_zd : mi_in zd) (ok_zw : mi_in zw) (ok_zp : mi_in zp) (ok_zm : mi_in zm) (ok_zt : mi_in zt) (ok_zb : mi_in zb) (ok_zg : mi_in zg) (ok_zn : mi_in zn) (ho : (zg ≠ ((0 : Int))) ∧ (zg ≠ ((0 : Int))) ∧ (-2147483648 ≤ zt + 1 ∧ zt + 1 ≤ 2147483647)) (kon : ∀ h1, me_W [] h h1 → me_E (d + 12) 186 22 [some (.inr (.inr 109)), some (.inl (zg)), some (.inl ((0 : Int))), some (.inl ((0 : Int))), some (.inl (zm)), some (.inl (zt + 1)), some (.inl (zb)), some (.inl (zg)), some (.inl (zn))] [] h1 Q) : me_E (d + 12) 186 126 [some (.inr (.inr 109)), some (.inl (zd)), some (.inl (zw)), some (.inl (zp)), some (.inl (zm)), some (.inl (zt)), some (.inl (zb)), some (.inl (zg)), some (.inl (zn))] [] h Q := me_seg (mp_fmJ_0 h d zd zw zp zm zt zb zg zn) (mi_tab_fmJ_0) hS (mi_okL_c (trivial) (mi_okL_c (ok_zd) (mi_okL_c (ok_zw) (mi_okL_c (ok_zp) (mi_okL_c (ok_zm) (mi_okL_c (ok_zt) (mi_okL_c (ok_zb) (mi_okL_c (ok_zg) (mi_okL_c (ok_zn) (mi_okL_e)))))))))) (mi_okS_e) (mi_al (ho.1) (mi_al (ho.2.1) (mi_al (ho.2.2) (mi_al_e)))) (fun h1 W _ hst => kon h1 W)
set_option maxRecDepth 20000 in
theorem mp_fmJ_1 (h : sm_H) (d : Nat) (zd zw zp zm zt zb zg zn : Int) : mi_path [(186, (9, 0, sb_186))] sx_sk h 16 [0, 0, 1] (d + 12, 186, 126, [some (.inr (.inr 109)), some (.inl (zd)), some (.inl (zw)), some (.inl (zp)), some (.inl (zm)), some (.inl (zt)), some (.inl (zb)), some (.inl (zg)), some (.inl (zn))], [], [], []) = some ((d + 12, 186, 22, [some (.inr (.inr 109)), some (.inl (zg)), some (.inl ((1 : Int))), some (.inl ((0 : Int))), some (.inl (zm)), some (.inl (zt + 1)), some (.inl (zb)), some (.inl (zg)), some (.inl (zn))], [], [], []), [zg = ((0 : Int)), zg = ((0 : Int)), zb ≠ ((0 : Int)), -2147483648 ≤ zt + 1 ∧ zt + 1 ≤ 2147483647]) := rfl
theorem mi_tab_fmJ_1 : ∀ e ∈ ([(186, (9, 0, sb_186))] : mi_T), sc_P e.1 = some e.2 := mi_tb mi_P186 (mi_tb_e)
set_option maxRecDepth 20000 in
theorem ms_fmJ_1 {h : sm_H} {d : Nat} {Q : Option mi_V → sm_H → Prop} {zd zw zp zm zt zb zg zn : Int} (hS : ab_Sh sx_sk h) (ok_zd : mi_in zd) (ok_zw : mi_in zw) (ok_zp : mi_in zp) (ok_zm : mi_in zm) (ok_zt : mi_in zt) (ok_zb : mi_in zb) (ok_zg : mi_in zg) (ok_zn : mi_in zn) (ho : (zg = ((0 : Int))) ∧ (zg = ((0 : Int))) ∧ (zb ≠ ((0 : Int))) ∧ (-2147483648 ≤ zt + 1 ∧ zt + 1 ≤ 2147483647)) (kon : ∀ h1, me_W [] h h1 → me_E (d + 12) 186 22 [some (.inr (.inr 109)), some (.inl (zg)), some (.inl ((1 : Int))), some (.inl ((0 : Int))), some (.inl (zm)), some (.inl (zt + 1)), some (.inl (zb)), some (.inl (zg)), some (.inl (zn))] [] h1 Q) : me_E (d + 12) 186 126 [some (.inr (.inr 109)), some (.inl (zd)), some (.inl (zw)), some (.inl (zp)), some (.inl (zm)), some (.inl (zt)), some (.inl (zb)), some (.inl (zg)), some (.inl (zn))] [] h Q := me_seg (mp_fmJ_1 h d zd zw zp zm zt zb zg zn) (mi_tab_fmJ_1) hS (mi_okL_c (trivial) (mi_okL_c (ok_zd) (mi_okL_c (ok_zw) (mi_okL_c (ok_zp) (mi_okL_c (ok_zm) (mi_okL_c (ok_zt) (mi_okL_c (ok_zb) (mi_okL_c (ok_zg) (mi_okL_c (ok_zn) (mi_okL_e)))))))))) (mi_okS_e) (mi_al (ho.1) (mi_al (ho.2.1) (mi_al (ho.2.2.1) (mi_al (ho.2.2.2) (mi_al_e))))) (fun h1 W _ hst => kon h1 W)
set_option maxRecDepth 20000 in
theorem mp_fmJ_2 (h : sm_H) (d : Nat) (zd zw zp zm zt zb zg zn : Int) : mi_path [(186, (9, 0, sb_186))] sx_sk h 17 [0, 0, 0] (d + 12, 186, 126, [some (.inr (.inr 109)), some (.inl (zd)), some (.inl (zw)), some (.inl (zp)), some (.inl (zm)), some (.inl (zt)), some (.inl (zb)), some (.inl (zg)), some (.inl (zn))], [], [], []) = some ((d + 12, 186, 22, [some (.inr (.inr 109)), some (.inl (zg)), some (.inl ((1 : Int))), some (.inl ((1 : Int))), some (.inl (zm)), some (.inl (zt + 1)), some (.inl (zb)), some (.inl (zg)), some (.inl (zn))], [], [], []), [zg = ((0 : Int)), zg = ((0 : Int)), zb = ((0 : Int)), -2147483648 ≤ zt + 1 ∧ zt + 1 ≤ 2147483647]) := rfl
theorem mi_tab_fmJ_2 : ∀ e ∈ ([(186, (9, 0, sb_186))] : mi_T), sc_P e.1 = some e.2 := mi_tb mi_P186 (mi_tb_e)
set_option maxRecDepth 20000 in
theorem ms_fmJ_2 {h : sm_H} {d : Nat} {Q : Option mi_V → sm_H → Prop} {zd zw zp zm zt zb zg zn : Int} (hS : ab_Sh sx_sk h) (ok_zd : mi_in zd) (ok_zw : mi_in zw) (ok_zp : mi_in zp) (ok_zm : mi_in zm) (ok_zt : mi_in zt) (ok_zb : mi_in zb) (ok_zg : mi_in zg) (ok_zn : mi_in zn) (ho : (zg = ((0 : Int))) ∧ (zg = ((0 : Int))) ∧ (zb = ((0 : Int))) ∧ (-2147483648 ≤ zt + 1 ∧ zt + 1 ≤ 2147483647)) (kon : ∀ h1, me_W [] h h1 → me_E (d + 12) 186 22 [some (.inr (.inr 109)), some (.inl (zg)), some (.inl ((1 : Int))), some (.inl ((1 : Int))), some (.inl (zm)), some (.inl (zt + 1)), some (.inl (zb)), some (.inl (zg)), some (.inl (zn))] [] h1 Q) : me_E (d + 12) 186 126 [some (.inr (.inr 109)), some (.inl (zd)), some (.inl (zw)), some (.inl (zp)), some (.inl (zm)), some (.inl (zt)), some (.inl (zb)), some (.inl (zg)), some (.inl (zn))] [] h Q := me_seg (mp_fmJ_2 h d zd zw zp zm zt zb zg zn) (mi_tab_fmJ_2) hS (mi_okL_c (trivial) (mi_okL_c (ok_zd) (mi_okL_c (ok_zw) (mi_okL_c (ok_zp) (mi_okL_c (ok_zm) (mi_okL_c (ok_zt) (mi_okL_c (ok_zb) (mi_okL_c (ok_zg) (mi_okL_c (ok_zn) (mi_okL_e)))))))))) (mi_okS_e) (mi_al (ho.1) (mi_al (ho.2.1) (mi_al (ho.2.2.1) (mi_al (ho.2.2.2) (mi_al_e))))) (fun h1 W _ hst => kon h1 W)
set_option maxRecDepth 20000 in
theorem mt_fmJ {h : sm_H} {d : Nat} {Q : Option mi_V → sm_H → Prop} {zd zw zp zm zt zb zg zn : Int} (hS : ab_Sh sx_sk h) (ok_zd : mi_in zd) (ok_zw : mi_in zw) (ok_zp : mi_in zp) (ok_zm : mi_in zm) (ok_zt : mi_in zt) (ok_zb : mi_in zb) (ok_zg : mi_in zg) (ok_zn : mi_in zn) (k0 : (zg ≠ ((0 : Int))) → ((-2147483648 ≤ zt + 1 ∧ zt + 1 ≤ 2147483647)) ∧ (∀ h1, ab_Sh sx_sk h1 → ab_Fr [] h h1 → me_E (d + 12) 186 22 [some (.inr (.inr 109)), some (.inl (zg)), some (.inl ((0 : Int))), some (.inl ((0 : Int))), some (.inl (zm)), some (.inl (zt + 1)), some (.inl (zb)), some (.inl (zg)), some (.inl (zn))] [] h1 Q)) (k1 : (zg = ((0 : Int))) → (zb ≠ ((0 : Int))) → ((-2147483648 ≤ zt + 1 ∧ zt + 1 ≤ 2147483647)) ∧ (∀ h1, ab_Sh sx_sk h1 → ab_Fr [] h h1 → me_E (d + 12) 186 22 [some (.inr (.inr 109)), some (.inl (zg)), some (.inl ((1 : Int))), some (.inl ((0 : Int))), some (.inl (zm)), some (.inl (zt + 1)), some (.inl (zb)), some (.inl (zg)), some (.inl (zn))] [] h1 Q)) (k2 : (zg = ((0 : Int))) → (zb = ((0 : Int))) → ((-2147483648 ≤ zt + 1 ∧ zt + 1 ≤ 2147483647)) ∧ (∀ h1, ab_Sh sx_sk h1 → ab_Fr [] h h1 → me_E (d + 12) 186 22 [some (.inr (.inr 109)), some (.inl (zg)), some (.inl ((1 : Int))), some (.inl ((1 : Int))), some (.inl (zm)), some (.inl (zt + 1)), some (.inl (zb)), some (.inl (zg)), some (.inl (zn))] [] h1 Q)) : me_E (d + 12) 186 126 [some (.inr (.inr 109)), some (.inl (zd)), some (.inl (zw)), some (.inl (zp)), some (.inl (zm)), some (.inl (zt)), some (.inl (zb)), some (.inl (zg)), some (.inl (zn))] [] h Q := Or.elim (mi_em .ne (zg) (((0 : Int)))) (fun c0 => ms_fmJ_0 hS ok_zd ok_zw ok_zp ok_zm ok_zt ok_zb ok_zg ok_zn ⟨c0, c0, (k0 c0).1⟩ (fun h1 W => (k0 c0).2 h1 W.1 (W.2.2.2.2.2 _ rfl))) (fun c0 => Or.elim (mi_em .ne (zb) (((0 : Int)))) (fun c1 => ms_fmJ_1 hS ok_zd ok_zw ok_zp ok_zm ok_zt ok_zb ok_zg ok_zn ⟨c0, c0, c1, (k1 c0 c1).1⟩ (fun h1 W => (k1 c0 c1).2 h1 W.1 (W.2.2.2.2.2 _ rfl))) (fun c1 => ms_fmJ_2 hS ok_zd ok_zw ok_zp ok_zm ok_zt ok_zb ok_zg ok_zn ⟨c0, c0, c1, (k2 c0 c1).1⟩ (fun h1 W => (k2 c0 c1).2 h1 W.1 (W.2.2.2.2.2 _ rfl))))
set_option maxRecDepth 20000 in
theorem mp_fmK_0 (h : sm_H) (d : Nat) (zd zw zp zm zt zb : Int) (q7 q8 : Option mi_V) : mi_path [(186, (9, 0, sb_186))] sx_sk h 2 [1] (d + 12, 186, 159, [some (.inr (.inr 109)), some (.inl (zd)), some (.inl (zw)), some (.inl (zp)), some (.inl (zm)), some (.inl (zt)), some (.inl (zb)), q7, q8], [], [], []) = some ((d + 12, 186, 175, [some (.inr (.inr 109)), some (.inl (zd)), some (.inl (zw)), some (.inl (zp)), some (.inl (zm)), some (.inl (zt)), some (.inl (zb)), q7, q8], [], [], []), [zd = ((0 : Int))]) := rfl
theorem mi_tab_fmK_0 : ∀ e ∈ ([(186, (9, 0, sb_186))] : mi_T), sc_P e.1 = some e.2 := mi_tb mi_P186 (mi_tb_e)
set_option maxRecDepth 20000 in
theorem ms_fmK_0 {h : sm_H} {d : Nat} {Q : Option mi_V → sm_H → Prop} {zd zw zp zm zt zb : Int} {q7 q8 : Option mi_V} (hS : ab_Sh sx_sk h) (ok_zd : mi_in zd) (ok_zw : mi_in zw) (ok_zp : mi_in zp) (ok_zm : mi_in zm) (ok_zt : mi_in zt) (ok_zb : mi_in zb) (ok_q7 : ∀ v, q7 = some v → mi_ok v) (ok_q8 : ∀ v, q8 = some v → mi_ok v) (ho : (zd = ((0 : Int)))) (kon : ∀ h1, me_W [] h h1 → me_E (d + 12) 186 175 [some (.inr (.inr 109)), some (.inl (zd)), some (.inl (zw)), some (.inl (zp)), some (.inl (zm)), some (.inl (zt)), some (.inl (zb)), q7, q8] [] h1 Q) : me_E (d + 12) 186 159 [some (.inr (.inr 109)), some (.inl (zd)), some (.inl (zw)), some (.inl (zp)), some (.inl (zm)), some (.inl (zt)), some (.inl (zb)), q7, q8] [] h Q := me_seg (mp_fmK_0 h d zd zw zp zm zt zb q7 q8) (mi_tab_fmK_0) hS (mi_okL_c (trivial) (mi_okL_c (ok_zd) (mi_okL_c (ok_zw) (mi_okL_c (ok_zp) (mi_okL_c (ok_zm) (mi_okL_c (ok_zt) (mi_okL_c (ok_zb) (mi_okL_o ok_q7 (mi_okL_o ok_q8 (mi_okL_e)))))))))) (mi_okS_e) (mi_al (ho) (mi_al_e)) (fun h1 W _ hst => kon h1 W)
set_option maxRecDepth 20000 in
theorem mp_fmK_1 (h : sm_H) (d : Nat) (zd zw zp zm zt zb : Int) (q7 q8 : Option mi_V) : mi_path [(186, (9, 0, sb_186))] sx_sk h 6 [0] (d + 12, 186, 159, [some (.inr (.inr 109)), some (.inl (zd)), some (.inl (zw)), some (.inl (zp)), some (.inl (zm)), some (.inl (zt)), some (.inl (zb)), q7, q8], [], [], []) = some ((d + 12, 186, 169, [some (.inr (.inr 109)), some (.inl (zd)), some (.inl (zw)), some (.inl (zp)), some (.inl (zm)), some (.inl (zt)), some (.inl (zb)), q7, q8], [.inl (mi_f h 14002), .inl ((1 : Int)), .inr (.inr 109)], [], []), [zd ≠ ((0 : Int))]) := rfl
theorem mi_tab_fmK_1 : ∀ e ∈ ([(186, (9, 0, sb_186))] : mi_T), sc_P e.1 = some e.2 := mi_tb mi_P186 (mi_tb_e)
set_option maxRecDepth 20000 in
theorem ms_fmK_1 {h : sm_H} {d : Nat} {Q : Option mi_V → sm_H → Prop} {zd zw zp zm zt zb : Int} {q7 q8 : Option mi_V} (hS : ab_Sh sx_sk h) (ok_zd : mi_in zd) (ok_zw : mi_in zw) (ok_zp : mi_in zp) (ok_zm : mi_in zm) (ok_zt : mi_in zt) (ok_zb : mi_in zb) (ok_q7 : ∀ v, q7 = some v → mi_ok v) (ok_q8 : ∀ v, q8 = some v → mi_ok v) (ho : (zd ≠ ((0 : Int)))) (kon : ∀ h1, me_W [] h h1 → ∃ Q1, me_E (d + 11) 184 0 (mi_entry 3 [.inr (.inr 109), .inl ((1 : Int)), .inl (mi_f h 14002)]) [] h1 Q1 ∧ ∀ w h2, (∀ x, w = some x → mi_ok x) → Q1 w h2 → me_E (d + 12) 186 172 [some (.inr (.inr 109)), some (.inl (zd)), some (.inl (zw)), some (.inl (zp)), some (.inl (zm)), some (.inl (zt)), some (.inl (zb)), q7, q8] (mi_back w []) h2 Q) : me_E (d + 12) 186 159 [some (.inr (.inr 109)), some (.inl (zd)), some (.inl (zw)), some (.inl (zp)), some (.inl (zm)), some (.inl (zt)), some (.inl (zb)), q7, q8] [] h Q := me_seg (mp_fmK_1 h d zd zw zp zm zt zb q7 q8) (mi_tab_fmK_1) hS (mi_okL_c (trivial) (mi_okL_c (ok_zd) (mi_okL_c (ok_zw) (mi_okL_c (ok_zp) (mi_okL_c (ok_zm) (mi_okL_c (ok_zt) (mi_okL_c (ok_zb) (mi_okL_o ok_q7 (mi_okL_o ok_q8 (mi_okL_e)))))))))) (mi_okS_e) (mi_al (ho) (mi_al_e)) (fun h1 W _ hst => let ⟨_, k1, k2⟩ := kon h1 W; me_call (M := (9, 0, sb_186)) (M' := (3, 0, sb_184)) rfl rfl rfl rfl (Nat.le_of_ble_eq_true rfl) (Nat.le_of_ble_eq_true rfl) W.1 k1 k2)
set_option maxRecDepth 20000 in
theorem mt_fmK {h : sm_H} {d : Nat} {Q : Option mi_V → sm_H → Prop} {zd zw zp zm zt zb : Int} {q7 q8 : Option mi_V} (hS : ab_Sh sx_sk h) (ok_zd : mi_in zd) (ok_zw : mi_in zw) (ok_zp : mi_in zp) (ok_zm : mi_in zm) (ok_zt : mi_in zt) (ok_zb : mi_in zb) (ok_q7 : ∀ v, q7 = some v → mi_ok v) (ok_q8 : ∀ v, q8 = some v → mi_ok v) (k0 : (zd = ((0 : Int))) → (∀ h1, ab_Sh sx_sk h1 → ab_Fr [] h h1 → me_E (d + 12) 186 175 [some (.inr (.inr 109)), some (.inl (zd)), some (.inl (zw)), some (.inl (zp)), some (.inl (zm)), some (.inl (zt)), some (.inl (zb)), q7, q8] [] h1 Q)) (k1 : (zd ≠ ((0 : Int))) → (∀ h1, ab_Sh sx_sk h1 → ab_Fr [] h h1 → ∃ Q1, me_E (d + 11) 184 0 (mi_entry 3 [.inr (.inr 109), .inl ((1 : Int)), .inl (mi_f h 14002)]) [] h1 Q1 ∧ ∀ w h2, (∀ x, w = some x → mi_ok x) → Q1 w h2 → me_E (d + 12) 186 172 [some (.inr (.inr 109)), some (.inl (zd)), some (.inl (zw)), some (.inl (zp)), some (.inl (zm)), some (.inl (zt)), some (.inl (zb)), q7, q8] (mi_back w []) h2 Q)) : me_E (d + 12) 186 159 [some (.inr (.inr 109)), some (.inl (zd)), some (.inl (zw)), some (.inl (zp)), some (.inl (zm)), some (.inl (zt)), some (.inl (zb)), q7, q8] [] h Q := Or.elim (mi_em .eq (zd) (((0 : Int)))) (fun c0 => ms_fmK_0 hS ok_zd ok_zw ok_zp ok_zm ok_zt ok_zb ok_q7 ok_q8 (c0) (fun h1 W => (k0 c0) h1 W.1 (W.2.2.2.2.2 _ rfl))) (fun c0 => ms_fmK_1 hS ok_zd ok_zw ok_zp ok_zm ok_zt ok_zb ok_q7 ok_q8 (c0) (fun h1 W => (k1 c0) h1 W.1 (W.2.2.2.2.2 _ rfl)))
set_option maxRecDepth 20000 in
theorem mp_fmL_0 (h : sm_H) (d : Nat) (zd zw zp zm zt zb : Int) (q7 q8 : Option mi_V) : mi_path [(186, (9, 0, sb_186))] sx_sk h 3 [] (d + 12, 186, 172, [some (.inr (.inr 109)), some (.inl (zd)), some (.inl (zw)), some (.inl (zp)), some (.inl (zm)), some (.inl (zt)), some (.inl (zb)), q7, q8], [], [], []) = some ((d + 12, 186, 22, [some (.inr (.inr 109)), some (.inl (zd)), some (.inl (zw)), some (.inl (zp)), some (.inl (zm)), some (.inl (zt + 1)), some (.inl (zb)), q7, q8], [], [], []), [-2147483648 ≤ zt + 1 ∧ zt + 1 ≤ 2147483647]) := rfl
theorem mi_tab_fmL_0 : ∀ e ∈ ([(186, (9, 0, sb_186))] : mi_T), sc_P e.1 = some e.2 := mi_tb mi_P186 (mi_tb_e)
set_option maxRecDepth 20000 in
theorem ms_fmL_0 {h : sm_H} {d : Nat} {Q : Option mi_V → sm_H → Prop} {zd zw zp zm zt zb : Int} {q7 q8 : Option mi_V} (hS : ab_Sh sx_sk h) (ok_zd : mi_in zd) (ok_zw : mi_in zw) (ok_zp : mi_in zp) (ok_zm : mi_in zm) (ok_zt : mi_in zt) (ok_zb : mi_in zb) (ok_q7 : ∀ v, q7 = some v → mi_ok v) (ok_q8 : ∀ v, q8 = some v → mi_ok v) (ho : (-2147483648 ≤ zt + 1 ∧ zt + 1 ≤ 2147483647)) (kon : ∀ h1, me_W [] h h1 → me_E (d + 12) 186 22 [some (.inr (.inr 109)), some (.inl (zd)), some (.inl (zw)), some (.inl (zp)), some (.inl (zm)), some (.inl (zt + 1)), some (.inl (zb)), q7, q8] [] h1 Q) : me_E (d + 12) 186 172 [some (.inr (.inr 109)), some (.inl (zd)), some (.inl (zw)), some (.inl (zp)), some (.inl (zm)), some (.inl (zt)), some (.inl (zb)), q7, q8] [] h Q := me_seg (mp_fmL_0 h d zd zw zp zm zt zb q7 q8) (mi_tab_fmL_0) hS (mi_okL_c (trivial) (mi_okL_c (ok_zd) (mi_okL_c (ok_zw) (mi_okL_c (ok_zp) (mi_okL_c (ok_zm) (mi_okL_c (ok_zt) (mi_okL_c (ok_zb) (mi_okL_o ok_q7 (mi_okL_o ok_q8 (mi_okL_e)))))))))) (mi_okS_e) (mi_al (ho) (mi_al_e)) (fun h1 W _ hst => kon h1 W)
set_option maxRecDepth 20000 in
theorem mt_fmL {h : sm_H} {d : Nat} {Q : Option mi_V → sm_H → Prop} {zd zw zp zm zt zb : Int} {q7 q8 : Option mi_V} (hS : ab_Sh sx_sk h) (ok_zd : mi_in zd) (ok_zw : mi_in zw) (ok_zp : mi_in zp) (ok_zm : mi_in zm) (ok_zt : mi_in zt) (ok_zb : mi_in zb) (ok_q7 : ∀ v, q7 = some v → mi_ok v) (ok_q8 : ∀ v, q8 = some v → mi_ok v) (k0 : ((-2147483648 ≤ zt + 1 ∧ zt + 1 ≤ 2147483647)) ∧ (∀ h1, ab_Sh sx_sk h1 → ab_Fr [] h h1 → me_E (d + 12) 186 22 [some (.inr (.inr 109)), some (.inl (zd)), some (.inl (zw)), some (.inl (zp)), some (.inl (zm)), some (.inl (zt + 1)), some (.inl (zb)), q7, q8] [] h1 Q)) : me_E (d + 12) 186 172 [some (.inr (.inr 109)), some (.inl (zd)), some (.inl (zw)), some (.inl (zp)), some (.inl (zm)), some (.inl (zt)), some (.inl (zb)), q7, q8] [] h Q := ms_fmL_0 hS ok_zd ok_zw ok_zp ok_zm ok_zt ok_zb ok_q7 ok_q8 ((k0).1) (fun h1 W => (k0).2 h1 W.1 (W.2.2.2.2.2 _ rfl))
set_option maxRecDepth 20000 in
theorem mp_fmM_0 (h : sm_H) (d : Nat) (zd zw zp zm zt zb : Int) (q7 q8 : Option mi_V) : mi_path [(186, (9, 0, sb_186))] sx_sk h 6 [1, 1] (d + 12, 186, 175, [some (.inr (.inr 109)), some (.inl (zd)), some (.inl (zw)), some (.inl (zp)), some (.inl (zm)), some (.inl (zt)), some (.inl (zb)), q7, q8], [], [], []) = some ((d + 12, 186, 245, [some (.inr (.inr 109)), some (.inl (zd)), some (.inl (zw)), some (.inl (zp)), some (.inl (zm)), some (.inl (zt)), some (.inl (zb)), q7, q8], [], [], []), [(mi_f h 14001) = ((42 : Int)), zw = ((0 : Int))]) := rfl
theorem mi_tab_fmM_0 : ∀ e ∈ ([(186, (9, 0, sb_186))] : mi_T), sc_P e.1 = some e.2 := mi_tb mi_P186 (mi_tb_e)
set_option maxRecDepth 20000 in
theorem ms_fmM_0 {h : sm_H} {d : Nat} {Q : Option mi_V → sm_H → Prop} {zd zw zp zm zt zb : Int} {q7 q8 : Option mi_V} (hS : ab_Sh sx_sk h) (ok_zd : mi_in zd) (ok_zw : mi_in zw) (ok_zp : mi_in zp) (ok_zm : mi_in zm) (ok_zt : mi_in zt) (ok_zb : mi_in zb) (ok_q7 : ∀ v, q7 = some v → mi_ok v) (ok_q8 : ∀ v, q8 = some v → mi_ok v) (ho : ((mi_f h 14001) = ((42 : Int))) ∧ (zw = ((0 : Int)))) (kon : ∀ h1, me_W [] h h1 → me_E (d + 12) 186 245 [some (.inr (.inr 109)), some (.inl (zd)), some (.inl (zw)), some (.inl (zp)), some (.inl (zm)), some (.inl (zt)), some (.inl (zb)), q7, q8] [] h1 Q) : me_E (d + 12) 186 175 [some (.inr (.inr 109)), some (.inl (zd)), some (.inl (zw)), some (.inl (zp)), some (.inl (zm)), some (.inl (zt)), some (.inl (zb)), q7, q8] [] h Q := me_seg (mp_fmM_0 h d zd zw zp zm zt zb q7 q8) (mi_tab_fmM_0) hS (mi_okL_c (trivial) (mi_okL_c (ok_zd) (mi_okL_c (ok_zw) (mi_okL_c (ok_zp) (mi_okL_c (ok_zm) (mi_okL_c (ok_zt) (mi_okL_c (ok_zb) (mi_okL_o ok_q7 (mi_okL_o ok_q8 (mi_okL_e)))))))))) (mi_okS_e) (mi_al (ho.1) (mi_al (ho.2) (mi_al_e))) (fun h1 W _ hst => kon h1 W)
set_option maxRecDepth 20000 in
theorem mp_fmM_1 (h : sm_H) (d : Nat) (zd zw zp zm zt zb : Int) (q7 q8 : Option mi_V) : mi_path [(186, (9, 0, sb_186))] sx_sk h 33 [1, 0, 0] (d + 12, 186, 175, [some (.inr (.inr 109)), some (.inl (zd)), some (.inl (zw)), some (.inl (zp)), some (.inl (zm)), some (.inl (zt)), some (.inl (zb)), q7, q8], [], [], []) = some ((d + 12, 186, 22, [some (.inr (.inr 109)), some (.inl (zd)), some (.inl ((0 : Int))), some (.inl (zp)), some (.inl (zm)), some (.inl (zt + 1)), some (.inl (zb)), some (.inl (mi_a h 150 (Int.toNat (mi_f h 14003)))), q8], [], [.inr (.inr (.inl (123, Int.toNat (mi_a h 150 (Int.toNat (mi_f h 14003))), mi_f h 14002))), .inr (.inr (.inl (122, Int.toNat (mi_a h 150 (Int.toNat (mi_f h 14003))), (1 : Int))))], []), [(mi_f h 14001) = ((42 : Int)), zw ≠ ((0 : Int)), 0 ≤ (mi_f h 14003) ∧ (mi_f h 14003) < 6, (mi_f h 14001) = ((42 : Int)), 0 ≤ (mi_a h 150 (Int.toNat (mi_f h 14003))) ∧ (mi_a h 150 (Int.toNat (mi_f h 14003))) < 60, 0 ≤ (mi_a h 150 (Int.toNat (mi_f h 14003))) ∧ (mi_a h 150 (Int.toNat (mi_f h 14003))) < 60, -2147483648 ≤ zt + 1 ∧ zt + 1 ≤ 2147483647]) := rfl
theorem mi_tab_fmM_1 : ∀ e ∈ ([(186, (9, 0, sb_186))] : mi_T), sc_P e.1 = some e.2 := mi_tb mi_P186 (mi_tb_e)
set_option maxRecDepth 20000 in
theorem ms_fmM_1 {h : sm_H} {d : Nat} {Q : Option mi_V → sm_H → Prop} {zd zw zp zm zt zb : Int} {q7 q8 : Option mi_V} (hS : ab_Sh sx_sk h) (ok_zd : mi_in zd) (ok_zw : mi_in zw) (ok_zp : mi_in zp) (ok_zm : mi_in zm) (ok_zt : mi_in zt) (ok_zb : mi_in zb) (ok_q7 : ∀ v, q7 = some v → mi_ok v) (ok_q8 : ∀ v, q8 = some v → mi_ok v) (ho : ((mi_f h 14001) = ((42 : Int))) ∧ (zw ≠ ((0 : Int))) ∧ (0 ≤ (mi_f h 14003) ∧ (mi_f h 14003) < 6) ∧ ((mi_f h 14001) = ((42 : Int))) ∧ (0 ≤ (mi_a h 150 (Int.toNat (mi_f h 14003))) ∧ (mi_a h 150 (Int.toNat (mi_f h 14003))) < 60) ∧ (0 ≤ (mi_a h 150 (Int.toNat (mi_f h 14003))) ∧ (mi_a h 150 (Int.toNat (mi_f h 14003))) < 60) ∧ (-2147483648 ≤ zt + 1 ∧ zt + 1 ≤ 2147483647)) (kon : ∀ h1, me_W [.inr (.inr (.inl (123, Int.toNat (mi_a h 150 (Int.toNat (mi_f h 14003))), mi_f h 14002))), .inr (.inr (.inl (122, Int.toNat (mi_a h 150 (Int.toNat (mi_f h 14003))), (1 : Int))))] h h1 → me_E (d + 12) 186 22 [some (.inr (.inr 109)), some (.inl (zd)), some (.inl ((0 : Int))), some (.inl (zp)), some (.inl (zm)), some (.inl (zt + 1)), some (.inl (zb)), some (.inl (mi_a h 150 (Int.toNat (mi_f h 14003)))), q8] [] h1 Q) : me_E (d + 12) 186 175 [some (.inr (.inr 109)), some (.inl (zd)), some (.inl (zw)), some (.inl (zp)), some (.inl (zm)), some (.inl (zt)), some (.inl (zb)), q7, q8] [] h Q := me_seg (mp_fmM_1 h d zd zw zp zm zt zb q7 q8) (mi_tab_fmM_1) hS (mi_okL_c (trivial) (mi_okL_c (ok_zd) (mi_okL_c (ok_zw) (mi_okL_c (ok_zp) (mi_okL_c (ok_zm) (mi_okL_c (ok_zt) (mi_okL_c (ok_zb) (mi_okL_o ok_q7 (mi_okL_o ok_q8 (mi_okL_e)))))))))) (mi_okS_e) (mi_al (ho.1) (mi_al (ho.2.1) (mi_al (ho.2.2.1) (mi_al (ho.2.2.2.1) (mi_al (ho.2.2.2.2.1) (mi_al (ho.2.2.2.2.2.1) (mi_al (ho.2.2.2.2.2.2) (mi_al_e)))))))) (fun h1 W _ hst => kon h1 W)
set_option maxRecDepth 20000 in
theorem mp_fmM_2 (h : sm_H) (d : Nat) (zd zw zp zm zt zb : Int) (q7 q8 : Option mi_V) : mi_path [(186, (9, 0, sb_186))] sx_sk h 8 [0, 1] (d + 12, 186, 175, [some (.inr (.inr 109)), some (.inl (zd)), some (.inl (zw)), some (.inl (zp)), some (.inl (zm)), some (.inl (zt)), some (.inl (zb)), q7, q8], [], [], []) = some ((d + 12, 186, 245, [some (.inr (.inr 109)), some (.inl (zd)), some (.inl (zw)), some (.inl (zp)), some (.inl (zm)), some (.inl (zt)), some (.inl (zb)), q7, q8], [], [], []), [(mi_f h 14001) ≠ ((42 : Int)), (mi_f h 14001) ≠ ((63 : Int))]) := rfl
theorem mi_tab_fmM_2 : ∀ e ∈ ([(186, (9, 0, sb_186))] : mi_T), sc_P e.1 = some e.2 := mi_tb mi_P186 (mi_tb_e)
set_option maxRecDepth 20000 in
theorem ms_fmM_2 {h : sm_H} {d : Nat} {Q : Option mi_V → sm_H → Prop} {zd zw zp zm zt zb : Int} {q7 q8 : Option mi_V} (hS : ab_Sh sx_sk h) (ok_zd : mi_in zd) (ok_zw : mi_in zw) (ok_zp : mi_in zp) (ok_zm : mi_in zm) (ok_zt : mi_in zt) (ok_zb : mi_in zb) (ok_q7 : ∀ v, q7 = some v → mi_ok v) (ok_q8 : ∀ v, q8 = some v → mi_ok v) (ho : ((mi_f h 14001) ≠ ((42 : Int))) ∧ ((mi_f h 14001) ≠ ((63 : Int)))) (kon : ∀ h1, me_W [] h h1 → me_E (d + 12) 186 245 [some (.inr (.inr 109)), some (.inl (zd)), some (.inl (zw)), some (.inl (zp)), some (.inl (zm)), some (.inl (zt)), some (.inl (zb)), q7, q8] [] h1 Q) : me_E (d + 12) 186 175 [some (.inr (.inr 109)), some (.inl (zd)), some (.inl (zw)), some (.inl (zp)), some (.inl (zm)), some (.inl (zt)), some (.inl (zb)), q7, q8] [] h Q := me_seg (mp_fmM_2 h d zd zw zp zm zt zb q7 q8) (mi_tab_fmM_2) hS (mi_okL_c (trivial) (mi_okL_c (ok_zd) (mi_okL_c (ok_zw) (mi_okL_c (ok_zp) (mi_okL_c (ok_zm) (mi_okL_c (ok_zt) (mi_okL_c (ok_zb) (mi_okL_o ok_q7 (mi_okL_o ok_q8 (mi_okL_e)))))))))) (mi_okS_e) (mi_al (ho.1) (mi_al (ho.2) (mi_al_e))) (fun h1 W _ hst => kon h1 W)
set_option maxRecDepth 20000 in
theorem mp_fmM_3 (h : sm_H) (d : Nat) (zd zw zp zm zt zb : Int) (q7 q8 : Option mi_V) : mi_path [(186, (9, 0, sb_186))] sx_sk h 10 [0, 0, 1] (d + 12, 186, 175, [some (.inr (.inr 109)), some (.inl (zd)), some (.inl (zw)), some (.inl (zp)), some (.inl (zm)), some (.inl (zt)), some (.inl (zb)), q7, q8], [], [], []) = some ((d + 12, 186, 245, [some (.inr (.inr 109)), some (.inl (zd)), some (.inl (zw)), some (.inl (zp)), some (.inl (zm)), some (.inl (zt)), some (.inl (zb)), q7, q8], [], [], []), [(mi_f h 14001) ≠ ((42 : Int)), (mi_f h 14001) = ((63 : Int)), zw = ((0 : Int))]) := rfl
theorem mi_tab_fmM_3 : ∀ e ∈ ([(186, (9, 0, sb_186))] : mi_T), sc_P e.1 = some e.2 := mi_tb mi_P186 (mi_tb_e)
set_option maxRecDepth 20000 in
theorem ms_fmM_3 {h : sm_H} {d : Nat} {Q : Option mi_V → sm_H → Prop} {zd zw zp zm zt zb : Int} {q7 q8 : Option mi_V} (hS : ab_Sh sx_sk h) (ok_zd : mi_in zd) (ok_zw : mi_in zw) (ok_zp : mi_in zp) (ok_zm : mi_in zm) (ok_zt : mi_in zt) (ok_zb : mi_in zb) (ok_q7 : ∀ v, q7 = some v → mi_ok v) (ok_q8 : ∀ v, q8 = some v → mi_ok v) (ho : ((mi_f h 14001) ≠ ((42 : Int))) ∧ ((mi_f h 14001) = ((63 : Int))) ∧ (zw = ((0 : Int)))) (kon : ∀ h1, me_W [] h h1 → me_E (d + 12) 186 245 [some (.inr (.inr 109)), some (.inl (zd)), some (.inl (zw)), some (.inl (zp)), some (.inl (zm)), some (.inl (zt)), some (.inl (zb)), q7, q8] [] h1 Q) : me_E (d + 12) 186 175 [some (.inr (.inr 109)), some (.inl (zd)), some (.inl (zw)), some (.inl (zp)), some (.inl (zm)), some (.inl (zt)), some (.inl (zb)), q7, q8] [] h Q := me_seg (mp_fmM_3 h d zd zw zp zm zt zb q7 q8) (mi_tab_fmM_3) hS (mi_okL_c (trivial) (mi_okL_c (ok_zd) (mi_okL_c (ok_zw) (mi_okL_c (ok_zp) (mi_okL_c (ok_zm) (mi_okL_c (ok_zt) (mi_okL_c (ok_zb) (mi_okL_o ok_q7 (mi_okL_o ok_q8 (mi_okL_e)))))))))) (mi_okS_e) (mi_al (ho.1) (mi_al (ho.2.1) (mi_al (ho.2.2) (mi_al_e)))) (fun h1 W _ hst => kon h1 W)
set_option maxRecDepth 20000 in
theorem mp_fmM_4 (h : sm_H) (d : Nat) (zd zw zp zm zt zb : Int) (q7 q8 : Option mi_V) : mi_path [(186, (9, 0, sb_186))] sx_sk h 36 [0, 0, 0, 1] (d + 12, 186, 175, [some (.inr (.inr 109)), some (.inl (zd)), some (.inl (zw)), some (.inl (zp)), some (.inl (zm)), some (.inl (zt)), some (.inl (zb)), q7, q8], [], [], []) = some ((d + 12, 186, 22, [some (.inr (.inr 109)), some (.inl (zd)), some (.inl ((0 : Int))), some (.inl (zp)), some (.inl (zm)), some (.inl (zt + 1)), some (.inl (zb)), some (.inl (mi_a h 150 (Int.toNat (mi_f h 14003)))), q8], [], [.inr (.inr (.inl (123, Int.toNat (mi_a h 150 (Int.toNat (mi_f h 14003))), mi_f h 14002))), .inr (.inr (.inl (122, Int.toNat (mi_a h 150 (Int.toNat (mi_f h 14003))), (2 : Int))))], []), [(mi_f h 14001) ≠ ((42 : Int)), (mi_f h 14001) = ((63 : Int)), zw ≠ ((0 : Int)), 0 ≤ (mi_f h 14003) ∧ (mi_f h 14003) < 6, (mi_f h 14001) ≠ ((42 : Int)), 0 ≤ (mi_a h 150 (Int.toNat (mi_f h 14003))) ∧ (mi_a h 150 (Int.toNat (mi_f h 14003))) < 60, 0 ≤ (mi_a h 150 (Int.toNat (mi_f h 14003))) ∧ (mi_a h 150 (Int.toNat (mi_f h 14003))) < 60, -2147483648 ≤ zt + 1 ∧ zt + 1 ≤ 2147483647]) := rfl
theorem mi_tab_fmM_4 : ∀ e ∈ ([(186, (9, 0, sb_186))] : mi_T), sc_P e.1 = some e.2 := mi_tb mi_P186 (mi_tb_e)
set_option maxRecDepth 20000 in
theorem ms_fmM_4 {h : sm_H} {d : Nat} {Q : Option mi_V → sm_H → Prop} {zd zw zp zm zt zb : Int} {q7 q8 : Option mi_V} (hS : ab_Sh sx_sk h) (ok_zd : mi_in zd) (ok_zw : mi_in zw) (ok_zp : mi_in zp) (ok_zm : mi_in zm) (ok_zt : mi_in zt) (ok_zb : mi_in zb) (ok_q7 : ∀ v, q7 = some v → mi_ok v) (ok_q8 : ∀ v, q8 = some v → mi_ok v) (ho : ((mi_f h 14001) ≠ ((42 : Int))) ∧ ((mi_f h 14001) = ((63 : Int))) ∧ (zw ≠ ((0 : Int))) ∧ (0 ≤ (mi_f h 14003) ∧ (mi_f h 14003) < 6) ∧ ((mi_f h 14001) ≠ ((42 : Int))) ∧ (0 ≤ (mi_a h 150 (Int.toNat (mi_f h 14003))) ∧ (mi_a h 150 (Int.toNat (mi_f h 14003))) < 60) ∧ (0 ≤ (mi_a h 150 (Int.toNat (mi_f h 14003))) ∧ (mi_a h 150 (Int.toNat (mi_f h 14003))) < 60) ∧ (-2147483648 ≤ zt + 1 ∧ zt + 1 ≤ 2147483647)) (kon : ∀ h1, me_W [.inr (.inr (.inl (123, Int.toNat (mi_a h 150 (Int.toNat (mi_f h 14003))), mi_f h 14002))), .inr (.inr (.inl (122, Int.toNat (mi_a h 150 (Int.toNat (mi_f h 14003))), (2 : Int))))] h h1 → me_E (d + 12) 186 22 [some (.inr (.inr 109)), some (.inl (zd)), some (.inl ((0 : Int))), some (.inl (zp)), some (.inl (zm)), some (.inl (zt + 1)), some (.inl (zb)), some (.inl (mi_a h 150 (Int.toNat (mi_f h 14003)))), q8] [] h1 Q) : me_E (d + 12) 186 175 [some (.inr (.inr 109)), some (.inl (zd)), some (.inl (zw)), some (.inl (zp)), some (.inl (zm)), some (.inl (zt)), some (.inl (zb)), q7, q8] [] h Q := me_seg (mp_fmM_4 h d zd zw zp zm zt zb q7 q8) (mi_tab_fmM_4) hS (mi_okL_c (trivial) (mi_okL_c (ok_zd) (mi_okL_c (ok_zw) (mi_okL_c (ok_zp) (mi_okL_c (ok_zm) (mi_okL_c (ok_zt) (mi_okL_c (ok_zb) (mi_okL_o ok_q7 (mi_okL_o ok_q8 (mi_okL_e)))))))))) (mi_okS_e) (mi_al (ho.1) (mi_al (ho.2.1) (mi_al (ho.2.2.1) (mi_al (ho.2.2.2.1) (mi_al (ho.2.2.2.2.1) (mi_al (ho.2.2.2.2.2.1) (mi_al (ho.2.2.2.2.2.2.1) (mi_al (ho.2.2.2.2.2.2.2) (mi_al_e))))))))) (fun h1 W _ hst => kon h1 W)
set_option maxRecDepth 20000 in
theorem mt_fmM {h : sm_H} {d : Nat} {Q : Option mi_V → sm_H → Prop} {zd zw zp zm zt zb : Int} {q7 q8 : Option mi_V} (hS : ab_Sh sx_sk h) (ok_zd : mi_in zd) (ok_zw : mi_in zw) (ok_zp : mi_in zp) (ok_zm : mi_in zm) (ok_zt : mi_in zt) (ok_zb : mi_in zb) (ok_q7 : ∀ v, q7 = some v → mi_ok v) (ok_q8 : ∀ v, q8 = some v → mi_ok v) (k0 : ((-2147483648) ≤ mi_f h 14001 ∧ mi_f h 14001 ≤ 2147483647) → ((mi_f h 14001) = ((42 : Int))) → (zw = ((0 : Int))) → (∀ h1, ab_Sh sx_sk h1 → ab_Fr [] h h1 → me_E (d + 12) 186 245 [some (.inr (.inr 109)), some (.inl (zd)), some (.inl (zw)), some (.inl (zp)), some (.inl (zm)), some (.inl (zt)), some (.inl (zb)), q7, q8] [] h1 Q)) (k1 : ((-2147483648) ≤ mi_f h 14001 ∧ mi_f h 14001 ≤ 2147483647) → (0 ≤ mi_f h 14003 ∧ mi_f h 14003 ≤ 5) → ((mi_f h 14001) = ((42 : Int))) → (zw ≠ ((0 : Int))) → ((0 ≤ (mi_f h 14003) ∧ (mi_f h 14003) < 6) ∧ (0 ≤ (mi_a h 150 (Int.toNat (mi_f h 14003))) ∧ (mi_a h 150 (Int.toNat (mi_f h 14003))) < 60) ∧ (-2147483648 ≤ zt + 1 ∧ zt + 1 ≤ 2147483647)) ∧ (∀ h1, ab_Sh sx_sk h1 → (∀ i, mi_a h1 122 i = if i = Int.toNat (mi_a h 150 (Int.toNat (mi_f h 14003))) then (1 : Int) else (mi_a h 122 i)) → (∀ i, mi_a h1 123 i = if i = Int.toNat (mi_a h 150 (Int.toNat (mi_f h 14003))) then mi_f h 14002 else (mi_a h 123 i)) → ab_Fr [(15616, 15617), (15744, 15745)] h h1 → me_E (d + 12) 186 22 [some (.inr (.inr 109)), some (.inl (zd)), some (.inl ((0 : Int))), some (.inl (zp)), some (.inl (zm)), some (.inl (zt + 1)), some (.inl (zb)), some (.inl (mi_a h 150 (Int.toNat (mi_f h 14003)))), q8] [] h1 Q)) (k2 : ((-2147483648) ≤ mi_f h 14001 ∧ mi_f h 14001 ≤ 2147483647) → ((mi_f h 14001) ≠ ((42 : Int))) → ((mi_f h 14001) ≠ ((63 : Int))) → (∀ h1, ab_Sh sx_sk h1 → ab_Fr [] h h1 → me_E (d + 12) 186 245 [some (.inr (.inr 109)), some (.inl (zd)), some (.inl (zw)), some (.inl (zp)), some (.inl (zm)), some (.inl (zt)), some (.inl (zb)), q7, q8] [] h1 Q)) (k3 : ((-2147483648) ≤ mi_f h 14001 ∧ mi_f h 14001 ≤ 2147483647) → ((mi_f h 14001) ≠ ((42 : Int))) → ((mi_f h 14001) = ((63 : Int))) → (zw = ((0 : Int))) → (∀ h1, ab_Sh sx_sk h1 → ab_Fr [] h h1 → me_E (d + 12) 186 245 [some (.inr (.inr 109)), some (.inl (zd)), some (.inl (zw)), some (.inl (zp)), some (.inl (zm)), some (.inl (zt)), some (.inl (zb)), q7, q8] [] h1 Q)) (k4 : ((-2147483648) ≤ mi_f h 14001 ∧ mi_f h 14001 ≤ 2147483647) → (0 ≤ mi_f h 14003 ∧ mi_f h 14003 ≤ 5) → ((mi_f h 14001) ≠ ((42 : Int))) → ((mi_f h 14001) = ((63 : Int))) → (zw ≠ ((0 : Int))) → ((0 ≤ (mi_f h 14003) ∧ (mi_f h 14003) < 6) ∧ (0 ≤ (mi_a h 150 (Int.toNat (mi_f h 14003))) ∧ (mi_a h 150 (Int.toNat (mi_f h 14003))) < 60) ∧ (-2147483648 ≤ zt + 1 ∧ zt + 1 ≤ 2147483647)) ∧ (∀ h1, ab_Sh sx_sk h1 → (∀ i, mi_a h1 122 i = if i = Int.toNat (mi_a h 150 (Int.toNat (mi_f h 14003))) then (2 : Int) else (mi_a h 122 i)) → (∀ i, mi_a h1 123 i = if i = Int.toNat (mi_a h 150 (Int.toNat (mi_f h 14003))) then mi_f h 14002 else (mi_a h 123 i)) → ab_Fr [(15616, 15617), (15744, 15745)] h h1 → me_E (d + 12) 186 22 [some (.inr (.inr 109)), some (.inl (zd)), some (.inl ((0 : Int))), some (.inl (zp)), some (.inl (zm)), some (.inl (zt + 1)), some (.inl (zb)), some (.inl (mi_a h 150 (Int.toNat (mi_f h 14003)))), q8] [] h1 Q)) : me_E (d + 12) 186 175 [some (.inr (.inr 109)), some (.inl (zd)), some (.inl (zw)), some (.inl (zp)), some (.inl (zm)), some (.inl (zt)), some (.inl (zb)), q7, q8] [] h Q := Or.elim (mi_em .eq ((mi_f h 14001)) (((42 : Int)))) (fun c0 => Or.elim (mi_em .eq (zw) (((0 : Int)))) (fun c1 => ms_fmM_0 hS ok_zd ok_zw ok_zp ok_zm ok_zt ok_zb ok_q7 ok_q8 ⟨c0, c1⟩ (fun h1 W => (k0 (me_fb hS rfl) c0 c1) h1 W.1 (W.2.2.2.2.2 _ rfl))) (fun c1 => ms_fmM_1 hS ok_zd ok_zw ok_zp ok_zm ok_zt ok_zb ok_q7 ok_q8 ⟨c0, c1, (k1 (me_fb hS rfl) (me_fb hS rfl) c0 c1).1.1, c0, (k1 (me_fb hS rfl) (me_fb hS rfl) c0 c1).1.2.1, (k1 (me_fb hS rfl) (me_fb hS rfl) c0 c1).1.2.1, (k1 (me_fb hS rfl) (me_fb hS rfl) c0 c1).1.2.2⟩ (fun h1 W => (k1 (me_fb hS rfl) (me_fb hS rfl) c0 c1).2 h1 W.1 (fun i => W.2.2.1 122 i) (fun i => W.2.2.1 123 i) (W.2.2.2.2.2 _ rfl)))) (fun c0 => Or.elim (mi_em .ne ((mi_f h 14001)) (((63 : Int)))) (fun c1 => ms_fmM_2 hS ok_zd ok_zw ok_zp ok_zm ok_zt ok_zb ok_q7 ok_q8 ⟨c0, c1⟩ (fun h1 W => (k2 (me_fb hS rfl) c0 c1) h1 W.1 (W.2.2.2.2.2 _ rfl))) (fun c1 => Or.elim (mi_em .eq (zw) (((0 : Int)))) (fun c2 => ms_fmM_3 hS ok_zd ok_zw ok_zp ok_zm ok_zt ok_zb ok_q7 ok_q8 ⟨c0, c1, c2⟩ (fun h1 W => (k3 (me_fb hS rfl) c0 c1 c2) h1 W.1 (W.2.2.2.2.2 _ rfl))) (fun c2 => ms_fmM_4 hS ok_zd ok_zw ok_zp ok_zm ok_zt ok_zb ok_q7 ok_q8 ⟨c0, c1, c2, (k4 (me_fb hS rfl) (me_fb hS rfl) c0 c1 c2).1.1, c0, (k4 (me_fb hS rfl) (me_fb hS rfl) c0 c1 c2).1.2.1, (k4 (me_fb hS rfl) (me_fb hS rfl) c0 c1 c2).1.2.1, (k4 (me_fb hS rfl) (me_fb hS rfl) c0 c1 c2).1.2.2⟩ (fun h1 W => (k4 (me_fb hS rfl) (me_fb hS rfl) c0 c1 c2).2 h1 W.1 (fun i => W.2.2.1 122 i) (fun i => W.2.2.1 123 i) (W.2.2.2.2.2 _ rfl)))))
set_option maxRecDepth 20000 in
theorem mp_fmN_0 (h : sm_H) (d : Nat) (zd zw zp zm zt zb : Int) (q7 q8 : Option mi_V) : mi_path [(186, (9, 0, sb_186))] sx_sk h 4 [1] (d + 12, 186, 245, [some (.inr (.inr 109)), some (.inl (zd)), some (.inl (zw)), some (.inl (zp)), some (.inl (zm)), some (.inl (zt)), some (.inl (zb)), q7, q8], [], [], []) = some ((d + 12, 186, 277, [some (.inr (.inr 109)), some (.inl (zd)), some (.inl (zw)), some (.inl (zp)), some (.inl (zm)), some (.inl (zt)), some (.inl (zb)), q7, q8], [], [], []), [(mi_f h 14001) ≠ ((126 : Int))]) := rfl
theorem mi_tab_fmN_0 : ∀ e ∈ ([(186, (9, 0, sb_186))] : mi_T), sc_P e.1 = some e.2 := mi_tb mi_P186 (mi_tb_e)
set_option maxRecDepth 20000 in
theorem ms_fmN_0 {h : sm_H} {d : Nat} {Q : Option mi_V → sm_H → Prop} {zd zw zp zm zt zb : Int} {q7 q8 : Option mi_V} (hS : ab_Sh sx_sk h) (ok_zd : mi_in zd) (ok_zw : mi_in zw) (ok_zp : mi_in zp) (ok_zm : mi_in zm) (ok_zt : mi_in zt) (ok_zb : mi_in zb) (ok_q7 : ∀ v, q7 = some v → mi_ok v) (ok_q8 : ∀ v, q8 = some v → mi_ok v) (ho : ((mi_f h 14001) ≠ ((126 : Int)))) (kon : ∀ h1, me_W [] h h1 → me_E (d + 12) 186 277 [some (.inr (.inr 109)), some (.inl (zd)), some (.inl (zw)), some (.inl (zp)), some (.inl (zm)), some (.inl (zt)), some (.inl (zb)), q7, q8] [] h1 Q) : me_E (d + 12) 186 245 [some (.inr (.inr 109)), some (.inl (zd)), some (.inl (zw)), some (.inl (zp)), some (.inl (zm)), some (.inl (zt)), some (.inl (zb)), q7, q8] [] h Q := me_seg (mp_fmN_0 h d zd zw zp zm zt zb q7 q8) (mi_tab_fmN_0) hS (mi_okL_c (trivial) (mi_okL_c (ok_zd) (mi_okL_c (ok_zw) (mi_okL_c (ok_zp) (mi_okL_c (ok_zm) (mi_okL_c (ok_zt) (mi_okL_c (ok_zb) (mi_okL_o ok_q7 (mi_okL_o ok_q8 (mi_okL_e)))))))))) (mi_okS_e) (mi_al (ho) (mi_al_e)) (fun h1 W _ hst => kon h1 W)
set_option maxRecDepth 20000 in
theorem mp_fmN_1 (h : sm_H) (d : Nat) (zd zw zp zm zt zb : Int) (q7 q8 : Option mi_V) : mi_path [(186, (9, 0, sb_186))] sx_sk h 6 [0, 1] (d + 12, 186, 245, [some (.inr (.inr 109)), some (.inl (zd)), some (.inl (zw)), some (.inl (zp)), some (.inl (zm)), some (.inl (zt)), some (.inl (zb)), q7, q8], [], [], []) = some ((d + 12, 186, 277, [some (.inr (.inr 109)), some (.inl (zd)), some (.inl (zw)), some (.inl (zp)), some (.inl (zm)), some (.inl (zt)), some (.inl (zb)), q7, q8], [], [], []), [(mi_f h 14001) = ((126 : Int)), zp = ((0 : Int))]) := rfl
theorem mi_tab_fmN_1 : ∀ e ∈ ([(186, (9, 0, sb_186))] : mi_T), sc_P e.1 = some e.2 := mi_tb mi_P186 (mi_tb_e)
set_option maxRecDepth 20000 in
theorem ms_fmN_1 {h : sm_H} {d : Nat} {Q : Option mi_V → sm_H → Prop} {zd zw zp zm zt zb : Int} {q7 q8 : Option mi_V} (hS : ab_Sh sx_sk h) (ok_zd : mi_in zd) (ok_zw : mi_in zw) (ok_zp : mi_in zp) (ok_zm : mi_in zm) (ok_zt : mi_in zt) (ok_zb : mi_in zb) (ok_q7 : ∀ v, q7 = some v → mi_ok v) (ok_q8 : ∀ v, q8 = some v → mi_ok v) (ho : ((mi_f h 14001) = ((126 : Int))) ∧ (zp = ((0 : Int)))) (kon : ∀ h1, me_W [] h h1 → me_E (d + 12) 186 277 [some (.inr (.inr 109)), some (.inl (zd)), some (.inl (zw)), some (.inl (zp)), some (.inl (zm)), some (.inl (zt)), some (.inl (zb)), q7, q8] [] h1 Q) : me_E (d + 12) 186 245 [some (.inr (.inr 109)), some (.inl (zd)), some (.inl (zw)), some (.inl (zp)), some (.inl (zm)), some (.inl (zt)), some (.inl (zb)), q7, q8] [] h Q := me_seg (mp_fmN_1 h d zd zw zp zm zt zb q7 q8) (mi_tab_fmN_1) hS (mi_okL_c (trivial) (mi_okL_c (ok_zd) (mi_okL_c (ok_zw) (mi_okL_c (ok_zp) (mi_okL_c (ok_zm) (mi_okL_c (ok_zt) (mi_okL_c (ok_zb) (mi_okL_o ok_q7 (mi_okL_o ok_q8 (mi_okL_e)))))))))) (mi_okS_e) (mi_al (ho.1) (mi_al (ho.2) (mi_al_e))) (fun h1 W _ hst => kon h1 W)
set_option maxRecDepth 20000 in
theorem mp_fmN_2 (h : sm_H) (d : Nat) (zd zw zp zm zt zb : Int) (q7 q8 : Option mi_V) : mi_path [(186, (9, 0, sb_186))] sx_sk h 21 [0, 0] (d + 12, 186, 245, [some (.inr (.inr 109)), some (.inl (zd)), some (.inl (zw)), some (.inl (zp)), some (.inl (zm)), some (.inl (zt)), some (.inl (zb)), q7, q8], [], [], []) = some ((d + 12, 186, 22, [some (.inr (.inr 109)), some (.inl ((1 : Int))), some (.inl ((0 : Int))), some (.inl ((0 : Int))), some (.inl (zm)), some (.inl (zt + 1)), some (.inl (zb)), q7, q8], [], [.inr (.inr (.inl (151, Int.toNat (mi_f h 14003), (1 : Int))))], []), [(mi_f h 14001) = ((126 : Int)), zp ≠ ((0 : Int)), 0 ≤ (mi_f h 14003) ∧ (mi_f h 14003) < 6, 0 ≤ ((1 : Int)) ∧ ((1 : Int)) ≤ 1, -2147483648 ≤ zt + 1 ∧ zt + 1 ≤ 2147483647]) := rfl
theorem mi_tab_fmN_2 : ∀ e ∈ ([(186, (9, 0, sb_186))] : mi_T), sc_P e.1 = some e.2 := mi_tb mi_P186 (mi_tb_e)
set_option maxRecDepth 20000 in
theorem ms_fmN_2 {h : sm_H} {d : Nat} {Q : Option mi_V → sm_H → Prop} {zd zw zp zm zt zb : Int} {q7 q8 : Option mi_V} (hS : ab_Sh sx_sk h) (ok_zd : mi_in zd) (ok_zw : mi_in zw) (ok_zp : mi_in zp) (ok_zm : mi_in zm) (ok_zt : mi_in zt) (ok_zb : mi_in zb) (ok_q7 : ∀ v, q7 = some v → mi_ok v) (ok_q8 : ∀ v, q8 = some v → mi_ok v) (ho : ((mi_f h 14001) = ((126 : Int))) ∧ (zp ≠ ((0 : Int))) ∧ (0 ≤ (mi_f h 14003) ∧ (mi_f h 14003) < 6) ∧ (0 ≤ ((1 : Int)) ∧ ((1 : Int)) ≤ 1) ∧ (-2147483648 ≤ zt + 1 ∧ zt + 1 ≤ 2147483647)) (kon : ∀ h1, me_W [.inr (.inr (.inl (151, Int.toNat (mi_f h 14003), (1 : Int))))] h h1 → me_E (d + 12) 186 22 [some (.inr (.inr 109)), some (.inl ((1 : Int))), some (.inl ((0 : Int))), some (.inl ((0 : Int))), some (.inl (zm)), some (.inl (zt + 1)), some (.inl (zb)), q7, q8] [] h1 Q) : me_E (d + 12) 186 245 [some (.inr (.inr 109)), some (.inl (zd)), some (.inl (zw)), some (.inl (zp)), some (.inl (zm)), some (.inl (zt)), some (.inl (zb)), q7, q8] [] h Q := me_seg (mp_fmN_2 h d zd zw zp zm zt zb q7 q8) (mi_tab_fmN_2) hS (mi_okL_c (trivial) (mi_okL_c (ok_zd) (mi_okL_c (ok_zw) (mi_okL_c (ok_zp) (mi_okL_c (ok_zm) (mi_okL_c (ok_zt) (mi_okL_c (ok_zb) (mi_okL_o ok_q7 (mi_okL_o ok_q8 (mi_okL_e)))))))))) (mi_okS_e) (mi_al (ho.1) (mi_al (ho.2.1) (mi_al (ho.2.2.1) (mi_al (ho.2.2.2.1) (mi_al (ho.2.2.2.2) (mi_al_e)))))) (fun h1 W _ hst => kon h1 W)
set_option maxRecDepth 20000 in
theorem mt_fmN {h : sm_H} {d : Nat} {Q : Option mi_V → sm_H → Prop} {zd zw zp zm zt zb : Int} {q7 q8 : Option mi_V} (hS : ab_Sh sx_sk h) (ok_zd : mi_in zd) (ok_zw : mi_in zw) (ok_zp : mi_in zp) (ok_zm : mi_in zm) (ok_zt : mi_in zt) (ok_zb : mi_in zb) (ok_q7 : ∀ v, q7 = some v → mi_ok v) (ok_q8 : ∀ v, q8 = some v → mi_ok v) (k0 : ((-2147483648) ≤ mi_f h 14001 ∧ mi_f h 14001 ≤ 2147483647) → ((mi_f h 14001) ≠ ((126 : Int))) → (∀ h1, ab_Sh sx_sk h1 → ab_Fr [] h h1 → me_E (d + 12) 186 277 [some (.inr (.inr 109)), some (.inl (zd)), some (.inl (zw)), some (.inl (zp)), some (.inl (zm)), some (.inl (zt)), some (.inl (zb)), q7, q8] [] h1 Q)) (k1 : ((-2147483648) ≤ mi_f h 14001 ∧ mi_f h 14001 ≤ 2147483647) → ((mi_f h 14001) = ((126 : Int))) → (zp = ((0 : Int))) → (∀ h1, ab_Sh sx_sk h1 → ab_Fr [] h h1 → me_E (d + 12) 186 277 [some (.inr (.inr 109)), some (.inl (zd)), some (.inl (zw)), some (.inl (zp)), some (.inl (zm)), some (.inl (zt)), some (.inl (zb)), q7, q8] [] h1 Q)) (k2 : ((-2147483648) ≤ mi_f h 14001 ∧ mi_f h 14001 ≤ 2147483647) → (0 ≤ mi_f h 14003 ∧ mi_f h 14003 ≤ 5) → ((mi_f h 14001) = ((126 : Int))) → (zp ≠ ((0 : Int))) → ((0 ≤ (mi_f h 14003) ∧ (mi_f h 14003) < 6) ∧ (-2147483648 ≤ zt + 1 ∧ zt + 1 ≤ 2147483647)) ∧ (∀ h1, ab_Sh sx_sk h1 → (∀ i, mi_a h1 151 i = if i = Int.toNat (mi_f h 14003) then (1 : Int) else (mi_a h 151 i)) → ab_Fr [(19328, 19329)] h h1 → me_E (d + 12) 186 22 [some (.inr (.inr 109)), some (.inl ((1 : Int))), some (.inl ((0 : Int))), some (.inl ((0 : Int))), some (.inl (zm)), some (.inl (zt + 1)), some (.inl (zb)), q7, q8] [] h1 Q)) : me_E (d + 12) 186 245 [some (.inr (.inr 109)), some (.inl (zd)), some (.inl (zw)), some (.inl (zp)), some (.inl (zm)), some (.inl (zt)), some (.inl (zb)), q7, q8] [] h Q := Or.elim (mi_em .ne ((mi_f h 14001)) (((126 : Int)))) (fun c0 => ms_fmN_0 hS ok_zd ok_zw ok_zp ok_zm ok_zt ok_zb ok_q7 ok_q8 (c0) (fun h1 W => (k0 (me_fb hS rfl) c0) h1 W.1 (W.2.2.2.2.2 _ rfl))) (fun c0 => Or.elim (mi_em .eq (zp) (((0 : Int)))) (fun c1 => ms_fmN_1 hS ok_zd ok_zw ok_zp ok_zm ok_zt ok_zb ok_q7 ok_q8 ⟨c0, c1⟩ (fun h1 W => (k1 (me_fb hS rfl) c0 c1) h1 W.1 (W.2.2.2.2.2 _ rfl))) (fun c1 => ms_fmN_2 hS ok_zd ok_zw ok_zp ok_zm ok_zt ok_zb ok_q7 ok_q8 ⟨c0, c1, (k2 (me_fb hS rfl) (me_fb hS rfl) c0 c1).1.1, (by decide), (k2 (me_fb hS rfl) (me_fb hS rfl) c0 c1).1.2⟩ (fun h1 W => (k2 (me_fb hS rfl) (me_fb hS rfl) c0 c1).2 h1 W.1 (fun i => W.2.2.1 151 i) (W.2.2.2.2.2 _ rfl))))
set_option maxRecDepth 20000 in
theorem mp_fmO_0 (h : sm_H) (d : Nat) (zd zw zp zm zt zb : Int) (q7 q8 : Option mi_V) : mi_path [(186, (9, 0, sb_186))] sx_sk h 4 [1] (d + 12, 186, 277, [some (.inr (.inr 109)), some (.inl (zd)), some (.inl (zw)), some (.inl (zp)), some (.inl (zm)), some (.inl (zt)), some (.inl (zb)), q7, q8], [], [], []) = some ((d + 12, 186, 330, [some (.inr (.inr 109)), some (.inl (zd)), some (.inl (zw)), some (.inl (zp)), some (.inl (zm)), some (.inl (zt)), some (.inl (zb)), q7, q8], [], [], []), [(mi_f h 14001) ≠ ((124 : Int))]) := rfl
theorem mi_tab_fmO_0 : ∀ e ∈ ([(186, (9, 0, sb_186))] : mi_T), sc_P e.1 = some e.2 := mi_tb mi_P186 (mi_tb_e)
set_option maxRecDepth 20000 in
theorem ms_fmO_0 {h : sm_H} {d : Nat} {Q : Option mi_V → sm_H → Prop} {zd zw zp zm zt zb : Int} {q7 q8 : Option mi_V} (hS : ab_Sh sx_sk h) (ok_zd : mi_in zd) (ok_zw : mi_in zw) (ok_zp : mi_in zp) (ok_zm : mi_in zm) (ok_zt : mi_in zt) (ok_zb : mi_in zb) (ok_q7 : ∀ v, q7 = some v → mi_ok v) (ok_q8 : ∀ v, q8 = some v → mi_ok v) (ho : ((mi_f h 14001) ≠ ((124 : Int)))) (kon : ∀ h1, me_W [] h h1 → me_E (d + 12) 186 330 [some (.inr (.inr 109)), some (.inl (zd)), some (.inl (zw)), some (.inl (zp)), some (.inl (zm)), some (.inl (zt)), some (.inl (zb)), q7, q8] [] h1 Q) : me_E (d + 12) 186 277 [some (.inr (.inr 109)), some (.inl (zd)), some (.inl (zw)), some (.inl (zp)), some (.inl (zm)), some (.inl (zt)), some (.inl (zb)), q7, q8] [] h Q := me_seg (mp_fmO_0 h d zd zw zp zm zt zb q7 q8) (mi_tab_fmO_0) hS (mi_okL_c (trivial) (mi_okL_c (ok_zd) (mi_okL_c (ok_zw) (mi_okL_c (ok_zp) (mi_okL_c (ok_zm) (mi_okL_c (ok_zt) (mi_okL_c (ok_zb) (mi_okL_o ok_q7 (mi_okL_o ok_q8 (mi_okL_e)))))))))) (mi_okS_e) (mi_al (ho) (mi_al_e)) (fun h1 W _ hst => kon h1 W)
set_option maxRecDepth 20000 in
theorem mp_fmO_1 (h : sm_H) (d : Nat) (zd zw zp zm zt zb : Int) (q7 q8 : Option mi_V) : mi_path [(186, (9, 0, sb_186))] sx_sk h 17 [0, 1] (d + 12, 186, 277, [some (.inr (.inr 109)), some (.inl (zd)), some (.inl (zw)), some (.inl (zp)), some (.inl (zm)), some (.inl (zt)), some (.inl (zb)), q7, q8], [], [], []) = some ((d + 12, 186, 322, [some (.inr (.inr 109)), some (.inl (zd)), some (.inl (zw)), some (.inl (zp)), some (.inl (zm)), some (.inl (zt)), some (.inl (zb)), q7, q8], [.inl (mi_f h 14002), .inr (.inr 109)], [], []), [(mi_f h 14001) = ((124 : Int)), 0 ≤ (mi_f h 14003) ∧ (mi_f h 14003) < 6, 0 ≤ (mi_a h 146 (Int.toNat (mi_f h 14003))) ∧ (mi_a h 146 (Int.toNat (mi_f h 14003))) < 80, (mi_a h 130 (Int.toNat (mi_a h 146 (Int.toNat (mi_f h 14003))))) ≠ ((6 : Int))]) := rfl
theorem mi_tab_fmO_1 : ∀ e ∈ ([(186, (9, 0, sb_186))] : mi_T), sc_P e.1 = some e.2 := mi_tb mi_P186 (mi_tb_e)
set_option maxRecDepth 20000 in
theorem ms_fmO_1 {h : sm_H} {d : Nat} {Q : Option mi_V → sm_H → Prop} {zd zw zp zm zt zb : Int} {q7 q8 : Option mi_V} (hS : ab_Sh sx_sk h) (ok_zd : mi_in zd) (ok_zw : mi_in zw) (ok_zp : mi_in zp) (ok_zm : mi_in zm) (ok_zt : mi_in zt) (ok_zb : mi_in zb) (ok_q7 : ∀ v, q7 = some v → mi_ok v) (ok_q8 : ∀ v, q8 = some v → mi_ok v) (ho : ((mi_f h 14001) = ((124 : Int))) ∧ (0 ≤ (mi_f h 14003) ∧ (mi_f h 14003) < 6) ∧ (0 ≤ (mi_a h 146 (Int.toNat (mi_f h 14003))) ∧ (mi_a h 146 (Int.toNat (mi_f h 14003))) < 80) ∧ ((mi_a h 130 (Int.toNat (mi_a h 146 (Int.toNat (mi_f h 14003))))) ≠ ((6 : Int)))) (kon : ∀ h1, me_W [] h h1 → ∃ Q1, me_E (d + 11) 187 0 (mi_entry 4 [.inr (.inr 109), .inl (mi_f h 14002)]) [] h1 Q1 ∧ ∀ w h2, (∀ x, w = some x → mi_ok x) → Q1 w h2 → me_E (d + 12) 186 325 [some (.inr (.inr 109)), some (.inl (zd)), some (.inl (zw)), some (.inl (zp)), some (.inl (zm)), some (.inl (zt)), some (.inl (zb)), q7, q8] (mi_back w []) h2 Q) : me_E (d + 12) 186 277 [some (.inr (.inr 109)), some (.inl (zd)), some (.inl (zw)), some (.inl (zp)), some (.inl (zm)), some (.inl (zt)), some (.inl (zb)), q7, q8] [] h Q := me_seg (mp_fmO_1 h d zd zw zp zm zt zb q7 q8) (mi_tab_fmO_1) hS (mi_okL_c (trivial) (mi_okL_c (ok_zd) (mi_okL_c (ok_zw) (mi_okL_c (ok_zp) (mi_okL_c (ok_zm) (mi_okL_c (ok_zt) (mi_okL_c (ok_zb) (mi_okL_o ok_q7 (mi_okL_o ok_q8 (mi_okL_e)))))))))) (mi_okS_e) (mi_al (ho.1) (mi_al (ho.2.1) (mi_al (ho.2.2.1) (mi_al (ho.2.2.2) (mi_al_e))))) (fun h1 W _ hst => let ⟨_, k1, k2⟩ := kon h1 W; me_call (M := (9, 0, sb_186)) (M' := (4, 0, sb_187)) rfl rfl rfl rfl (Nat.le_of_ble_eq_true rfl) (Nat.le_of_ble_eq_true rfl) W.1 k1 k2)
set_option maxRecDepth 20000 in
theorem mp_fmO_2 (h : sm_H) (d : Nat) (zd zw zp zm zt zb : Int) (q7 q8 : Option mi_V) : mi_path [(186, (9, 0, sb_186))] sx_sk h 18 [0, 0] (d + 12, 186, 277, [some (.inr (.inr 109)), some (.inl (zd)), some (.inl (zw)), some (.inl (zp)), some (.inl (zm)), some (.inl (zt)), some (.inl (zb)), q7, q8], [], [], []) = some ((d + 12, 186, 311, [some (.inr (.inr 109)), some (.inl (zd)), some (.inl (zw)), some (.inl (zp)), some (.inl (zm)), some (.inl (zt)), some (.inl (zb)), q7, q8], [.inl (mi_f h 14002), .inl ((3 : Int)), .inr (.inr 109)], [], []), [(mi_f h 14001) = ((124 : Int)), 0 ≤ (mi_f h 14003) ∧ (mi_f h 14003) < 6, 0 ≤ (mi_a h 146 (Int.toNat (mi_f h 14003))) ∧ (mi_a h 146 (Int.toNat (mi_f h 14003))) < 80, (mi_a h 130 (Int.toNat (mi_a h 146 (Int.toNat (mi_f h 14003))))) = ((6 : Int))]) := rfl
theorem mi_tab_fmO_2 : ∀ e ∈ ([(186, (9, 0, sb_186))] : mi_T), sc_P e.1 = some e.2 := mi_tb mi_P186 (mi_tb_e)
set_option maxRecDepth 20000 in
theorem ms_fmO_2 {h : sm_H} {d : Nat} {Q : Option mi_V → sm_H → Prop} {zd zw zp zm zt zb : Int} {q7 q8 : Option mi_V} (hS : ab_Sh sx_sk h) (ok_zd : mi_in zd) (ok_zw : mi_in zw) (ok_zp : mi_in zp) (ok_zm : mi_in zm) (ok_zt : mi_in zt) (ok_zb : mi_in zb) (ok_q7 : ∀ v, q7 = some v → mi_ok v) (ok_q8 : ∀ v, q8 = some v → mi_ok v) (ho : ((mi_f h 14001) = ((124 : Int))) ∧ (0 ≤ (mi_f h 14003) ∧ (mi_f h 14003) < 6) ∧ (0 ≤ (mi_a h 146 (Int.toNat (mi_f h 14003))) ∧ (mi_a h 146 (Int.toNat (mi_f h 14003))) < 80) ∧ ((mi_a h 130 (Int.toNat (mi_a h 146 (Int.toNat (mi_f h 14003))))) = ((6 : Int)))) (kon : ∀ h1, me_W [] h h1 → ∃ Q1, me_E (d + 11) 184 0 (mi_entry 3 [.inr (.inr 109), .inl ((3 : Int)), .inl (mi_f h 14002)]) [] h1 Q1 ∧ ∀ w h2, (∀ x, w = some x → mi_ok x) → Q1 w h2 → me_E (d + 12) 186 314 [some (.inr (.inr 109)), some (.inl (zd)), some (.inl (zw)), some (.inl (zp)), some (.inl (zm)), some (.inl (zt)), some (.inl (zb)), q7, q8] (mi_back w []) h2 Q) : me_E (d + 12) 186 277 [some (.inr (.inr 109)), some (.inl (zd)), some (.inl (zw)), some (.inl (zp)), some (.inl (zm)), some (.inl (zt)), some (.inl (zb)), q7, q8] [] h Q := me_seg (mp_fmO_2 h d zd zw zp zm zt zb q7 q8) (mi_tab_fmO_2) hS (mi_okL_c (trivial) (mi_okL_c (ok_zd) (mi_okL_c (ok_zw) (mi_okL_c (ok_zp) (mi_okL_c (ok_zm) (mi_okL_c (ok_zt) (mi_okL_c (ok_zb) (mi_okL_o ok_q7 (mi_okL_o ok_q8 (mi_okL_e)))))))))) (mi_okS_e) (mi_al (ho.1) (mi_al (ho.2.1) (mi_al (ho.2.2.1) (mi_al (ho.2.2.2) (mi_al_e))))) (fun h1 W _ hst => let ⟨_, k1, k2⟩ := kon h1 W; me_call (M := (9, 0, sb_186)) (M' := (3, 0, sb_184)) rfl rfl rfl rfl (Nat.le_of_ble_eq_true rfl) (Nat.le_of_ble_eq_true rfl) W.1 k1 k2)
set_option maxRecDepth 20000 in
theorem mt_fmO {h : sm_H} {d : Nat} {Q : Option mi_V → sm_H → Prop} {zd zw zp zm zt zb : Int} {q7 q8 : Option mi_V} (hS : ab_Sh sx_sk h) (ok_zd : mi_in zd) (ok_zw : mi_in zw) (ok_zp : mi_in zp) (ok_zm : mi_in zm) (ok_zt : mi_in zt) (ok_zb : mi_in zb) (ok_q7 : ∀ v, q7 = some v → mi_ok v) (ok_q8 : ∀ v, q8 = some v → mi_ok v) (k0 : ((-2147483648) ≤ mi_f h 14001 ∧ mi_f h 14001 ≤ 2147483647) → ((mi_f h 14001) ≠ ((124 : Int))) → (∀ h1, ab_Sh sx_sk h1 → ab_Fr [] h h1 → me_E (d + 12) 186 330 [some (.inr (.inr 109)), some (.inl (zd)), some (.inl (zw)), some (.inl (zp)), some (.inl (zm)), some (.inl (zt)), some (.inl (zb)), q7, q8] [] h1 Q)) (k1 : ((-2147483648) ≤ mi_f h 14001 ∧ mi_f h 14001 ≤ 2147483647) → (0 ≤ mi_f h 14003 ∧ mi_f h 14003 ≤ 5) → ((mi_f h 14001) = ((124 : Int))) → ((mi_a h 130 (Int.toNat (mi_a h 146 (Int.toNat (mi_f h 14003))))) ≠ ((6 : Int))) → ((0 ≤ (mi_f h 14003) ∧ (mi_f h 14003) < 6) ∧ (0 ≤ (mi_a h 146 (Int.toNat (mi_f h 14003))) ∧ (mi_a h 146 (Int.toNat (mi_f h 14003))) < 80)) ∧ (∀ h1, ab_Sh sx_sk h1 → ab_Fr [] h h1 → ∃ Q1, me_E (d + 11) 187 0 (mi_entry 4 [.inr (.inr 109), .inl (mi_f h 14002)]) [] h1 Q1 ∧ ∀ w h2, (∀ x, w = some x → mi_ok x) → Q1 w h2 → me_E (d + 12) 186 325 [some (.inr (.inr 109)), some (.inl (zd)), some (.inl (zw)), some (.inl (zp)), some (.inl (zm)), some (.inl (zt)), some (.inl (zb)), q7, q8] (mi_back w []) h2 Q)) (k2 : ((-2147483648) ≤ mi_f h 14001 ∧ mi_f h 14001 ≤ 2147483647) → (0 ≤ mi_f h 14003 ∧ mi_f h 14003 ≤ 5) → ((mi_f h 14001) = ((124 : Int))) → ((mi_a h 130 (Int.toNat (mi_a h 146 (Int.toNat (mi_f h 14003))))) = ((6 : Int))) → ((0 ≤ (mi_f h 14003) ∧ (mi_f h 14003) < 6) ∧ (0 ≤ (mi_a h 146 (Int.toNat (mi_f h 14003))) ∧ (mi_a h 146 (Int.toNat (mi_f h 14003))) < 80)) ∧ (∀ h1, ab_Sh sx_sk h1 → ab_Fr [] h h1 → ∃ Q1, me_E (d + 11) 184 0 (mi_entry 3 [.inr (.inr 109), .inl ((3 : Int)), .inl (mi_f h 14002)]) [] h1 Q1 ∧ ∀ w h2, (∀ x, w = some x → mi_ok x) → Q1 w h2 → me_E (d + 12) 186 314 [some (.inr (.inr 109)), some (.inl (zd)), some (.inl (zw)), some (.inl (zp)), some (.inl (zm)), some (.inl (zt)), some (.inl (zb)), q7, q8] (mi_back w []) h2 Q)) : me_E (d + 12) 186 277 [some (.inr (.inr 109)), some (.inl (zd)), some (.inl (zw)), some (.inl (zp)), some (.inl (zm)), some (.inl (zt)), some (.inl (zb)), q7, q8] [] h Q := Or.elim (mi_em .ne ((mi_f h 14001)) (((124 : Int)))) (fun c0 => ms_fmO_0 hS ok_zd ok_zw ok_zp ok_zm ok_zt ok_zb ok_q7 ok_q8 (c0) (fun h1 W => (k0 (me_fb hS rfl) c0) h1 W.1 (W.2.2.2.2.2 _ rfl))) (fun c0 => Or.elim (mi_em .ne ((mi_a h 130 (Int.toNat (mi_a h 146 (Int.toNat (mi_f h 14003)))))) (((6 : Int)))) (fun c1 => ms_fmO_1 hS ok_zd ok_zw ok_zp ok_zm ok_zt ok_zb ok_q7 ok_q8 ⟨c0, (k1 (me_fb hS rfl) (me_fb hS rfl) c0 c1).1.1, (k1 (me_fb hS rfl) (me_fb hS rfl) c0 c1).1.2, c1⟩ (fun h1 W => (k1 (me_fb hS rfl) (me_fb hS rfl) c0 c1).2 h1 W.1 (W.2.2.2.2.2 _ rfl))) (fun c1 => ms_fmO_2 hS ok_zd ok_zw ok_zp ok_zm ok_zt ok_zb ok_q7 ok_q8 ⟨c0, (k2 (me_fb hS rfl) (me_fb hS rfl) c0 c1).1.1, (k2 (me_fb hS rfl) (me_fb hS rfl) c0 c1).1.2, c1⟩ (fun h1 W => (k2 (me_fb hS rfl) (me_fb hS rfl) c0 c1).2 h1 W.1 (W.2.2.2.2.2 _ rfl))))
set_option maxRecDepth 20000 in
theorem mp_fmP_0 (h : sm_H) (d : Nat) (zd zw zp zm zt zb : Int) (q7 q8 : Option mi_V) : mi_path [(186, (9, 0, sb_186))] sx_sk h 6 [] (d + 12, 186, 314, [some (.inr (.inr 109)), some (.inl (zd)), some (.inl (zw)), some (.inl (zp)), some (.inl (zm)), some (.inl (zt)), some (.inl (zb)), q7, q8], [], [], []) = some ((d + 12, 186, 22, [some (.inr (.inr 109)), some (.inl ((1 : Int))), some (.inl (zw)), some (.inl (zp)), some (.inl (zm)), some (.inl (zt + 1)), some (.inl (zb)), q7, q8], [], [], []), [-2147483648 ≤ zt + 1 ∧ zt + 1 ≤ 2147483647]) := rfl
theorem mi_tab_fmP_0 : ∀ e ∈ ([(186, (9, 0, sb_186))] : mi_T), sc_P e.1 = some e.2 := mi_tb mi_P186 (mi_tb_e)
set_option maxRecDepth 20000 in
theorem ms_fmP_0 {h : sm_H} {d : Nat} {Q : Option mi_V → sm_H → Prop} {zd zw zp zm zt zb : Int} {q7 q8 : Option mi_V} (hS : ab_Sh sx_sk h) (ok_zd : mi_in zd) (ok_zw : mi_in zw) (ok_zp : mi_in zp) (ok_zm : mi_in zm) (ok_zt : mi_in zt) (ok_zb : mi_in zb) (ok_q7 : ∀ v, q7 = some v → mi_ok v) (ok_q8 : ∀ v, q8 = some v → mi_ok v) (ho : (-2147483648 ≤ zt + 1 ∧ zt + 1 ≤ 2147483647)) (kon : ∀ h1, me_W [] h h1 → me_E (d + 12) 186 22 [some (.inr (.inr 109)), some (.inl ((1 : Int))), some (.inl (zw)), some (.inl (zp)), some (.inl (zm)), some (.inl (zt + 1)), some (.inl (zb)), q7, q8] [] h1 Q) : me_E (d + 12) 186 314 [some (.inr (.inr 109)), some (.inl (zd)), some (.inl (zw)), some (.inl (zp)), some (.inl (zm)), some (.inl (zt)), some (.inl (zb)), q7, q8] [] h Q := me_seg (mp_fmP_0 h d zd zw zp zm zt zb q7 q8) (mi_tab_fmP_0) hS (mi_okL_c (trivial) (mi_okL_c (ok_zd) (mi_okL_c (ok_zw) (mi_okL_c (ok_zp) (mi_okL_c (ok_zm) (mi_okL_c (ok_zt) (mi_okL_c (ok_zb) (mi_okL_o ok_q7 (mi_okL_o ok_q8 (mi_okL_e)))))))))) (mi_okS_e) (mi_al (ho) (mi_al_e)) (fun h1 W _ hst => kon h1 W)
set_option maxRecDepth 20000 in
theorem mt_fmP {h : sm_H} {d : Nat} {Q : Option mi_V → sm_H → Prop} {zd zw zp zm zt zb : Int} {q7 q8 : Option mi_V} (hS : ab_Sh sx_sk h) (ok_zd : mi_in zd) (ok_zw : mi_in zw) (ok_zp : mi_in zp) (ok_zm : mi_in zm) (ok_zt : mi_in zt) (ok_zb : mi_in zb) (ok_q7 : ∀ v, q7 = some v → mi_ok v) (ok_q8 : ∀ v, q8 = some v → mi_ok v) (k0 : ((-2147483648 ≤ zt + 1 ∧ zt + 1 ≤ 2147483647)) ∧ (∀ h1, ab_Sh sx_sk h1 → ab_Fr [] h h1 → me_E (d + 12) 186 22 [some (.inr (.inr 109)), some (.inl ((1 : Int))), some (.inl (zw)), some (.inl (zp)), some (.inl (zm)), some (.inl (zt + 1)), some (.inl (zb)), q7, q8] [] h1 Q)) : me_E (d + 12) 186 314 [some (.inr (.inr 109)), some (.inl (zd)), some (.inl (zw)), some (.inl (zp)), some (.inl (zm)), some (.inl (zt)), some (.inl (zb)), q7, q8] [] h Q := ms_fmP_0 hS ok_zd ok_zw ok_zp ok_zm ok_zt ok_zb ok_q7 ok_q8 ((k0).1) (fun h1 W => (k0).2 h1 W.1 (W.2.2.2.2.2 _ rfl))
set_option maxRecDepth 20000 in
theorem mp_fmQ_0 (h : sm_H) (d : Nat) (zd zw zp zm zt zb : Int) (q7 q8 : Option mi_V) : mi_path [(186, (9, 0, sb_186))] sx_sk h 5 [] (d + 12, 186, 325, [some (.inr (.inr 109)), some (.inl (zd)), some (.inl (zw)), some (.inl (zp)), some (.inl (zm)), some (.inl (zt)), some (.inl (zb)), q7, q8], [], [], []) = some ((d + 12, 186, 22, [some (.inr (.inr 109)), some (.inl ((1 : Int))), some (.inl (zw)), some (.inl (zp)), some (.inl (zm)), some (.inl (zt + 1)), some (.inl (zb)), q7, q8], [], [], []), [-2147483648 ≤ zt + 1 ∧ zt + 1 ≤ 2147483647]) := rfl
theorem mi_tab_fmQ_0 : ∀ e ∈ ([(186, (9, 0, sb_186))] : mi_T), sc_P e.1 = some e.2 := mi_tb mi_P186 (mi_tb_e)
set_option maxRecDepth 20000 in
theorem ms_fmQ_0 {h : sm_H} {d : Nat} {Q : Option mi_V → sm_H → Prop} {zd zw zp zm zt zb : Int} {q7 q8 : Option mi_V} (hS : ab_Sh sx_sk h) (ok_zd : mi_in zd) (ok_zw : mi_in zw) (ok_zp : mi_in zp) (ok_zm : mi_in zm) (ok_zt : mi_in zt) (ok_zb : mi_in zb) (ok_q7 : ∀ v, q7 = some v → mi_ok v) (ok_q8 : ∀ v, q8 = some v → mi_ok v) (ho : (-2147483648 ≤ zt + 1 ∧ zt + 1 ≤ 2147483647)) (kon : ∀ h1, me_W [] h h1 → me_E (d + 12) 186 22 [some (.inr (.inr 109)), some (.inl ((1 : Int))), some (.inl (zw)), some (.inl (zp)), some (.inl (zm)), some (.inl (zt + 1)), some (.inl (zb)), q7, q8] [] h1 Q) : me_E (d + 12) 186 325 [some (.inr (.inr 109)), some (.inl (zd)), some (.inl (zw)), some (.inl (zp)), some (.inl (zm)), some (.inl (zt)), some (.inl (zb)), q7, q8] [] h Q := me_seg (mp_fmQ_0 h d zd zw zp zm zt zb q7 q8) (mi_tab_fmQ_0) hS (mi_okL_c (trivial) (mi_okL_c (ok_zd) (mi_okL_c (ok_zw) (mi_okL_c (ok_zp) (mi_okL_c (ok_zm) (mi_okL_c (ok_zt) (mi_okL_c (ok_zb) (mi_okL_o ok_q7 (mi_okL_o ok_q8 (mi_okL_e)))))))))) (mi_okS_e) (mi_al (ho) (mi_al_e)) (fun h1 W _ hst => kon h1 W)
set_option maxRecDepth 20000 in
theorem mt_fmQ {h : sm_H} {d : Nat} {Q : Option mi_V → sm_H → Prop} {zd zw zp zm zt zb : Int} {q7 q8 : Option mi_V} (hS : ab_Sh sx_sk h) (ok_zd : mi_in zd) (ok_zw : mi_in zw) (ok_zp : mi_in zp) (ok_zm : mi_in zm) (ok_zt : mi_in zt) (ok_zb : mi_in zb) (ok_q7 : ∀ v, q7 = some v → mi_ok v) (ok_q8 : ∀ v, q8 = some v → mi_ok v) (k0 : ((-2147483648 ≤ zt + 1 ∧ zt + 1 ≤ 2147483647)) ∧ (∀ h1, ab_Sh sx_sk h1 → ab_Fr [] h h1 → me_E (d + 12) 186 22 [some (.inr (.inr 109)), some (.inl ((1 : Int))), some (.inl (zw)), some (.inl (zp)), some (.inl (zm)), some (.inl (zt + 1)), some (.inl (zb)), q7, q8] [] h1 Q)) : me_E (d + 12) 186 325 [some (.inr (.inr 109)), some (.inl (zd)), some (.inl (zw)), some (.inl (zp)), some (.inl (zm)), some (.inl (zt)), some (.inl (zb)), q7, q8] [] h Q := ms_fmQ_0 hS ok_zd ok_zw ok_zp ok_zm ok_zt ok_zb ok_q7 ok_q8 ((k0).1) (fun h1 W => (k0).2 h1 W.1 (W.2.2.2.2.2 _ rfl))
set_option maxRecDepth 20000 in
theorem mp_fmR_0 (h : sm_H) (d : Nat) (zd zw zp zm zt zb : Int) (q7 q8 : Option mi_V) : mi_path [(186, (9, 0, sb_186))] sx_sk h 14 [1, 1] (d + 12, 186, 330, [some (.inr (.inr 109)), some (.inl (zd)), some (.inl (zw)), some (.inl (zp)), some (.inl (zm)), some (.inl (zt)), some (.inl (zb)), q7, q8], [], [], []) = some ((d + 12, 186, 421, [some (.inr (.inr 109)), some (.inl (zd)), some (.inl (zw)), some (.inl (zp)), some (.inl ((0 : Int))), some (.inl (zt)), some (.inl (zb)), q7, q8], [.inl (mi_f h 14002), .inl ((1 : Int)), .inr (.inr 109)], [], []), [(mi_f h 14001) ≠ ((41 : Int)), (mi_f h 14001) ≠ ((59 : Int))]) := rfl
theorem mi_tab_fmR_0 : ∀ e ∈ ([(186, (9, 0, sb_186))] : mi_T), sc_P e.1 = some e.2 := mi_tb mi_P186 (mi_tb_e)
set_option maxRecDepth 20000 in
theorem ms_fmR_0 {h : sm_H} {d : Nat} {Q : Option mi_V → sm_H → Prop} {zd zw zp zm zt zb : Int} {q7 q8 : Option mi_V} (hS : ab_Sh sx_sk h) (ok_zd : mi_in zd) (ok_zw : mi_in zw) (ok_zp : mi_in zp) (ok_zm : mi_in zm) (ok_zt : mi_in zt) (ok_zb : mi_in zb) (ok_q7 : ∀ v, q7 = some v → mi_ok v) (ok_q8 : ∀ v, q8 = some v → mi_ok v) (ho : ((mi_f h 14001) ≠ ((41 : Int))) ∧ ((mi_f h 14001) ≠ ((59 : Int)))) (kon : ∀ h1, me_W [] h h1 → ∃ Q1, me_E (d + 11) 184 0 (mi_entry 3 [.inr (.inr 109), .inl ((1 : Int)), .inl (mi_f h 14002)]) [] h1 Q1 ∧ ∀ w h2, (∀ x, w = some x → mi_ok x) → Q1 w h2 → me_E (d + 12) 186 424 [some (.inr (.inr 109)), some (.inl (zd)), some (.inl (zw)), some (.inl (zp)), some (.inl ((0 : Int))), some (.inl (zt)), some (.inl (zb)), q7, q8] (mi_back w []) h2 Q) : me_E (d + 12) 186 330 [some (.inr (.inr 109)), some (.inl (zd)), some (.inl (zw)), some (.inl (zp)), some (.inl (zm)), some (.inl (zt)), some (.inl (zb)), q7, q8] [] h Q := me_seg (mp_fmR_0 h d zd zw zp zm zt zb q7 q8) (mi_tab_fmR_0) hS (mi_okL_c (trivial) (mi_okL_c (ok_zd) (mi_okL_c (ok_zw) (mi_okL_c (ok_zp) (mi_okL_c (ok_zm) (mi_okL_c (ok_zt) (mi_okL_c (ok_zb) (mi_okL_o ok_q7 (mi_okL_o ok_q8 (mi_okL_e)))))))))) (mi_okS_e) (mi_al (ho.1) (mi_al (ho.2) (mi_al_e))) (fun h1 W _ hst => let ⟨_, k1, k2⟩ := kon h1 W; me_call (M := (9, 0, sb_186)) (M' := (3, 0, sb_184)) rfl rfl rfl rfl (Nat.le_of_ble_eq_true rfl) (Nat.le_of_ble_eq_true rfl) W.1 k1 k2)
set_option maxRecDepth 20000 in
theorem mp_fmR_1 (h : sm_H) (d : Nat) (zd zw zp zm zt zb : Int) (q7 q8 : Option mi_V) : mi_path [(186, (9, 0, sb_186))] sx_sk h 15 [1, 0, 1] (d + 12, 186, 330, [some (.inr (.inr 109)), some (.inl (zd)), some (.inl (zw)), some (.inl (zp)), some (.inl (zm)), some (.inl (zt)), some (.inl (zb)), q7, q8], [], [], []) = some ((d + 12, 186, 22, [some (.inr (.inr 109)), some (.inl (zd)), some (.inl (zw)), some (.inl (zp)), some (.inl ((0 : Int))), some (.inl (zt + 1)), some (.inl (zb)), q7, q8], [], [], []), [(mi_f h 14001) ≠ ((41 : Int)), (mi_f h 14001) = ((59 : Int)), (mi_f h 14003) ≤ ((0 : Int)), -2147483648 ≤ zt + 1 ∧ zt + 1 ≤ 2147483647]) := rfl
theorem mi_tab_fmR_1 : ∀ e ∈ ([(186, (9, 0, sb_186))] : mi_T), sc_P e.1 = some e.2 := mi_tb mi_P186 (mi_tb_e)
set_option maxRecDepth 20000 in
theorem ms_fmR_1 {h : sm_H} {d : Nat} {Q : Option mi_V → sm_H → Prop} {zd zw zp zm zt zb : Int} {q7 q8 : Option mi_V} (hS : ab_Sh sx_sk h) (ok_zd : mi_in zd) (ok_zw : mi_in zw) (ok_zp : mi_in zp) (ok_zm : mi_in zm) (ok_zt : mi_in zt) (ok_zb : mi_in zb) (ok_q7 : ∀ v, q7 = some v → mi_ok v) (ok_q8 : ∀ v, q8 = some v → mi_ok v) (ho : ((mi_f h 14001) ≠ ((41 : Int))) ∧ ((mi_f h 14001) = ((59 : Int))) ∧ ((mi_f h 14003) ≤ ((0 : Int))) ∧ (-2147483648 ≤ zt + 1 ∧ zt + 1 ≤ 2147483647)) (kon : ∀ h1, me_W [] h h1 → me_E (d + 12) 186 22 [some (.inr (.inr 109)), some (.inl (zd)), some (.inl (zw)), some (.inl (zp)), some (.inl ((0 : Int))), some (.inl (zt + 1)), some (.inl (zb)), q7, q8] [] h1 Q) : me_E (d + 12) 186 330 [some (.inr (.inr 109)), some (.inl (zd)), some (.inl (zw)), some (.inl (zp)), some (.inl (zm)), some (.inl (zt)), some (.inl (zb)), q7, q8] [] h Q := me_seg (mp_fmR_1 h d zd zw zp zm zt zb q7 q8) (mi_tab_fmR_1) hS (mi_okL_c (trivial) (mi_okL_c (ok_zd) (mi_okL_c (ok_zw) (mi_okL_c (ok_zp) (mi_okL_c (ok_zm) (mi_okL_c (ok_zt) (mi_okL_c (ok_zb) (mi_okL_o ok_q7 (mi_okL_o ok_q8 (mi_okL_e)))))))))) (mi_okS_e) (mi_al (ho.1) (mi_al (ho.2.1) (mi_al (ho.2.2.1) (mi_al (ho.2.2.2) (mi_al_e))))) (fun h1 W _ hst => kon h1 W)
set_option maxRecDepth 20000 in
theorem mp_fmR_2 (h : sm_H) (d : Nat) (zd zw zp zm zt zb : Int) (q7 q8 : Option mi_V) : mi_path [(186, (9, 0, sb_186))] sx_sk h 17 [1, 0, 0] (d + 12, 186, 330, [some (.inr (.inr 109)), some (.inl (zd)), some (.inl (zw)), some (.inl (zp)), some (.inl (zm)), some (.inl (zt)), some (.inl (zb)), q7, q8], [], [], []) = some ((d + 12, 186, 421, [some (.inr (.inr 109)), some (.inl (zd)), some (.inl (zw)), some (.inl (zp)), some (.inl ((0 : Int))), some (.inl (zt)), some (.inl (zb)), q7, q8], [.inl (mi_f h 14002), .inl ((1 : Int)), .inr (.inr 109)], [], []), [(mi_f h 14001) ≠ ((41 : Int)), (mi_f h 14001) = ((59 : Int)), ((0 : Int)) < (mi_f h 14003)]) := rfl
theorem mi_tab_fmR_2 : ∀ e ∈ ([(186, (9, 0, sb_186))] : mi_T), sc_P e.1 = some e.2 := mi_tb mi_P186 (mi_tb_e)
set_option maxRecDepth 20000 in
theorem ms_fmR_2 {h : sm_H} {d : Nat} {Q : Option mi_V → sm_H → Prop} {zd zw zp zm zt zb : Int} {q7 q8 : Option mi_V} (hS : ab_Sh sx_sk h) (ok_zd : mi_in zd) (ok_zw : mi_in zw) (ok_zp : mi_in zp) (ok_zm : mi_in zm) (ok_zt : mi_in zt) (ok_zb : mi_in zb) (ok_q7 : ∀ v, q7 = some v → mi_ok v) (ok_q8 : ∀ v, q8 = some v → mi_ok v) (ho : ((mi_f h 14001) ≠ ((41 : Int))) ∧ ((mi_f h 14001) = ((59 : Int))) ∧ (((0 : Int)) < (mi_f h 14003))) (kon : ∀ h1, me_W [] h h1 → ∃ Q1, me_E (d + 11) 184 0 (mi_entry 3 [.inr (.inr 109), .inl ((1 : Int)), .inl (mi_f h 14002)]) [] h1 Q1 ∧ ∀ w h2, (∀ x, w = some x → mi_ok x) → Q1 w h2 → me_E (d + 12) 186 424 [some (.inr (.inr 109)), some (.inl (zd)), some (.inl (zw)), some (.inl (zp)), some (.inl ((0 : Int))), some (.inl (zt)), some (.inl (zb)), q7, q8] (mi_back w []) h2 Q) : me_E (d + 12) 186 330 [some (.inr (.inr 109)), some (.inl (zd)), some (.inl (zw)), some (.inl (zp)), some (.inl (zm)), some (.inl (zt)), some (.inl (zb)), q7, q8] [] h Q := me_seg (mp_fmR_2 h d zd zw zp zm zt zb q7 q8) (mi_tab_fmR_2) hS (mi_okL_c (trivial) (mi_okL_c (ok_zd) (mi_okL_c (ok_zw) (mi_okL_c (ok_zp) (mi_okL_c (ok_zm) (mi_okL_c (ok_zt) (mi_okL_c (ok_zb) (mi_okL_o ok_q7 (mi_okL_o ok_q8 (mi_okL_e)))))))))) (mi_okS_e) (mi_al (ho.1) (mi_al (ho.2.1) (mi_al (ho.2.2) (mi_al_e)))) (fun h1 W _ hst => let ⟨_, k1, k2⟩ := kon h1 W; me_call (M := (9, 0, sb_186)) (M' := (3, 0, sb_184)) rfl rfl rfl rfl (Nat.le_of_ble_eq_true rfl) (Nat.le_of_ble_eq_true rfl) W.1 k1 k2)
set_option maxRecDepth 20000 in
theorem mp_fmR_3 (h : sm_H) (d : Nat) (zd zw zp zm zt zb : Int) (q7 q8 : Option mi_V) : mi_path [(186, (9, 0, sb_186))] sx_sk h 17 [0, 1, 1] (d + 12, 186, 330, [some (.inr (.inr 109)), some (.inl (zd)), some (.inl (zw)), some (.inl (zp)), some (.inl (zm)), some (.inl (zt)), some (.inl (zb)), q7, q8], [], [], []) = some ((d + 12, 186, 421, [some (.inr (.inr 109)), some (.inl (zd)), some (.inl (zw)), some (.inl (zp)), some (.inl ((0 : Int))), some (.inl (zt)), some (.inl (zb)), q7, q8], [.inl (mi_f h 14002), .inl ((1 : Int)), .inr (.inr 109)], [], []), [(mi_f h 14001) = ((41 : Int)), (mi_f h 14003) ≤ ((0 : Int)), (mi_f h 14001) ≠ ((59 : Int))]) := rfl
theorem mi_tab_fmR_3 : ∀ e ∈ ([(186, (9, 0, sb_186))] : mi_T), sc_P e.1 = some e.2 := mi_tb mi_P186 (mi_tb_e)
set_option maxRecDepth 20000 in
theorem ms_fmR_3 {h : sm_H} {d : Nat} {Q : Option mi_V → sm_H → Prop} {zd zw zp zm zt zb : Int} {q7 q8 : Option mi_V} (hS : ab_Sh sx_sk h) (ok_zd : mi_in zd) (ok_zw : mi_in zw) (ok_zp : mi_in zp) (ok_zm : mi_in zm) (ok_zt : mi_in zt) (ok_zb : mi_in zb) (ok_q7 : ∀ v, q7 = some v → mi_ok v) (ok_q8 : ∀ v, q8 = some v → mi_ok v) (ho : ((mi_f h 14001) = ((41 : Int))) ∧ ((mi_f h 14003) ≤ ((0 : Int))) ∧ ((mi_f h 14001) ≠ ((59 : Int)))) (kon : ∀ h1, me_W [] h h1 → ∃ Q1, me_E (d + 11) 184 0 (mi_entry 3 [.inr (.inr 109), .inl ((1 : Int)), .inl (mi_f h 14002)]) [] h1 Q1 ∧ ∀ w h2, (∀ x, w = some x → mi_ok x) → Q1 w h2 → me_E (d + 12) 186 424 [some (.inr (.inr 109)), some (.inl (zd)), some (.inl (zw)), some (.inl (zp)), some (.inl ((0 : Int))), some (.inl (zt)), some (.inl (zb)), q7, q8] (mi_back w []) h2 Q) : me_E (d + 12) 186 330 [some (.inr (.inr 109)), some (.inl (zd)), some (.inl (zw)), some (.inl (zp)), some (.inl (zm)), some (.inl (zt)), some (.inl (zb)), q7, q8] [] h Q := me_seg (mp_fmR_3 h d zd zw zp zm zt zb q7 q8) (mi_tab_fmR_3) hS (mi_okL_c (trivial) (mi_okL_c (ok_zd) (mi_okL_c (ok_zw) (mi_okL_c (ok_zp) (mi_okL_c (ok_zm) (mi_okL_c (ok_zt) (mi_okL_c (ok_zb) (mi_okL_o ok_q7 (mi_okL_o ok_q8 (mi_okL_e)))))))))) (mi_okS_e) (mi_al (ho.1) (mi_al (ho.2.1) (mi_al (ho.2.2) (mi_al_e)))) (fun h1 W _ hst => let ⟨_, k1, k2⟩ := kon h1 W; me_call (M := (9, 0, sb_186)) (M' := (3, 0, sb_184)) rfl rfl rfl rfl (Nat.le_of_ble_eq_true rfl) (Nat.le_of_ble_eq_true rfl) W.1 k1 k2)
set_option maxRecDepth 20000 in
theorem mp_fmR_4 (h : sm_H) (d : Nat) (zd zw zp zm zt zb : Int) (q7 q8 : Option mi_V) : mi_path [(186, (9, 0, sb_186))] sx_sk h 18 [0, 1, 0, 1] (d + 12, 186, 330, [some (.inr (.inr 109)), some (.inl (zd)), some (.inl (zw)), some (.inl (zp)), some (.inl (zm)), some (.inl (zt)), some (.inl (zb)), q7, q8], [], [], []) = some ((d + 12, 186, 22, [some (.inr (.inr 109)), some (.inl (zd)), some (.inl (zw)), some (.inl (zp)), some (.inl ((0 : Int))), some (.inl (zt + 1)), some (.inl (zb)), q7, q8], [], [], []), [(mi_f h 14001) = ((41 : Int)), (mi_f h 14003) ≤ ((0 : Int)), (mi_f h 14001) = ((59 : Int)), (mi_f h 14003) ≤ ((0 : Int)), -2147483648 ≤ zt + 1 ∧ zt + 1 ≤ 2147483647]) := rfl
theorem mi_tab_fmR_4 : ∀ e ∈ ([(186, (9, 0, sb_186))] : mi_T), sc_P e.1 = some e.2 := mi_tb mi_P186 (mi_tb_e)
set_option maxRecDepth 20000 in
theorem ms_fmR_4 {h : sm_H} {d : Nat} {Q : Option mi_V → sm_H → Prop} {zd zw zp zm zt zb : Int} {q7 q8 : Option mi_V} (hS : ab_Sh sx_sk h) (ok_zd : mi_in zd) (ok_zw : mi_in zw) (ok_zp : mi_in zp) (ok_zm : mi_in zm) (ok_zt : mi_in zt) (ok_zb : mi_in zb) (ok_q7 : ∀ v, q7 = some v → mi_ok v) (ok_q8 : ∀ v, q8 = some v → mi_ok v) (ho : ((mi_f h 14001) = ((41 : Int))) ∧ ((mi_f h 14003) ≤ ((0 : Int))) ∧ ((mi_f h 14001) = ((59 : Int))) ∧ ((mi_f h 14003) ≤ ((0 : Int))) ∧ (-2147483648 ≤ zt + 1 ∧ zt + 1 ≤ 2147483647)) (kon : ∀ h1, me_W [] h h1 → me_E (d + 12) 186 22 [some (.inr (.inr 109)), some (.inl (zd)), some (.inl (zw)), some (.inl (zp)), some (.inl ((0 : Int))), some (.inl (zt + 1)), some (.inl (zb)), q7, q8] [] h1 Q) : me_E (d + 12) 186 330 [some (.inr (.inr 109)), some (.inl (zd)), some (.inl (zw)), some (.inl (zp)), some (.inl (zm)), some (.inl (zt)), some (.inl (zb)), q7, q8] [] h Q := me_seg (mp_fmR_4 h d zd zw zp zm zt zb q7 q8) (mi_tab_fmR_4) hS (mi_okL_c (trivial) (mi_okL_c (ok_zd) (mi_okL_c (ok_zw) (mi_okL_c (ok_zp) (mi_okL_c (ok_zm) (mi_okL_c (ok_zt) (mi_okL_c (ok_zb) (mi_okL_o ok_q7 (mi_okL_o ok_q8 (mi_okL_e)))))))))) (mi_okS_e) (mi_al (ho.1) (mi_al (ho.2.1) (mi_al (ho.2.2.1) (mi_al (ho.2.2.2.1) (mi_al (ho.2.2.2.2) (mi_al_e)))))) (fun h1 W _ hst => kon h1 W)
set_option maxRecDepth 20000 in
theorem mp_fmR_5 (h : sm_H) (d : Nat) (zd zw zp zm zt zb : Int) (q7 q8 : Option mi_V) : mi_path [(186, (9, 0, sb_186))] sx_sk h 29 [0, 0, 8, 1] (d + 12, 186, 330, [some (.inr (.inr 109)), some (.inl (zd)), some (.inl (zw)), some (.inl (zp)), some (.inl (zm)), some (.inl (zt)), some (.inl (zb)), q7, q8], [], [], []) = some ((d + 12, 186, 388, [some (.inr (.inr 109)), some (.inl (zd)), some (.inl (zw)), some (.inl ((0 : Int))), some (.inl (zm)), some (.inl (zt)), some (.inl (zb)), some (.inl (mi_a h 148 (Int.toNat (mi_f h 14003)))), q8], [.inl (mi_a h 148 (Int.toNat (mi_f h 14003))), .inr (.inr 109)], [.inl (14003, (mi_f h 14003) - ((1 : Int)))], []), [(mi_f h 14001) = ((41 : Int)), ((0 : Int)) < (mi_f h 14003), 0 ≤ (mi_f h 14003) ∧ (mi_f h 14003) < 6, -2147483648 ≤ (mi_f h 14003) - ((1 : Int)) ∧ (mi_f h 14003) - ((1 : Int)) ≤ 2147483647, 0 ≤ ((mi_f h 14003) - ((1 : Int))) ∧ ((mi_f h 14003) - ((1 : Int))) ≤ 5, 0 ≤ ((mi_f h 14003) - ((1 : Int))) ∧ ((mi_f h 14003) - ((1 : Int))) < 6, (mi_a h 151 (Int.toNat ((mi_f h 14003) - ((1 : Int))))) ≠ ((0 : Int))]) := rfl
theorem mi_tab_fmR_5 : ∀ e ∈ ([(186, (9, 0, sb_186))] : mi_T), sc_P e.1 = some e.2 := mi_tb mi_P186 (mi_tb_e)
set_option maxRecDepth 20000 in
theorem ms_fmR_5 {h : sm_H} {d : Nat} {Q : Option mi_V → sm_H → Prop} {zd zw zp zm zt zb : Int} {q7 q8 : Option mi_V} (hS : ab_Sh sx_sk h) (ok_zd : mi_in zd) (ok_zw : mi_in zw) (ok_zp : mi_in zp) (ok_zm : mi_in zm) (ok_zt : mi_in zt) (ok_zb : mi_in zb) (ok_q7 : ∀ v, q7 = some v → mi_ok v) (ok_q8 : ∀ v, q8 = some v → mi_ok v) (ho : ((mi_f h 14001) = ((41 : Int))) ∧ (((0 : Int)) < (mi_f h 14003)) ∧ (0 ≤ (mi_f h 14003) ∧ (mi_f h 14003) < 6) ∧ (-2147483648 ≤ (mi_f h 14003) - ((1 : Int)) ∧ (mi_f h 14003) - ((1 : Int)) ≤ 2147483647) ∧ (0 ≤ ((mi_f h 14003) - ((1 : Int))) ∧ ((mi_f h 14003) - ((1 : Int))) ≤ 5) ∧ (0 ≤ ((mi_f h 14003) - ((1 : Int))) ∧ ((mi_f h 14003) - ((1 : Int))) < 6) ∧ ((mi_a h 151 (Int.toNat ((mi_f h 14003) - ((1 : Int))))) ≠ ((0 : Int)))) (kon : ∀ h1, me_W [.inl (14003, (mi_f h 14003) - ((1 : Int)))] h h1 → ∃ Q1, me_E (d + 11) 192 0 (mi_entry 2 [.inr (.inr 109), .inl (mi_a h 148 (Int.toNat (mi_f h 14003)))]) [] h1 Q1 ∧ ∀ w h2, (∀ x, w = some x → mi_ok x) → Q1 w h2 → me_E (d + 12) 186 391 [some (.inr (.inr 109)), some (.inl (zd)), some (.inl (zw)), some (.inl ((0 : Int))), some (.inl (zm)), some (.inl (zt)), some (.inl (zb)), some (.inl (mi_a h 148 (Int.toNat (mi_f h 14003)))), q8] (mi_back w []) h2 Q) : me_E (d + 12) 186 330 [some (.inr (.inr 109)), some (.inl (zd)), some (.inl (zw)), some (.inl (zp)), some (.inl (zm)), some (.inl (zt)), some (.inl (zb)), q7, q8] [] h Q := me_seg (mp_fmR_5 h d zd zw zp zm zt zb q7 q8) (mi_tab_fmR_5) hS (mi_okL_c (trivial) (mi_okL_c (ok_zd) (mi_okL_c (ok_zw) (mi_okL_c (ok_zp) (mi_okL_c (ok_zm) (mi_okL_c (ok_zt) (mi_okL_c (ok_zb) (mi_okL_o ok_q7 (mi_okL_o ok_q8 (mi_okL_e)))))))))) (mi_okS_e) (mi_al (ho.1) (mi_al (ho.2.1) (mi_al (ho.2.2.1) (mi_al (ho.2.2.2.1) (mi_al (ho.2.2.2.2.1) (mi_al (ho.2.2.2.2.2.1) (mi_al (ho.2.2.2.2.2.2) (mi_al_e)))))))) (fun h1 W _ hst => let ⟨_, k1, k2⟩ := kon h1 W; me_call (M := (9, 0, sb_186)) (M' := (2, 0, sb_192)) rfl rfl rfl rfl (Nat.le_of_ble_eq_true rfl) (Nat.le_of_ble_eq_true rfl) W.1 k1 k2)
set_option maxRecDepth 20000 in
theorem mp_fmR_6 (h : sm_H) (d : Nat) (zd zw zp zm zt zb : Int) (q7 q8 : Option mi_V) : mi_path [(186, (9, 0, sb_186))] sx_sk h 30 [0, 0, 8, 0] (d + 12, 186, 330, [some (.inr (.inr 109)), some (.inl (zd)), some (.inl (zw)), some (.inl (zp)), some (.inl (zm)), some (.inl (zt)), some (.inl (zb)), q7, q8], [], [], []) = some ((d + 12, 186, 388, [some (.inr (.inr 109)), some (.inl (zd)), some (.inl (zw)), some (.inl ((1 : Int))), some (.inl (zm)), some (.inl (zt)), some (.inl (zb)), some (.inl (mi_a h 148 (Int.toNat (mi_f h 14003)))), q8], [.inl (mi_a h 148 (Int.toNat (mi_f h 14003))), .inr (.inr 109)], [.inl (14003, (mi_f h 14003) - ((1 : Int)))], []), [(mi_f h 14001) = ((41 : Int)), ((0 : Int)) < (mi_f h 14003), 0 ≤ (mi_f h 14003) ∧ (mi_f h 14003) < 6, -2147483648 ≤ (mi_f h 14003) - ((1 : Int)) ∧ (mi_f h 14003) - ((1 : Int)) ≤ 2147483647, 0 ≤ ((mi_f h 14003) - ((1 : Int))) ∧ ((mi_f h 14003) - ((1 : Int))) ≤ 5, 0 ≤ ((mi_f h 14003) - ((1 : Int))) ∧ ((mi_f h 14003) - ((1 : Int))) < 6, (mi_a h 151 (Int.toNat ((mi_f h 14003) - ((1 : Int))))) = ((0 : Int))]) := rfl
theorem mi_tab_fmR_6 : ∀ e ∈ ([(186, (9, 0, sb_186))] : mi_T), sc_P e.1 = some e.2 := mi_tb mi_P186 (mi_tb_e)
set_option maxRecDepth 20000 in
theorem ms_fmR_6 {h : sm_H} {d : Nat} {Q : Option mi_V → sm_H → Prop} {zd zw zp zm zt zb : Int} {q7 q8 : Option mi_V} (hS : ab_Sh sx_sk h) (ok_zd : mi_in zd) (ok_zw : mi_in zw) (ok_zp : mi_in zp) (ok_zm : mi_in zm) (ok_zt : mi_in zt) (ok_zb : mi_in zb) (ok_q7 : ∀ v, q7 = some v → mi_ok v) (ok_q8 : ∀ v, q8 = some v → mi_ok v) (ho : ((mi_f h 14001) = ((41 : Int))) ∧ (((0 : Int)) < (mi_f h 14003)) ∧ (0 ≤ (mi_f h 14003) ∧ (mi_f h 14003) < 6) ∧ (-2147483648 ≤ (mi_f h 14003) - ((1 : Int)) ∧ (mi_f h 14003) - ((1 : Int)) ≤ 2147483647) ∧ (0 ≤ ((mi_f h 14003) - ((1 : Int))) ∧ ((mi_f h 14003) - ((1 : Int))) ≤ 5) ∧ (0 ≤ ((mi_f h 14003) - ((1 : Int))) ∧ ((mi_f h 14003) - ((1 : Int))) < 6) ∧ ((mi_a h 151 (Int.toNat ((mi_f h 14003) - ((1 : Int))))) = ((0 : Int)))) (kon : ∀ h1, me_W [.inl (14003, (mi_f h 14003) - ((1 : Int)))] h h1 → ∃ Q1, me_E (d + 11) 192 0 (mi_entry 2 [.inr (.inr 109), .inl (mi_a h 148 (Int.toNat (mi_f h 14003)))]) [] h1 Q1 ∧ ∀ w h2, (∀ x, w = some x → mi_ok x) → Q1 w h2 → me_E (d + 12) 186 391 [some (.inr (.inr 109)), some (.inl (zd)), some (.inl (zw)), some (.inl ((1 : Int))), some (.inl (zm)), some (.inl (zt)), some (.inl (zb)), some (.inl (mi_a h 148 (Int.toNat (mi_f h 14003)))), q8] (mi_back w []) h2 Q) : me_E (d + 12) 186 330 [some (.inr (.inr 109)), some (.inl (zd)), some (.inl (zw)), some (.inl (zp)), some (.inl (zm)), some (.inl (zt)), some (.inl (zb)), q7, q8] [] h Q := me_seg (mp_fmR_6 h d zd zw zp zm zt zb q7 q8) (mi_tab_fmR_6) hS (mi_okL_c (trivial) (mi_okL_c (ok_zd) (mi_okL_c (ok_zw) (mi_okL_c (ok_zp) (mi_okL_c (ok_zm) (mi_okL_c (ok_zt) (mi_okL_c (ok_zb) (mi_okL_o ok_q7 (mi_okL_o ok_q8 (mi_okL_e)))))))))) (mi_okS_e) (mi_al (ho.1) (mi_al (ho.2.1) (mi_al (ho.2.2.1) (mi_al (ho.2.2.2.1) (mi_al (ho.2.2.2.2.1) (mi_al (ho.2.2.2.2.2.1) (mi_al (ho.2.2.2.2.2.2) (mi_al_e)))))))) (fun h1 W _ hst => let ⟨_, k1, k2⟩ := kon h1 W; me_call (M := (9, 0, sb_186)) (M' := (2, 0, sb_192)) rfl rfl rfl rfl (Nat.le_of_ble_eq_true rfl) (Nat.le_of_ble_eq_true rfl) W.1 k1 k2)
set_option maxRecDepth 20000 in
theorem mt_fmR {h : sm_H} {d : Nat} {Q : Option mi_V → sm_H → Prop} {zd zw zp zm zt zb : Int} {q7 q8 : Option mi_V} (hS : ab_Sh sx_sk h) (ok_zd : mi_in zd) (ok_zw : mi_in zw) (ok_zp : mi_in zp) (ok_zm : mi_in zm) (ok_zt : mi_in zt) (ok_zb : mi_in zb) (ok_q7 : ∀ v, q7 = some v → mi_ok v) (ok_q8 : ∀ v, q8 = some v → mi_ok v) (k0 : ((-2147483648) ≤ mi_f h 14001 ∧ mi_f h 14001 ≤ 2147483647) → ((mi_f h 14001) ≠ ((41 : Int))) → ((mi_f h 14001) ≠ ((59 : Int))) → (∀ h1, ab_Sh sx_sk h1 → ab_Fr [] h h1 → ∃ Q1, me_E (d + 11) 184 0 (mi_entry 3 [.inr (.inr 109), .inl ((1 : Int)), .inl (mi_f h 14002)]) [] h1 Q1 ∧ ∀ w h2, (∀ x, w = some x → mi_ok x) → Q1 w h2 → me_E (d + 12) 186 424 [some (.inr (.inr 109)), some (.inl (zd)), some (.inl (zw)), some (.inl (zp)), some (.inl ((0 : Int))), some (.inl (zt)), some (.inl (zb)), q7, q8] (mi_back w []) h2 Q)) (k1 : ((-2147483648) ≤ mi_f h 14001 ∧ mi_f h 14001 ≤ 2147483647) → (0 ≤ mi_f h 14003 ∧ mi_f h 14003 ≤ 5) → ((mi_f h 14001) ≠ ((41 : Int))) → ((mi_f h 14001) = ((59 : Int))) → ((mi_f h 14003) ≤ ((0 : Int))) → ((-2147483648 ≤ zt + 1 ∧ zt + 1 ≤ 2147483647)) ∧ (∀ h1, ab_Sh sx_sk h1 → ab_Fr [] h h1 → me_E (d + 12) 186 22 [some (.inr (.inr 109)), some (.inl (zd)), some (.inl (zw)), some (.inl (zp)), some (.inl ((0 : Int))), some (.inl (zt + 1)), some (.inl (zb)), q7, q8] [] h1 Q)) (k2 : ((-2147483648) ≤ mi_f h 14001 ∧ mi_f h 14001 ≤ 2147483647) → (0 ≤ mi_f h 14003 ∧ mi_f h 14003 ≤ 5) → ((mi_f h 14001) ≠ ((41 : Int))) → ((mi_f h 14001) = ((59 : Int))) → (((0 : Int)) < (mi_f h 14003)) → (∀ h1, ab_Sh sx_sk h1 → ab_Fr [] h h1 → ∃ Q1, me_E (d + 11) 184 0 (mi_entry 3 [.inr (.inr 109), .inl ((1 : Int)), .inl (mi_f h 14002)]) [] h1 Q1 ∧ ∀ w h2, (∀ x, w = some x → mi_ok x) → Q1 w h2 → me_E (d + 12) 186 424 [some (.inr (.inr 109)), some (.inl (zd)), some (.inl (zw)), some (.inl (zp)), some (.inl ((0 : Int))), some (.inl (zt)), some (.inl (zb)), q7, q8] (mi_back w []) h2 Q)) (k3 : ((-2147483648) ≤ mi_f h 14001 ∧ mi_f h 14001 ≤ 2147483647) → (0 ≤ mi_f h 14003 ∧ mi_f h 14003 ≤ 5) → ((mi_f h 14001) = ((41 : Int))) → ((mi_f h 14003) ≤ ((0 : Int))) → ((mi_f h 14001) ≠ ((59 : Int))) → (∀ h1, ab_Sh sx_sk h1 → ab_Fr [] h h1 → ∃ Q1, me_E (d + 11) 184 0 (mi_entry 3 [.inr (.inr 109), .inl ((1 : Int)), .inl (mi_f h 14002)]) [] h1 Q1 ∧ ∀ w h2, (∀ x, w = some x → mi_ok x) → Q1 w h2 → me_E (d + 12) 186 424 [some (.inr (.inr 109)), some (.inl (zd)), some (.inl (zw)), some (.inl (zp)), some (.inl ((0 : Int))), some (.inl (zt)), some (.inl (zb)), q7, q8] (mi_back w []) h2 Q)) (k4 : ((-2147483648) ≤ mi_f h 14001 ∧ mi_f h 14001 ≤ 2147483647) → (0 ≤ mi_f h 14003 ∧ mi_f h 14003 ≤ 5) → ((mi_f h 14001) = ((41 : Int))) → ((mi_f h 14003) ≤ ((0 : Int))) → ((mi_f h 14001) = ((59 : Int))) → ((-2147483648 ≤ zt + 1 ∧ zt + 1 ≤ 2147483647)) ∧ (∀ h1, ab_Sh sx_sk h1 → ab_Fr [] h h1 → me_E (d + 12) 186 22 [some (.inr (.inr 109)), some (.inl (zd)), some (.inl (zw)), some (.inl (zp)), some (.inl ((0 : Int))), some (.inl (zt + 1)), some (.inl (zb)), q7, q8] [] h1 Q)) (k5 : ((-2147483648) ≤ mi_f h 14001 ∧ mi_f h 14001 ≤ 2147483647) → (0 ≤ mi_f h 14003 ∧ mi_f h 14003 ≤ 5) → ((mi_f h 14001) = ((41 : Int))) → (((0 : Int)) < (mi_f h 14003)) → ((mi_a h 151 (Int.toNat ((mi_f h 14003) - ((1 : Int))))) ≠ ((0 : Int))) → ((0 ≤ (mi_f h 14003) ∧ (mi_f h 14003) < 6) ∧ (-2147483648 ≤ (mi_f h 14003) - ((1 : Int)) ∧ (mi_f h 14003) - ((1 : Int)) ≤ 2147483647) ∧ (0 ≤ ((mi_f h 14003) - ((1 : Int))) ∧ ((mi_f h 14003) - ((1 : Int))) ≤ 5) ∧ (0 ≤ ((mi_f h 14003) - ((1 : Int))) ∧ ((mi_f h 14003) - ((1 : Int))) < 6)) ∧ (∀ h1, ab_Sh sx_sk h1 → mi_f h1 14003 = (mi_f h 14003) - ((1 : Int)) → ab_Fr [(14003, 14004)] h h1 → ∃ Q1, me_E (d + 11) 192 0 (mi_entry 2 [.inr (.inr 109), .inl (mi_a h 148 (Int.toNat (mi_f h 14003)))]) [] h1 Q1 ∧ ∀ w h2, (∀ x, w = some x → mi_ok x) → Q1 w h2 → me_E (d + 12) 186 391 [some (.inr (.inr 109)), some (.inl (zd)), some (.inl (zw)), some (.inl ((0 : Int))), some (.inl (zm)), some (.inl (zt)), some (.inl (zb)), some (.inl (mi_a h 148 (Int.toNat (mi_f h 14003)))), q8] (mi_back w []) h2 Q)) (k6 : ((-2147483648) ≤ mi_f h 14001 ∧ mi_f h 14001 ≤ 2147483647) → (0 ≤ mi_f h 14003 ∧ mi_f h 14003 ≤ 5) → ((mi_f h 14001) = ((41 : Int))) → (((0 : Int)) < (mi_f h 14003)) → ((mi_a h 151 (Int.toNat ((mi_f h 14003) - ((1 : Int))))) = ((0 : Int))) → ((0 ≤ (mi_f h 14003) ∧ (mi_f h 14003) < 6) ∧ (-2147483648 ≤ (mi_f h 14003) - ((1 : Int)) ∧ (mi_f h 14003) - ((1 : Int)) ≤ 2147483647) ∧ (0 ≤ ((mi_f h 14003) - ((1 : Int))) ∧ ((mi_f h 14003) - ((1 : Int))) ≤ 5) ∧ (0 ≤ ((mi_f h 14003) - ((1 : Int))) ∧ ((mi_f h 14003) - ((1 : Int))) < 6)) ∧ (∀ h1, ab_Sh sx_sk h1 → mi_f h1 14003 = (mi_f h 14003) - ((1 : Int)) → ab_Fr [(14003, 14004)] h h1 → ∃ Q1, me_E (d + 11) 192 0 (mi_entry 2 [.inr (.inr 109), .inl (mi_a h 148 (Int.toNat (mi_f h 14003)))]) [] h1 Q1 ∧ ∀ w h2, (∀ x, w = some x → mi_ok x) → Q1 w h2 → me_E (d + 12) 186 391 [some (.inr (.inr 109)), some (.inl (zd)), some (.inl (zw)), some (.inl ((1 : Int))), some (.inl (zm)), some (.inl (zt)), some (.inl (zb)), some (.inl (mi_a h 148 (Int.toNat (mi_f h 14003)))), q8] (mi_back w []) h2 Q)) : me_E (d + 12) 186 330 [some (.inr (.inr 109)), some (.inl (zd)), some (.inl (zw)), some (.inl (zp)), some (.inl (zm)), some (.inl (zt)), some (.inl (zb)), q7, q8] [] h Q := Or.elim (mi_em .ne ((mi_f h 14001)) (((41 : Int)))) (fun c0 => Or.elim (mi_em .ne ((mi_f h 14001)) (((59 : Int)))) (fun c1 => ms_fmR_0 hS ok_zd ok_zw ok_zp ok_zm ok_zt ok_zb ok_q7 ok_q8 ⟨c0, c1⟩ (fun h1 W => (k0 (me_fb hS rfl) c0 c1) h1 W.1 (W.2.2.2.2.2 _ rfl))) (fun c1 => Or.elim (mi_em .le ((mi_f h 14003)) (((0 : Int)))) (fun c2 => ms_fmR_1 hS ok_zd ok_zw ok_zp ok_zm ok_zt ok_zb ok_q7 ok_q8 ⟨c0, c1, c2, (k1 (me_fb hS rfl) (me_fb hS rfl) c0 c1 c2).1⟩ (fun h1 W => (k1 (me_fb hS rfl) (me_fb hS rfl) c0 c1 c2).2 h1 W.1 (W.2.2.2.2.2 _ rfl))) (fun c2 => ms_fmR_2 hS ok_zd ok_zw ok_zp ok_zm ok_zt ok_zb ok_q7 ok_q8 ⟨c0, c1, c2⟩ (fun h1 W => (k2 (me_fb hS rfl) (me_fb hS rfl) c0 c1 c2) h1 W.1 (W.2.2.2.2.2 _ rfl))))) (fun c0 => Or.elim (mi_em .le ((mi_f h 14003)) (((0 : Int)))) (fun c1 => Or.elim (mi_em .ne ((mi_f h 14001)) (((59 : Int)))) (fun c2 => ms_fmR_3 hS ok_zd ok_zw ok_zp ok_zm ok_zt ok_zb ok_q7 ok_q8 ⟨c0, c1, c2⟩ (fun h1 W => (k3 (me_fb hS rfl) (me_fb hS rfl) c0 c1 c2) h1 W.1 (W.2.2.2.2.2 _ rfl))) (fun c2 => ms_fmR_4 hS ok_zd ok_zw ok_zp ok_zm ok_zt ok_zb ok_q7 ok_q8 ⟨c0, c1, c2, c1, (k4 (me_fb hS rfl) (me_fb hS rfl) c0 c1 c2).1⟩ (fun h1 W => (k4 (me_fb hS rfl) (me_fb hS rfl) c0 c1 c2).2 h1 W.1 (W.2.2.2.2.2 _ rfl)))) (fun c1 => Or.elim (mi_em .ne ((mi_a h 151 (Int.toNat ((mi_f h 14003) - ((1 : Int)))))) (((0 : Int)))) (fun c2 => ms_fmR_5 hS ok_zd ok_zw ok_zp ok_zm ok_zt ok_zb ok_q7 ok_q8 ⟨c0, c1, (k5 (me_fb hS rfl) (me_fb hS rfl) c0 c1 c2).1.1, (k5 (me_fb hS rfl) (me_fb hS rfl) c0 c1 c2).1.2.1, (k5 (me_fb hS rfl) (me_fb hS rfl) c0 c1 c2).1.2.2.1, (k5 (me_fb hS rfl) (me_fb hS rfl) c0 c1 c2).1.2.2.2, c2⟩ (fun h1 W => (k5 (me_fb hS rfl) (me_fb hS rfl) c0 c1 c2).2 h1 W.1 (W.2.1 14003) (W.2.2.2.2.2 _ rfl))) (fun c2 => ms_fmR_6 hS ok_zd ok_zw ok_zp ok_zm ok_zt ok_zb ok_q7 ok_q8 ⟨c0, c1, (k6 (me_fb hS rfl) (me_fb hS rfl) c0 c1 c2).1.1, (k6 (me_fb hS rfl) (me_fb hS rfl) c0 c1 c2).1.2.1, (k6 (me_fb hS rfl) (me_fb hS rfl) c0 c1 c2).1.2.2.1, (k6 (me_fb hS rfl) (me_fb hS rfl) c0 c1 c2).1.2.2.2, c2⟩ (fun h1 W => (k6 (me_fb hS rfl) (me_fb hS rfl) c0 c1 c2).2 h1 W.1 (W.2.1 14003) (W.2.2.2.2.2 _ rfl)))))
set_option maxRecDepth 20000 in
theorem mp_fmS_0 (h : sm_H) (d : Nat) (zd zw zp zm zt zb : Int) (q7 q8 : Option mi_V) : mi_path [(186, (9, 0, sb_186))] sx_sk h 5 [] (d + 12, 186, 391, [some (.inr (.inr 109)), some (.inl (zd)), some (.inl (zw)), some (.inl (zp)), some (.inl (zm)), some (.inl (zt)), some (.inl (zb)), q7, q8], [], [], []) = some ((d + 12, 186, 22, [some (.inr (.inr 109)), some (.inl (zd)), some (.inl ((1 : Int))), some (.inl (zp)), some (.inl (zm)), some (.inl (zt + 1)), some (.inl (zb)), q7, q8], [], [], []), [-2147483648 ≤ zt + 1 ∧ zt + 1 ≤ 2147483647]) := rfl
theorem mi_tab_fmS_0 : ∀ e ∈ ([(186, (9, 0, sb_186))] : mi_T), sc_P e.1 = some e.2 := mi_tb mi_P186 (mi_tb_e)
set_option maxRecDepth 20000 in
theorem ms_fmS_0 {h : sm_H} {d : Nat} {Q : Option mi_V → sm_H → Prop} {zd zw zp zm zt zb : Int} {q7 q8 : Option mi_V} (hS : ab_Sh sx_sk h) (ok_zd : mi_in zd) (ok_zw : mi_in zw) (ok_zp : mi_in zp) (ok_zm : mi_in zm) (ok_zt : mi_in zt) (ok_zb : mi_in zb) (ok_q7 : ∀ v, q7 = some v → mi_ok v) (ok_q8 : ∀ v, q8 = some v → mi_ok v) (ho : (-2147483648 ≤ zt + 1 ∧ zt + 1 ≤ 2147483647)) (kon : ∀ h1, me_W [] h h1 → me_E (d + 12) 186 22 [some (.inr (.inr 109)), some (.inl (zd)), some (.inl ((1 : Int))), some (.inl (zp)), some (.inl (zm)), some (.inl (zt + 1)), some (.inl (zb)), q7, q8] [] h1 Q) : me_E (d + 12) 186 391 [some (.inr (.inr 109)), some (.inl (zd)), some (.inl (zw)), some (.inl (zp)), some (.inl (zm)), some (.inl (zt)), some (.inl (zb)), q7, q8] [] h Q := me_seg (mp_fmS_0 h d zd zw zp zm zt zb q7 q8) (mi_tab_fmS_0) hS (mi_okL_c (trivial) (mi_okL_c (ok_zd) (mi_okL_c (ok_zw) (mi_okL_c (ok_zp) (mi_okL_c (ok_zm) (mi_okL_c (ok_zt) (mi_okL_c (ok_zb) (mi_okL_o ok_q7 (mi_okL_o ok_q8 (mi_okL_e)))))))))) (mi_okS_e) (mi_al (ho) (mi_al_e)) (fun h1 W _ hst => kon h1 W)
set_option maxRecDepth 20000 in
theorem mt_fmS {h : sm_H} {d : Nat} {Q : Option mi_V → sm_H → Prop} {zd zw zp zm zt zb : Int} {q7 q8 : Option mi_V} (hS : ab_Sh sx_sk h) (ok_zd : mi_in zd) (ok_zw : mi_in zw) (ok_zp : mi_in zp) (ok_zm : mi_in zm) (ok_zt : mi_in zt) (ok_zb : mi_in zb) (ok_q7 : ∀ v, q7 = some v → mi_ok v) (ok_q8 : ∀ v, q8 = some v → mi_ok v) (k0 : ((-2147483648 ≤ zt + 1 ∧ zt + 1 ≤ 2147483647)) ∧ (∀ h1, ab_Sh sx_sk h1 → ab_Fr [] h h1 → me_E (d + 12) 186 22 [some (.inr (.inr 109)), some (.inl (zd)), some (.inl ((1 : Int))), some (.inl (zp)), some (.inl (zm)), some (.inl (zt + 1)), some (.inl (zb)), q7, q8] [] h1 Q)) : me_E (d + 12) 186 391 [some (.inr (.inr 109)), some (.inl (zd)), some (.inl (zw)), some (.inl (zp)), some (.inl (zm)), some (.inl (zt)), some (.inl (zb)), q7, q8] [] h Q := ms_fmS_0 hS ok_zd ok_zw ok_zp ok_zm ok_zt ok_zb ok_q7 ok_q8 ((k0).1) (fun h1 W => (k0).2 h1 W.1 (W.2.2.2.2.2 _ rfl))
set_option maxRecDepth 20000 in
theorem mp_fmT_0 (h : sm_H) (d : Nat) (zd zw zp zm zt zb : Int) (q7 q8 : Option mi_V) : mi_path [(186, (9, 0, sb_186))] sx_sk h 2 [] (d + 12, 186, 424, [some (.inr (.inr 109)), some (.inl (zd)), some (.inl (zw)), some (.inl (zp)), some (.inl (zm)), some (.inl (zt)), some (.inl (zb)), q7, q8], [], [], []) = some ((d + 12, 186, 22, [some (.inr (.inr 109)), some (.inl (zd)), some (.inl (zw)), some (.inl (zp)), some (.inl (zm)), some (.inl (zt + 1)), some (.inl (zb)), q7, q8], [], [], []), [-2147483648 ≤ zt + 1 ∧ zt + 1 ≤ 2147483647]) := rfl
theorem mi_tab_fmT_0 : ∀ e ∈ ([(186, (9, 0, sb_186))] : mi_T), sc_P e.1 = some e.2 := mi_tb mi_P186 (mi_tb_e)
set_option maxRecDepth 20000 in
theorem ms_fmT_0 {h : sm_H} {d : Nat} {Q : Option mi_V → sm_H → Prop} {zd zw zp zm zt zb : Int} {q7 q8 : Option mi_V} (hS : ab_Sh sx_sk h) (ok_zd : mi_in zd) (ok_zw : mi_in zw) (ok_zp : mi_in zp) (ok_zm : mi_in zm) (ok_zt : mi_in zt) (ok_zb : mi_in zb) (ok_q7 : ∀ v, q7 = some v → mi_ok v) (ok_q8 : ∀ v, q8 = some v → mi_ok v) (ho : (-2147483648 ≤ zt + 1 ∧ zt + 1 ≤ 2147483647)) (kon : ∀ h1, me_W [] h h1 → me_E (d + 12) 186 22 [some (.inr (.inr 109)), some (.inl (zd)), some (.inl (zw)), some (.inl (zp)), some (.inl (zm)), some (.inl (zt + 1)), some (.inl (zb)), q7, q8] [] h1 Q) : me_E (d + 12) 186 424 [some (.inr (.inr 109)), some (.inl (zd)), some (.inl (zw)), some (.inl (zp)), some (.inl (zm)), some (.inl (zt)), some (.inl (zb)), q7, q8] [] h Q := me_seg (mp_fmT_0 h d zd zw zp zm zt zb q7 q8) (mi_tab_fmT_0) hS (mi_okL_c (trivial) (mi_okL_c (ok_zd) (mi_okL_c (ok_zw) (mi_okL_c (ok_zp) (mi_okL_c (ok_zm) (mi_okL_c (ok_zt) (mi_okL_c (ok_zb) (mi_okL_o ok_q7 (mi_okL_o ok_q8 (mi_okL_e)))))))))) (mi_okS_e) (mi_al (ho) (mi_al_e)) (fun h1 W _ hst => kon h1 W)
set_option maxRecDepth 20000 in
theorem mt_fmT {h : sm_H} {d : Nat} {Q : Option mi_V → sm_H → Prop} {zd zw zp zm zt zb : Int} {q7 q8 : Option mi_V} (hS : ab_Sh sx_sk h) (ok_zd : mi_in zd) (ok_zw : mi_in zw) (ok_zp : mi_in zp) (ok_zm : mi_in zm) (ok_zt : mi_in zt) (ok_zb : mi_in zb) (ok_q7 : ∀ v, q7 = some v → mi_ok v) (ok_q8 : ∀ v, q8 = some v → mi_ok v) (k0 : ((-2147483648 ≤ zt + 1 ∧ zt + 1 ≤ 2147483647)) ∧ (∀ h1, ab_Sh sx_sk h1 → ab_Fr [] h h1 → me_E (d + 12) 186 22 [some (.inr (.inr 109)), some (.inl (zd)), some (.inl (zw)), some (.inl (zp)), some (.inl (zm)), some (.inl (zt + 1)), some (.inl (zb)), q7, q8] [] h1 Q)) : me_E (d + 12) 186 424 [some (.inr (.inr 109)), some (.inl (zd)), some (.inl (zw)), some (.inl (zp)), some (.inl (zm)), some (.inl (zt)), some (.inl (zb)), q7, q8] [] h Q := ms_fmT_0 hS ok_zd ok_zw ok_zp ok_zm ok_zt ok_zb ok_q7 ok_q8 ((k0).1) (fun h1 W => (k0).2 h1 W.1 (W.2.2.2.2.2 _ rfl))
/-! segments: readRule, read -/
set_option maxRecDepth 20000 in
theorem mp_rrA_0 (h : sm_H) (d : Nat) : mi_path [(183, (3, 0, sb_183))] sx_sk h 11 [1] (d + 14, 183, 0, [some (.inr (.inr 109)), none, none], [], [], []) = some ((d + 14, 183, 26, [some (.inr (.inr 109)), some (.inl (mi_f h 14002)), some (.inl ((mx_l h 14004).toInt32.toInt))], [], [], []), [(mi_f h 14001) = ((2 : Int))]) := rfl
theorem mi_tab_rrA_0 : ∀ e ∈ ([(183, (3, 0, sb_183))] : mi_T), sc_P e.1 = some e.2 := mi_tb mi_P183 (mi_tb_e)
set_option maxRecDepth 20000 in
theorem ms_rrA_0 {h : sm_H} {d : Nat} {Q : Option mi_V → sm_H → Prop} (hS : ab_Sh sx_sk h)  (ho : ((mi_f h 14001) = ((2 : Int)))) (kon : ∀ h1, me_W [] h h1 → me_E (d + 14) 183 26 [some (.inr (.inr 109)), some (.inl (mi_f h 14002)), some (.inl ((mx_l h 14004).toInt32.toInt))] [] h1 Q) : me_E (d + 14) 183 0 [some (.inr (.inr 109)), none, none] [] h Q := me_seg (mp_rrA_0 h d ) (mi_tab_rrA_0) hS (mi_okL_c (trivial) (mi_okL_n (mi_okL_n (mi_okL_e)))) (mi_okS_e) (mi_al (ho) (mi_al_e)) (fun h1 W _ hst => kon h1 W)
set_option maxRecDepth 20000 in
theorem mp_rrA_1 (h : sm_H) (d : Nat) : mi_path [(183, (3, 0, sb_183))] sx_sk h 14 [0] (d + 14, 183, 0, [some (.inr (.inr 109)), none, none], [], [], []) = some ((d + 14, 183, 22, [some (.inr (.inr 109)), some (.inl (mi_f h 14002)), some (.inl ((mx_l h 14004).toInt32.toInt))], [.inl (mi_f h 14002), .inl ((1 : Int)), .inr (.inr 109)], [], []), [(mi_f h 14001) ≠ ((2 : Int))]) := rfl
theorem mi_tab_rrA_1 : ∀ e ∈ ([(183, (3, 0, sb_183))] : mi_T), sc_P e.1 = some e.2 := mi_tb mi_P183 (mi_tb_e)
set_option maxRecDepth 20000 in
theorem ms_rrA_1 {h : sm_H} {d : Nat} {Q : Option mi_V → sm_H → Prop} (hS : ab_Sh sx_sk h)  (ho : ((mi_f h 14001) ≠ ((2 : Int)))) (kon : ∀ h1, me_W [] h h1 → ∃ Q1, me_E (d + 13) 184 0 (mi_entry 3 [.inr (.inr 109), .inl ((1 : Int)), .inl (mi_f h 14002)]) [] h1 Q1 ∧ ∀ w h2, (∀ x, w = some x → mi_ok x) → Q1 w h2 → me_E (d + 14) 183 25 [some (.inr (.inr 109)), some (.inl (mi_f h 14002)), some (.inl ((mx_l h 14004).toInt32.toInt))] (mi_back w []) h2 Q) : me_E (d + 14) 183 0 [some (.inr (.inr 109)), none, none] [] h Q := me_seg (mp_rrA_1 h d ) (mi_tab_rrA_1) hS (mi_okL_c (trivial) (mi_okL_n (mi_okL_n (mi_okL_e)))) (mi_okS_e) (mi_al (ho) (mi_al_e)) (fun h1 W _ hst => let ⟨_, k1, k2⟩ := kon h1 W; me_call (M := (3, 0, sb_183)) (M' := (3, 0, sb_184)) rfl rfl rfl rfl (Nat.le_of_ble_eq_true rfl) (Nat.le_of_ble_eq_true rfl) W.1 k1 k2)
set_option maxRecDepth 20000 in
theorem mt_rrA {h : sm_H} {d : Nat} {Q : Option mi_V → sm_H → Prop} (hS : ab_Sh sx_sk h)  (k0 : ((-2147483648) ≤ mi_f h 14001 ∧ mi_f h 14001 ≤ 2147483647) → ((mi_f h 14001) = ((2 : Int))) → (∀ h1, ab_Sh sx_sk h1 → ab_Fr [] h h1 → me_E (d + 14) 183 26 [some (.inr (.inr 109)), some (.inl (mi_f h 14002)), some (.inl ((mx_l h 14004).toInt32.toInt))] [] h1 Q)) (k1 : ((-2147483648) ≤ mi_f h 14001 ∧ mi_f h 14001 ≤ 2147483647) → ((mi_f h 14001) ≠ ((2 : Int))) → (∀ h1, ab_Sh sx_sk h1 → ab_Fr [] h h1 → ∃ Q1, me_E (d + 13) 184 0 (mi_entry 3 [.inr (.inr 109), .inl ((1 : Int)), .inl (mi_f h 14002)]) [] h1 Q1 ∧ ∀ w h2, (∀ x, w = some x → mi_ok x) → Q1 w h2 → me_E (d + 14) 183 25 [some (.inr (.inr 109)), some (.inl (mi_f h 14002)), some (.inl ((mx_l h 14004).toInt32.toInt))] (mi_back w []) h2 Q)) : me_E (d + 14) 183 0 [some (.inr (.inr 109)), none, none] [] h Q := Or.elim (mi_em .eq ((mi_f h 14001)) (((2 : Int)))) (fun c0 => ms_rrA_0 hS (c0) (fun h1 W => (k0 (me_fb hS rfl) c0) h1 W.1 (W.2.2.2.2.2 _ rfl))) (fun c0 => ms_rrA_1 hS (c0) (fun h1 W => (k1 (me_fb hS rfl) c0) h1 W.1 (W.2.2.2.2.2 _ rfl)))
set_option maxRecDepth 20000 in
theorem mp_rrB_0 (h : sm_H) (d : Nat) (zp zn : Int) : mi_path [(183, (3, 0, sb_183))] sx_sk h 14 [1, 0] (d + 14, 183, 26, [some (.inr (.inr 109)), some (.inl (zp)), some (.inl (zn))], [], [], []) = some ((d + 14, 183, 60, [some (.inr (.inr 109)), some (.inl (zp)), some (.inl (zn))], [.inl (zp), .inl ((2 : Int)), .inr (.inr 109)], [], []), [0 ≤ zn ∧ zn < 26, ((0 : Int)) ≤ (mi_a h 115 (Int.toNat zn)), 0 ≤ zn ∧ zn < 26, ((0 : Int)) ≤ (mi_a h 115 (Int.toNat zn))]) := rfl
theorem mi_tab_rrB_0 : ∀ e ∈ ([(183, (3, 0, sb_183))] : mi_T), sc_P e.1 = some e.2 := mi_tb mi_P183 (mi_tb_e)
set_option maxRecDepth 20000 in
theorem ms_rrB_0 {h : sm_H} {d : Nat} {Q : Option mi_V → sm_H → Prop} {zp zn : Int} (hS : ab_Sh sx_sk h) (ok_zp : mi_in zp) (ok_zn : mi_in zn) (ho : (0 ≤ zn ∧ zn < 26) ∧ (((0 : Int)) ≤ (mi_a h 115 (Int.toNat zn))) ∧ (0 ≤ zn ∧ zn < 26) ∧ (((0 : Int)) ≤ (mi_a h 115 (Int.toNat zn)))) (kon : ∀ h1, me_W [] h h1 → ∃ Q1, me_E (d + 13) 184 0 (mi_entry 3 [.inr (.inr 109), .inl ((2 : Int)), .inl (zp)]) [] h1 Q1 ∧ ∀ w h2, (∀ x, w = some x → mi_ok x) → Q1 w h2 → me_E (d + 14) 183 63 [some (.inr (.inr 109)), some (.inl (zp)), some (.inl (zn))] (mi_back w []) h2 Q) : me_E (d + 14) 183 26 [some (.inr (.inr 109)), some (.inl (zp)), some (.inl (zn))] [] h Q := me_seg (mp_rrB_0 h d zp zn) (mi_tab_rrB_0) hS (mi_okL_c (trivial) (mi_okL_c (ok_zp) (mi_okL_c (ok_zn) (mi_okL_e)))) (mi_okS_e) (mi_al (ho.1) (mi_al (ho.2.1) (mi_al (ho.2.2.1) (mi_al (ho.2.2.2) (mi_al_e))))) (fun h1 W _ hst => let ⟨_, k1, k2⟩ := kon h1 W; me_call (M := (3, 0, sb_183)) (M' := (3, 0, sb_184)) rfl rfl rfl rfl (Nat.le_of_ble_eq_true rfl) (Nat.le_of_ble_eq_true rfl) W.1 k1 k2)
set_option maxRecDepth 20000 in
theorem mp_rrB_1 (h : sm_H) (d : Nat) (zp zn : Int) : mi_path [(183, (3, 0, sb_183))] sx_sk h 10 [0, 1] (d + 14, 183, 26, [some (.inr (.inr 109)), some (.inl (zp)), some (.inl (zn))], [], [], []) = some ((d + 14, 183, 65, [some (.inr (.inr 109)), some (.inl (zp)), some (.inl (zn))], [.inr (.inr 109)], [], []), [0 ≤ zn ∧ zn < 26, (mi_a h 115 (Int.toNat zn)) < ((0 : Int)), (mi_f h 13961) ≠ ((10 : Int))]) := rfl
theorem mi_tab_rrB_1 : ∀ e ∈ ([(183, (3, 0, sb_183))] : mi_T), sc_P e.1 = some e.2 := mi_tb mi_P183 (mi_tb_e)
set_option maxRecDepth 20000 in
theorem ms_rrB_1 {h : sm_H} {d : Nat} {Q : Option mi_V → sm_H → Prop} {zp zn : Int} (hS : ab_Sh sx_sk h) (ok_zp : mi_in zp) (ok_zn : mi_in zn) (ho : (0 ≤ zn ∧ zn < 26) ∧ ((mi_a h 115 (Int.toNat zn)) < ((0 : Int))) ∧ ((mi_f h 13961) ≠ ((10 : Int)))) (kon : ∀ h1, me_W [] h h1 → ∃ Q1, me_E (d + 13) 177 0 (mi_entry 4 [.inr (.inr 109)]) [] h1 Q1 ∧ ∀ w h2, (∀ x, w = some x → mi_ok x) → Q1 w h2 → me_E (d + 14) 183 68 [some (.inr (.inr 109)), some (.inl (zp)), some (.inl (zn))] (mi_back w []) h2 Q) : me_E (d + 14) 183 26 [some (.inr (.inr 109)), some (.inl (zp)), some (.inl (zn))] [] h Q := me_seg (mp_rrB_1 h d zp zn) (mi_tab_rrB_1) hS (mi_okL_c (trivial) (mi_okL_c (ok_zp) (mi_okL_c (ok_zn) (mi_okL_e)))) (mi_okS_e) (mi_al (ho.1) (mi_al (ho.2.1) (mi_al (ho.2.2) (mi_al_e)))) (fun h1 W _ hst => let ⟨_, k1, k2⟩ := kon h1 W; me_call (M := (3, 0, sb_183)) (M' := (4, 0, sb_177)) rfl rfl rfl rfl (Nat.le_of_ble_eq_true rfl) (Nat.le_of_ble_eq_true rfl) W.1 k1 k2)
set_option maxRecDepth 20000 in
theorem mp_rrB_2 (h : sm_H) (d : Nat) (zp zn : Int) : mi_path [(183, (3, 0, sb_183))] sx_sk h 17 [0, 0, 1] (d + 14, 183, 26, [some (.inr (.inr 109)), some (.inl (zp)), some (.inl (zn))], [], [], []) = some ((d + 14, 183, 60, [some (.inr (.inr 109)), some (.inl (zp)), some (.inl (zn))], [.inl (zp), .inl ((3 : Int)), .inr (.inr 109)], [], []), [0 ≤ zn ∧ zn < 26, (mi_a h 115 (Int.toNat zn)) < ((0 : Int)), (mi_f h 13961) = ((10 : Int)), 0 ≤ zn ∧ zn < 26, (mi_a h 115 (Int.toNat zn)) < ((0 : Int))]) := rfl
theorem mi_tab_rrB_2 : ∀ e ∈ ([(183, (3, 0, sb_183))] : mi_T), sc_P e.1 = some e.2 := mi_tb mi_P183 (mi_tb_e)
set_option maxRecDepth 20000 in
theorem ms_rrB_2 {h : sm_H} {d : Nat} {Q : Option mi_V → sm_H → Prop} {zp zn : Int} (hS : ab_Sh sx_sk h) (ok_zp : mi_in zp) (ok_zn : mi_in zn) (ho : (0 ≤ zn ∧ zn < 26) ∧ ((mi_a h 115 (Int.toNat zn)) < ((0 : Int))) ∧ ((mi_f h 13961) = ((10 : Int))) ∧ (0 ≤ zn ∧ zn < 26) ∧ ((mi_a h 115 (Int.toNat zn)) < ((0 : Int)))) (kon : ∀ h1, me_W [] h h1 → ∃ Q1, me_E (d + 13) 184 0 (mi_entry 3 [.inr (.inr 109), .inl ((3 : Int)), .inl (zp)]) [] h1 Q1 ∧ ∀ w h2, (∀ x, w = some x → mi_ok x) → Q1 w h2 → me_E (d + 14) 183 63 [some (.inr (.inr 109)), some (.inl (zp)), some (.inl (zn))] (mi_back w []) h2 Q) : me_E (d + 14) 183 26 [some (.inr (.inr 109)), some (.inl (zp)), some (.inl (zn))] [] h Q := me_seg (mp_rrB_2 h d zp zn) (mi_tab_rrB_2) hS (mi_okL_c (trivial) (mi_okL_c (ok_zp) (mi_okL_c (ok_zn) (mi_okL_e)))) (mi_okS_e) (mi_al (ho.1) (mi_al (ho.2.1) (mi_al (ho.2.2.1) (mi_al (ho.2.2.2.1) (mi_al (ho.2.2.2.2) (mi_al_e)))))) (fun h1 W _ hst => let ⟨_, k1, k2⟩ := kon h1 W; me_call (M := (3, 0, sb_183)) (M' := (3, 0, sb_184)) rfl rfl rfl rfl (Nat.le_of_ble_eq_true rfl) (Nat.le_of_ble_eq_true rfl) W.1 k1 k2)
set_option maxRecDepth 20000 in
theorem mt_rrB {h : sm_H} {d : Nat} {Q : Option mi_V → sm_H → Prop} {zp zn : Int} (hS : ab_Sh sx_sk h) (ok_zp : mi_in zp) (ok_zn : mi_in zn) (k0 : (((0 : Int)) ≤ (mi_a h 115 (Int.toNat zn))) → ((0 ≤ zn ∧ zn < 26)) ∧ (∀ h1, ab_Sh sx_sk h1 → ab_Fr [] h h1 → ∃ Q1, me_E (d + 13) 184 0 (mi_entry 3 [.inr (.inr 109), .inl ((2 : Int)), .inl (zp)]) [] h1 Q1 ∧ ∀ w h2, (∀ x, w = some x → mi_ok x) → Q1 w h2 → me_E (d + 14) 183 63 [some (.inr (.inr 109)), some (.inl (zp)), some (.inl (zn))] (mi_back w []) h2 Q)) (k1 : (0 ≤ mi_f h 13961 ∧ mi_f h 13961 ≤ 10) → ((mi_a h 115 (Int.toNat zn)) < ((0 : Int))) → ((mi_f h 13961) ≠ ((10 : Int))) → ((0 ≤ zn ∧ zn < 26)) ∧ (∀ h1, ab_Sh sx_sk h1 → ab_Fr [] h h1 → ∃ Q1, me_E (d + 13) 177 0 (mi_entry 4 [.inr (.inr 109)]) [] h1 Q1 ∧ ∀ w h2, (∀ x, w = some x → mi_ok x) → Q1 w h2 → me_E (d + 14) 183 68 [some (.inr (.inr 109)), some (.inl (zp)), some (.inl (zn))] (mi_back w []) h2 Q)) (k2 : (0 ≤ mi_f h 13961 ∧ mi_f h 13961 ≤ 10) → ((mi_a h 115 (Int.toNat zn)) < ((0 : Int))) → ((mi_f h 13961) = ((10 : Int))) → ((0 ≤ zn ∧ zn < 26)) ∧ (∀ h1, ab_Sh sx_sk h1 → ab_Fr [] h h1 → ∃ Q1, me_E (d + 13) 184 0 (mi_entry 3 [.inr (.inr 109), .inl ((3 : Int)), .inl (zp)]) [] h1 Q1 ∧ ∀ w h2, (∀ x, w = some x → mi_ok x) → Q1 w h2 → me_E (d + 14) 183 63 [some (.inr (.inr 109)), some (.inl (zp)), some (.inl (zn))] (mi_back w []) h2 Q)) : me_E (d + 14) 183 26 [some (.inr (.inr 109)), some (.inl (zp)), some (.inl (zn))] [] h Q := Or.elim (mi_em .ge ((mi_a h 115 (Int.toNat zn))) (((0 : Int)))) (fun c0 => ms_rrB_0 hS ok_zp ok_zn ⟨(k0 c0).1, c0, (k0 c0).1, c0⟩ (fun h1 W => (k0 c0).2 h1 W.1 (W.2.2.2.2.2 _ rfl))) (fun c0 => Or.elim (mi_em .ne ((mi_f h 13961)) (((10 : Int)))) (fun c1 => ms_rrB_1 hS ok_zp ok_zn ⟨(k1 (me_fb hS rfl) c0 c1).1, c0, c1⟩ (fun h1 W => (k1 (me_fb hS rfl) c0 c1).2 h1 W.1 (W.2.2.2.2.2 _ rfl))) (fun c1 => ms_rrB_2 hS ok_zp ok_zn ⟨(k2 (me_fb hS rfl) c0 c1).1, c0, c1, (k2 (me_fb hS rfl) c0 c1).1, c0⟩ (fun h1 W => (k2 (me_fb hS rfl) c0 c1).2 h1 W.1 (W.2.2.2.2.2 _ rfl))))
set_option maxRecDepth 20000 in
theorem mp_rrC_0 (h : sm_H) (d : Nat) (zp zn : Int) : mi_path [(183, (3, 0, sb_183))] sx_sk h 23 [1] (d + 14, 183, 68, [some (.inr (.inr 109)), some (.inl (zp)), some (.inl (zn))], [], [], []) = some ((d + 14, 183, 118, [some (.inr (.inr 109)), some (.inl (zp)), some (.inl (zn))], [.inr (.inr 109), .inl ((0 : Int)), .inr (.inr 146)], [.inl (14003, (0 : Int)), .inr (.inr (.inl (113, Int.toNat (mi_f h 13961), zp))), .inr (.inr (.inl (115, Int.toNat zn, mi_f h 13961)))], []), [(mi_f h 14001) = ((61 : Int)), 0 ≤ zn ∧ zn < 26, (-1) ≤ (mi_f h 13961) ∧ (mi_f h 13961) ≤ 9, 0 ≤ (mi_f h 13961) ∧ (mi_f h 13961) < 10, 0 ≤ ((0 : Int)) ∧ ((0 : Int)) ≤ 5]) := rfl
theorem mi_tab_rrC_0 : ∀ e ∈ ([(183, (3, 0, sb_183))] : mi_T), sc_P e.1 = some e.2 := mi_tb mi_P183 (mi_tb_e)
set_option maxRecDepth 20000 in
theorem ms_rrC_0 {h : sm_H} {d : Nat} {Q : Option mi_V → sm_H → Prop} {zp zn : Int} (hS : ab_Sh sx_sk h) (ok_zp : mi_in zp) (ok_zn : mi_in zn) (ho : ((mi_f h 14001) = ((61 : Int))) ∧ (0 ≤ zn ∧ zn < 26) ∧ ((-1) ≤ (mi_f h 13961) ∧ (mi_f h 13961) ≤ 9) ∧ (0 ≤ (mi_f h 13961) ∧ (mi_f h 13961) < 10) ∧ (0 ≤ ((0 : Int)) ∧ ((0 : Int)) ≤ 5)) (kon : ∀ h1, me_W [.inl (14003, (0 : Int)), .inr (.inr (.inl (113, Int.toNat (mi_f h 13961), zp))), .inr (.inr (.inl (115, Int.toNat zn, mi_f h 13961)))] h h1 → ∃ Q1, me_E (d + 13) 185 0 (mi_entry 1 [.inr (.inr 109)]) [] h1 Q1 ∧ ∀ w h2, (∀ x, w = some x → mi_ok x) → Q1 w h2 → me_E (d + 14) 183 121 [some (.inr (.inr 109)), some (.inl (zp)), some (.inl (zn))] (mi_back w [.inl ((0 : Int)), .inr (.inr 146)]) h2 Q) : me_E (d + 14) 183 68 [some (.inr (.inr 109)), some (.inl (zp)), some (.inl (zn))] [] h Q := me_seg (mp_rrC_0 h d zp zn) (mi_tab_rrC_0) hS (mi_okL_c (trivial) (mi_okL_c (ok_zp) (mi_okL_c (ok_zn) (mi_okL_e)))) (mi_okS_e) (mi_al (ho.1) (mi_al (ho.2.1) (mi_al (ho.2.2.1) (mi_al (ho.2.2.2.1) (mi_al (ho.2.2.2.2) (mi_al_e)))))) (fun h1 W _ hst => let ⟨_, k1, k2⟩ := kon h1 W; me_call (M := (3, 0, sb_183)) (M' := (1, 1, sb_185)) rfl rfl rfl rfl (Nat.le_of_ble_eq_true rfl) (Nat.le_of_ble_eq_true rfl) W.1 k1 k2)
set_option maxRecDepth 20000 in
theorem mp_rrC_1 (h : sm_H) (d : Nat) (zp zn : Int) : mi_path [(183, (3, 0, sb_183))] sx_sk h 8 [0] (d + 14, 183, 68, [some (.inr (.inr 109)), some (.inl (zp)), some (.inl (zn))], [], [], []) = some ((d + 14, 183, 83, [some (.inr (.inr 109)), some (.inl (zp)), some (.inl (zn))], [.inl (mi_f h 14002), .inl ((1 : Int)), .inr (.inr 109)], [], []), [(mi_f h 14001) ≠ ((61 : Int))]) := rfl
theorem mi_tab_rrC_1 : ∀ e ∈ ([(183, (3, 0, sb_183))] : mi_T), sc_P e.1 = some e.2 := mi_tb mi_P183 (mi_tb_e)
set_option maxRecDepth 20000 in
theorem ms_rrC_1 {h : sm_H} {d : Nat} {Q : Option mi_V → sm_H → Prop} {zp zn : Int} (hS : ab_Sh sx_sk h) (ok_zp : mi_in zp) (ok_zn : mi_in zn) (ho : ((mi_f h 14001) ≠ ((61 : Int)))) (kon : ∀ h1, me_W [] h h1 → ∃ Q1, me_E (d + 13) 184 0 (mi_entry 3 [.inr (.inr 109), .inl ((1 : Int)), .inl (mi_f h 14002)]) [] h1 Q1 ∧ ∀ w h2, (∀ x, w = some x → mi_ok x) → Q1 w h2 → me_E (d + 14) 183 86 [some (.inr (.inr 109)), some (.inl (zp)), some (.inl (zn))] (mi_back w []) h2 Q) : me_E (d + 14) 183 68 [some (.inr (.inr 109)), some (.inl (zp)), some (.inl (zn))] [] h Q := me_seg (mp_rrC_1 h d zp zn) (mi_tab_rrC_1) hS (mi_okL_c (trivial) (mi_okL_c (ok_zp) (mi_okL_c (ok_zn) (mi_okL_e)))) (mi_okS_e) (mi_al (ho) (mi_al_e)) (fun h1 W _ hst => let ⟨_, k1, k2⟩ := kon h1 W; me_call (M := (3, 0, sb_183)) (M' := (3, 0, sb_184)) rfl rfl rfl rfl (Nat.le_of_ble_eq_true rfl) (Nat.le_of_ble_eq_true rfl) W.1 k1 k2)
set_option maxRecDepth 20000 in
theorem mt_rrC {h : sm_H} {d : Nat} {Q : Option mi_V → sm_H → Prop} {zp zn : Int} (hS : ab_Sh sx_sk h) (ok_zp : mi_in zp) (ok_zn : mi_in zn) (k0 : ((-2147483648) ≤ mi_f h 14001 ∧ mi_f h 14001 ≤ 2147483647) → (0 ≤ mi_f h 13961 ∧ mi_f h 13961 ≤ 10) → ((mi_f h 14001) = ((61 : Int))) → ((0 ≤ zn ∧ zn < 26) ∧ ((-1) ≤ (mi_f h 13961) ∧ (mi_f h 13961) ≤ 9) ∧ (0 ≤ (mi_f h 13961) ∧ (mi_f h 13961) < 10)) ∧ (∀ h1, ab_Sh sx_sk h1 → mi_f h1 14003 = (0 : Int) → (∀ i, mi_a h1 113 i = if i = Int.toNat (mi_f h 13961) then zp else (mi_a h 113 i)) → (∀ i, mi_a h1 115 i = if i = Int.toNat zn then mi_f h 13961 else (mi_a h 115 i)) → ab_Fr [(14003, 14004), (14464, 14465), (14720, 14721)] h h1 → ∃ Q1, me_E (d + 13) 185 0 (mi_entry 1 [.inr (.inr 109)]) [] h1 Q1 ∧ ∀ w h2, (∀ x, w = some x → mi_ok x) → Q1 w h2 → me_E (d + 14) 183 121 [some (.inr (.inr 109)), some (.inl (zp)), some (.inl (zn))] (mi_back w [.inl ((0 : Int)), .inr (.inr 146)]) h2 Q)) (k1 : ((-2147483648) ≤ mi_f h 14001 ∧ mi_f h 14001 ≤ 2147483647) → ((mi_f h 14001) ≠ ((61 : Int))) → (∀ h1, ab_Sh sx_sk h1 → ab_Fr [] h h1 → ∃ Q1, me_E (d + 13) 184 0 (mi_entry 3 [.inr (.inr 109), .inl ((1 : Int)), .inl (mi_f h 14002)]) [] h1 Q1 ∧ ∀ w h2, (∀ x, w = some x → mi_ok x) → Q1 w h2 → me_E (d + 14) 183 86 [some (.inr (.inr 109)), some (.inl (zp)), some (.inl (zn))] (mi_back w []) h2 Q)) : me_E (d + 14) 183 68 [some (.inr (.inr 109)), some (.inl (zp)), some (.inl (zn))] [] h Q := Or.elim (mi_em .eq ((mi_f h 14001)) (((61 : Int)))) (fun c0 => ms_rrC_0 hS ok_zp ok_zn ⟨c0, (k0 (me_fb hS rfl) (me_fb hS rfl) c0).1.1, (k0 (me_fb hS rfl) (me_fb hS rfl) c0).1.2.1, (k0 (me_fb hS rfl) (me_fb hS rfl) c0).1.2.2, (by decide)⟩ (fun h1 W => (k0 (me_fb hS rfl) (me_fb hS rfl) c0).2 h1 W.1 (W.2.1 14003) (fun i => W.2.2.1 113 i) (fun i => W.2.2.1 115 i) (W.2.2.2.2.2 _ rfl))) (fun c0 => ms_rrC_1 hS ok_zp ok_zn (c0) (fun h1 W => (k1 (me_fb hS rfl) c0) h1 W.1 (W.2.2.2.2.2 _ rfl)))
set_option maxRecDepth 20000 in
theorem mp_rrD_0 (h : sm_H) (d : Nat) (zp zn zz z0 : Int) : mi_path [(183, (3, 0, sb_183))] sx_sk h 17 [8] (d + 14, 183, 121, [some (.inr (.inr 109)), some (.inl (zp)), some (.inl (zn))], [.inl (zz), .inl (z0), .inr (.inr 146)], [], []) = some ((d + 14, 183, 148, [some (.inr (.inr 109)), some (.inl (zp)), some (.inl (zn))], [.inr (.inr 109)], [.inl (13961, (mi_f h 13961) + ((1 : Int))), .inr (.inr (.inl (114, Int.toNat (mi_f h 13961), if Int.toNat ((0 : Int)) = Int.toNat z0 then zz else (mi_a h 146 (Int.toNat ((0 : Int))))))), .inr (.inr (.inl (146, Int.toNat z0, zz)))], []), [0 ≤ z0 ∧ z0 < 6, 0 ≤ zz ∧ zz ≤ 79, 0 ≤ ((0 : Int)) ∧ ((0 : Int)) < 6, 0 ≤ (mi_f h 13961) ∧ (mi_f h 13961) < 10, 0 ≤ (if Int.toNat ((0 : Int)) = Int.toNat z0 then zz else (mi_a h 146 (Int.toNat ((0 : Int))))) ∧ (if Int.toNat ((0 : Int)) = Int.toNat z0 then zz else (mi_a h 146 (Int.toNat ((0 : Int))))) ≤ 79, -2147483648 ≤ (mi_f h 13961) + ((1 : Int)) ∧ (mi_f h 13961) + ((1 : Int)) ≤ 2147483647, 0 ≤ ((mi_f h 13961) + ((1 : Int))) ∧ ((mi_f h 13961) + ((1 : Int))) ≤ 10]) := rfl
theorem mi_tab_rrD_0 : ∀ e ∈ ([(183, (3, 0, sb_183))] : mi_T), sc_P e.1 = some e.2 := mi_tb mi_P183 (mi_tb_e)
set_option maxRecDepth 20000 in
theorem ms_rrD_0 {h : sm_H} {d : Nat} {Q : Option mi_V → sm_H → Prop} {zp zn zz z0 : Int} (hS : ab_Sh sx_sk h) (ok_zp : mi_in zp) (ok_zn : mi_in zn) (ok_zz : mi_in zz) (ok_z0 : mi_in z0) (ho : (0 ≤ z0 ∧ z0 < 6) ∧ (0 ≤ zz ∧ zz ≤ 79) ∧ (0 ≤ ((0 : Int)) ∧ ((0 : Int)) < 6) ∧ (0 ≤ (mi_f h 13961) ∧ (mi_f h 13961) < 10) ∧ (0 ≤ (if Int.toNat ((0 : Int)) = Int.toNat z0 then zz else (mi_a h 146 (Int.toNat ((0 : Int))))) ∧ (if Int.toNat ((0 : Int)) = Int.toNat z0 then zz else (mi_a h 146 (Int.toNat ((0 : Int))))) ≤ 79) ∧ (-2147483648 ≤ (mi_f h 13961) + ((1 : Int)) ∧ (mi_f h 13961) + ((1 : Int)) ≤ 2147483647) ∧ (0 ≤ ((mi_f h 13961) + ((1 : Int))) ∧ ((mi_f h 13961) + ((1 : Int))) ≤ 10)) (kon : ∀ h1, me_W [.inl (13961, (mi_f h 13961) + ((1 : Int))), .inr (.inr (.inl (114, Int.toNat (mi_f h 13961), if Int.toNat ((0 : Int)) = Int.toNat z0 then zz else (mi_a h 146 (Int.toNat ((0 : Int))))))), .inr (.inr (.inl (146, Int.toNat z0, zz)))] h h1 → ∃ Q1, me_E (d + 13) 186 0 (mi_entry 9 [.inr (.inr 109)]) [] h1 Q1 ∧ ∀ w h2, (∀ x, w = some x → mi_ok x) → Q1 w h2 → me_E (d + 14) 183 151 [some (.inr (.inr 109)), some (.inl (zp)), some (.inl (zn))] (mi_back w []) h2 Q) : me_E (d + 14) 183 121 [some (.inr (.inr 109)), some (.inl (zp)), some (.inl (zn))] [.inl (zz), .inl (z0), .inr (.inr 146)] h Q := me_seg (mp_rrD_0 h d zp zn zz z0) (mi_tab_rrD_0) hS (mi_okL_c (trivial) (mi_okL_c (ok_zp) (mi_okL_c (ok_zn) (mi_okL_e)))) (mi_okS_cons (ok_zz) (mi_okS_cons (ok_z0) (mi_okS_cons (trivial) (mi_okS_e)))) (mi_al (ho.1) (mi_al (ho.2.1) (mi_al (ho.2.2.1) (mi_al (ho.2.2.2.1) (mi_al (ho.2.2.2.2.1) (mi_al (ho.2.2.2.2.2.1) (mi_al (ho.2.2.2.2.2.2) (mi_al_e)))))))) (fun h1 W _ hst => let ⟨_, k1, k2⟩ := kon h1 W; me_call (M := (3, 0, sb_183)) (M' := (9, 0, sb_186)) rfl rfl rfl rfl (Nat.le_of_ble_eq_true rfl) (Nat.le_of_ble_eq_true rfl) W.1 k1 k2)
set_option maxRecDepth 20000 in
theorem mt_rrD {h : sm_H} {d : Nat} {Q : Option mi_V → sm_H → Prop} {zp zn zz z0 : Int} (hS : ab_Sh sx_sk h) (ok_zp : mi_in zp) (ok_zn : mi_in zn) (ok_zz : mi_in zz) (ok_z0 : mi_in z0) (k0 : (0 ≤ mi_f h 13961 ∧ mi_f h 13961 ≤ 10) → ((0 ≤ z0 ∧ z0 < 6) ∧ (0 ≤ zz ∧ zz ≤ 79) ∧ (0 ≤ (mi_f h 13961) ∧ (mi_f h 13961) < 10) ∧ (0 ≤ (if Int.toNat ((0 : Int)) = Int.toNat z0 then zz else (mi_a h 146 (Int.toNat ((0 : Int))))) ∧ (if Int.toNat ((0 : Int)) = Int.toNat z0 then zz else (mi_a h 146 (Int.toNat ((0 : Int))))) ≤ 79) ∧ (-2147483648 ≤ (mi_f h 13961) + ((1 : Int)) ∧ (mi_f h 13961) + ((1 : Int)) ≤ 2147483647) ∧ (0 ≤ ((mi_f h 13961) + ((1 : Int))) ∧ ((mi_f h 13961) + ((1 : Int))) ≤ 10)) ∧ (∀ h1, ab_Sh sx_sk h1 → mi_f h1 13961 = (mi_f h 13961) + ((1 : Int)) → (∀ i, mi_a h1 114 i = if i = Int.toNat (mi_f h 13961) then if Int.toNat ((0 : Int)) = Int.toNat z0 then zz else (mi_a h 146 (Int.toNat ((0 : Int)))) else (mi_a h 114 i)) → (∀ i, mi_a h1 146 i = if i = Int.toNat z0 then zz else (mi_a h 146 i)) → ab_Fr [(13961, 13962), (14592, 14593), (18688, 18689)] h h1 → ∃ Q1, me_E (d + 13) 186 0 (mi_entry 9 [.inr (.inr 109)]) [] h1 Q1 ∧ ∀ w h2, (∀ x, w = some x → mi_ok x) → Q1 w h2 → me_E (d + 14) 183 151 [some (.inr (.inr 109)), some (.inl (zp)), some (.inl (zn))] (mi_back w []) h2 Q)) : me_E (d + 14) 183 121 [some (.inr (.inr 109)), some (.inl (zp)), some (.inl (zn))] [.inl (zz), .inl (z0), .inr (.inr 146)] h Q := ms_rrD_0 hS ok_zp ok_zn ok_zz ok_z0 ⟨(k0 (me_fb hS rfl)).1.1, (k0 (me_fb hS rfl)).1.2.1, (by decide), (k0 (me_fb hS rfl)).1.2.2.1, (k0 (me_fb hS rfl)).1.2.2.2.1, (k0 (me_fb hS rfl)).1.2.2.2.2.1, (k0 (me_fb hS rfl)).1.2.2.2.2.2⟩ (fun h1 W => (k0 (me_fb hS rfl)).2 h1 W.1 (W.2.1 13961) (fun i => W.2.2.1 114 i) (fun i => W.2.2.1 146 i) (W.2.2.2.2.2 _ rfl))
set_option maxRecDepth 20000 in
theorem mp_rr25_0 (h : sm_H) (d : Nat) (zp zn : Int) : mi_path [(183, (3, 0, sb_183))] sx_sk h 0 [] (d + 14, 183, 25, [some (.inr (.inr 109)), some (.inl (zp)), some (.inl (zn))], [], [], []) = some ((d + 14, 183, 25, [some (.inr (.inr 109)), some (.inl (zp)), some (.inl (zn))], [], [], []), []) := rfl
theorem mi_tab_rr25_0 : ∀ e ∈ ([(183, (3, 0, sb_183))] : mi_T), sc_P e.1 = some e.2 := mi_tb mi_P183 (mi_tb_e)
set_option maxRecDepth 20000 in
theorem ms_rr25_0 {h : sm_H} {d : Nat} {Q : Option mi_V → sm_H → Prop} {zp zn : Int} (hS : ab_Sh sx_sk h) (ok_zp : mi_in zp) (ok_zn : mi_in zn) (kon : ∀ h1, me_W [] h h1 → Q none h1) : me_E (d + 14) 183 25 [some (.inr (.inr 109)), some (.inl (zp)), some (.inl (zn))] [] h Q := me_seg (mp_rr25_0 h d zp zn) (mi_tab_rr25_0) hS (mi_okL_c (trivial) (mi_okL_c (ok_zp) (mi_okL_c (ok_zn) (mi_okL_e)))) (mi_okS_e) (mi_al_e) (fun h1 W _ hst => me_ret (M := (3, 0, sb_183)) rfl rfl rfl hst (mi_al_e) (kon h1 W))
set_option maxRecDepth 20000 in
theorem mt_rr25 {h : sm_H} {d : Nat} {Q : Option mi_V → sm_H → Prop} {zp zn : Int} (hS : ab_Sh sx_sk h) (ok_zp : mi_in zp) (ok_zn : mi_in zn) (k0 : (∀ h1, ab_Sh sx_sk h1 → ab_Fr [] h h1 → Q none h1)) : me_E (d + 14) 183 25 [some (.inr (.inr 109)), some (.inl (zp)), some (.inl (zn))] [] h Q := ms_rr25_0 hS ok_zp ok_zn (fun h1 W => (k0) h1 W.1 (W.2.2.2.2.2 _ rfl))
set_option maxRecDepth 20000 in
theorem mp_rr63_0 (h : sm_H) (d : Nat) (zp zn : Int) : mi_path [(183, (3, 0, sb_183))] sx_sk h 0 [] (d + 14, 183, 63, [some (.inr (.inr 109)), some (.inl (zp)), some (.inl (zn))], [], [], []) = some ((d + 14, 183, 63, [some (.inr (.inr 109)), some (.inl (zp)), some (.inl (zn))], [], [], []), []) := rfl
theorem mi_tab_rr63_0 : ∀ e ∈ ([(183, (3, 0, sb_183))] : mi_T), sc_P e.1 = some e.2 := mi_tb mi_P183 (mi_tb_e)
set_option maxRecDepth 20000 in
theorem ms_rr63_0 {h : sm_H} {d : Nat} {Q : Option mi_V → sm_H → Prop} {zp zn : Int} (hS : ab_Sh sx_sk h) (ok_zp : mi_in zp) (ok_zn : mi_in zn) (kon : ∀ h1, me_W [] h h1 → Q none h1) : me_E (d + 14) 183 63 [some (.inr (.inr 109)), some (.inl (zp)), some (.inl (zn))] [] h Q := me_seg (mp_rr63_0 h d zp zn) (mi_tab_rr63_0) hS (mi_okL_c (trivial) (mi_okL_c (ok_zp) (mi_okL_c (ok_zn) (mi_okL_e)))) (mi_okS_e) (mi_al_e) (fun h1 W _ hst => me_ret (M := (3, 0, sb_183)) rfl rfl rfl hst (mi_al_e) (kon h1 W))
set_option maxRecDepth 20000 in
theorem mt_rr63 {h : sm_H} {d : Nat} {Q : Option mi_V → sm_H → Prop} {zp zn : Int} (hS : ab_Sh sx_sk h) (ok_zp : mi_in zp) (ok_zn : mi_in zn) (k0 : (∀ h1, ab_Sh sx_sk h1 → ab_Fr [] h h1 → Q none h1)) : me_E (d + 14) 183 63 [some (.inr (.inr 109)), some (.inl (zp)), some (.inl (zn))] [] h Q := ms_rr63_0 hS ok_zp ok_zn (fun h1 W => (k0) h1 W.1 (W.2.2.2.2.2 _ rfl))
set_option maxRecDepth 20000 in
theorem mp_rr86_0 (h : sm_H) (d : Nat) (zp zn : Int) : mi_path [(183, (3, 0, sb_183))] sx_sk h 0 [] (d + 14, 183, 86, [some (.inr (.inr 109)), some (.inl (zp)), some (.inl (zn))], [], [], []) = some ((d + 14, 183, 86, [some (.inr (.inr 109)), some (.inl (zp)), some (.inl (zn))], [], [], []), []) := rfl
theorem mi_tab_rr86_0 : ∀ e ∈ ([(183, (3, 0, sb_183))] : mi_T), sc_P e.1 = some e.2 := mi_tb mi_P183 (mi_tb_e)
set_option maxRecDepth 20000 in
theorem ms_rr86_0 {h : sm_H} {d : Nat} {Q : Option mi_V → sm_H → Prop} {zp zn : Int} (hS : ab_Sh sx_sk h) (ok_zp : mi_in zp) (ok_zn : mi_in zn) (kon : ∀ h1, me_W [] h h1 → Q none h1) : me_E (d + 14) 183 86 [some (.inr (.inr 109)), some (.inl (zp)), some (.inl (zn))] [] h Q := me_seg (mp_rr86_0 h d zp zn) (mi_tab_rr86_0) hS (mi_okL_c (trivial) (mi_okL_c (ok_zp) (mi_okL_c (ok_zn) (mi_okL_e)))) (mi_okS_e) (mi_al_e) (fun h1 W _ hst => me_ret (M := (3, 0, sb_183)) rfl rfl rfl hst (mi_al_e) (kon h1 W))
set_option maxRecDepth 20000 in
theorem mt_rr86 {h : sm_H} {d : Nat} {Q : Option mi_V → sm_H → Prop} {zp zn : Int} (hS : ab_Sh sx_sk h) (ok_zp : mi_in zp) (ok_zn : mi_in zn) (k0 : (∀ h1, ab_Sh sx_sk h1 → ab_Fr [] h h1 → Q none h1)) : me_E (d + 14) 183 86 [some (.inr (.inr 109)), some (.inl (zp)), some (.inl (zn))] [] h Q := ms_rr86_0 hS ok_zp ok_zn (fun h1 W => (k0) h1 W.1 (W.2.2.2.2.2 _ rfl))
set_option maxRecDepth 20000 in
theorem mp_rr151_0 (h : sm_H) (d : Nat) (zp zn : Int) : mi_path [(183, (3, 0, sb_183))] sx_sk h 0 [] (d + 14, 183, 151, [some (.inr (.inr 109)), some (.inl (zp)), some (.inl (zn))], [], [], []) = some ((d + 14, 183, 151, [some (.inr (.inr 109)), some (.inl (zp)), some (.inl (zn))], [], [], []), []) := rfl
theorem mi_tab_rr151_0 : ∀ e ∈ ([(183, (3, 0, sb_183))] : mi_T), sc_P e.1 = some e.2 := mi_tb mi_P183 (mi_tb_e)
set_option maxRecDepth 20000 in
theorem ms_rr151_0 {h : sm_H} {d : Nat} {Q : Option mi_V → sm_H → Prop} {zp zn : Int} (hS : ab_Sh sx_sk h) (ok_zp : mi_in zp) (ok_zn : mi_in zn) (kon : ∀ h1, me_W [] h h1 → Q none h1) : me_E (d + 14) 183 151 [some (.inr (.inr 109)), some (.inl (zp)), some (.inl (zn))] [] h Q := me_seg (mp_rr151_0 h d zp zn) (mi_tab_rr151_0) hS (mi_okL_c (trivial) (mi_okL_c (ok_zp) (mi_okL_c (ok_zn) (mi_okL_e)))) (mi_okS_e) (mi_al_e) (fun h1 W _ hst => me_ret (M := (3, 0, sb_183)) rfl rfl rfl hst (mi_al_e) (kon h1 W))
set_option maxRecDepth 20000 in
theorem mt_rr151 {h : sm_H} {d : Nat} {Q : Option mi_V → sm_H → Prop} {zp zn : Int} (hS : ab_Sh sx_sk h) (ok_zp : mi_in zp) (ok_zn : mi_in zn) (k0 : (∀ h1, ab_Sh sx_sk h1 → ab_Fr [] h h1 → Q none h1)) : me_E (d + 14) 183 151 [some (.inr (.inr 109)), some (.inl (zp)), some (.inl (zn))] [] h Q := ms_rr151_0 hS ok_zp ok_zn (fun h1 W => (k0) h1 W.1 (W.2.2.2.2.2 _ rfl))
set_option maxRecDepth 20000 in
theorem mp_reA_0 (h : sm_H) (d : Nat) : mi_path [(176, (3, 0, sb_176))] sx_sk h 23 [] (d + 16, 176, 0, [some (.inr (.inr 109)), none, none], [], [], []) = some ((d + 16, 176, 37, [some (.inr (.inr 109)), some (.inl ((0 : Int))), none], [], [.inl (14000, (0 : Int)), .inl (13960, (0 : Int)), .inl (13961, (0 : Int)), .inl (13962, (0 : Int)), .inl (13963, (0 : Int)), .inl (13964, (0 : Int)), .inl (13965, (0 : Int))], []), [0 ≤ ((0 : Int)) ∧ ((0 : Int)) ≤ 80, 0 ≤ ((0 : Int)) ∧ ((0 : Int)) ≤ 80, 0 ≤ ((0 : Int)) ∧ ((0 : Int)) ≤ 60, 0 ≤ ((0 : Int)) ∧ ((0 : Int)) ≤ 20, 0 ≤ ((0 : Int)) ∧ ((0 : Int)) ≤ 10, 0 ≤ ((0 : Int)) ∧ ((0 : Int)) ≤ 2147483647]) := rfl
theorem mi_tab_reA_0 : ∀ e ∈ ([(176, (3, 0, sb_176))] : mi_T), sc_P e.1 = some e.2 := mi_tb mi_P176 (mi_tb_e)
set_option maxRecDepth 20000 in
theorem ms_reA_0 {h : sm_H} {d : Nat} {Q : Option mi_V → sm_H → Prop} (hS : ab_Sh sx_sk h)  (ho : (0 ≤ ((0 : Int)) ∧ ((0 : Int)) ≤ 80) ∧ (0 ≤ ((0 : Int)) ∧ ((0 : Int)) ≤ 80) ∧ (0 ≤ ((0 : Int)) ∧ ((0 : Int)) ≤ 60) ∧ (0 ≤ ((0 : Int)) ∧ ((0 : Int)) ≤ 20) ∧ (0 ≤ ((0 : Int)) ∧ ((0 : Int)) ≤ 10) ∧ (0 ≤ ((0 : Int)) ∧ ((0 : Int)) ≤ 2147483647)) (kon : ∀ h1, me_W [.inl (14000, (0 : Int)), .inl (13960, (0 : Int)), .inl (13961, (0 : Int)), .inl (13962, (0 : Int)), .inl (13963, (0 : Int)), .inl (13964, (0 : Int)), .inl (13965, (0 : Int))] h h1 → me_E (d + 16) 176 37 [some (.inr (.inr 109)), some (.inl ((0 : Int))), none] [] h1 Q) : me_E (d + 16) 176 0 [some (.inr (.inr 109)), none, none] [] h Q := me_seg (mp_reA_0 h d ) (mi_tab_reA_0) hS (mi_okL_c (trivial) (mi_okL_n (mi_okL_n (mi_okL_e)))) (mi_okS_e) (mi_al (ho.1) (mi_al (ho.2.1) (mi_al (ho.2.2.1) (mi_al (ho.2.2.2.1) (mi_al (ho.2.2.2.2.1) (mi_al (ho.2.2.2.2.2) (mi_al_e))))))) (fun h1 W _ hst => kon h1 W)
set_option maxRecDepth 20000 in
theorem mt_reA {h : sm_H} {d : Nat} {Q : Option mi_V → sm_H → Prop} (hS : ab_Sh sx_sk h)  (k0 : (∀ h1, ab_Sh sx_sk h1 → mi_f h1 13960 = (0 : Int) → mi_f h1 13961 = (0 : Int) → mi_f h1 13962 = (0 : Int) → mi_f h1 13963 = (0 : Int) → mi_f h1 13964 = (0 : Int) → mi_f h1 13965 = (0 : Int) → mi_f h1 14000 = (0 : Int) → ab_Fr [(13960, 13966), (14000, 14001)] h h1 → me_E (d + 16) 176 37 [some (.inr (.inr 109)), some (.inl ((0 : Int))), none] [] h1 Q)) : me_E (d + 16) 176 0 [some (.inr (.inr 109)), none, none] [] h Q := ms_reA_0 hS ⟨(by decide), (by decide), (by decide), (by decide), (by decide), (by decide)⟩ (fun h1 W => (k0) h1 W.1 (W.2.1 13960) (W.2.1 13961) (W.2.1 13962) (W.2.1 13963) (W.2.1 13964) (W.2.1 13965) (W.2.1 14000) (W.2.2.2.2.2 _ rfl))
set_option maxRecDepth 20000 in
theorem mp_reB_0 (h : sm_H) (d : Nat) (zk : Int) : mi_path [(176, (3, 0, sb_176))] sx_sk h 7 [1] (d + 16, 176, 37, [some (.inr (.inr 109)), some (.inl (zk)), none], [], [], []) = some ((d + 16, 176, 60, [some (.inr (.inr 109)), some (.inl ((1 : Int))), some (.inl ((0 : Int)))], [], [], []), [((26 : Int)) ≤ zk]) := rfl
theorem mi_tab_reB_0 : ∀ e ∈ ([(176, (3, 0, sb_176))] : mi_T), sc_P e.1 = some e.2 := mi_tb mi_P176 (mi_tb_e)
set_option maxRecDepth 20000 in
theorem ms_reB_0 {h : sm_H} {d : Nat} {Q : Option mi_V → sm_H → Prop} {zk : Int} (hS : ab_Sh sx_sk h) (ok_zk : mi_in zk) (ho : (((26 : Int)) ≤ zk)) (kon : ∀ h1, me_W [] h h1 → me_E (d + 16) 176 60 [some (.inr (.inr 109)), some (.inl ((1 : Int))), some (.inl ((0 : Int)))] [] h1 Q) : me_E (d + 16) 176 37 [some (.inr (.inr 109)), some (.inl (zk)), none] [] h Q := me_seg (mp_reB_0 h d zk) (mi_tab_reB_0) hS (mi_okL_c (trivial) (mi_okL_c (ok_zk) (mi_okL_n (mi_okL_e)))) (mi_okS_e) (mi_al (ho) (mi_al_e)) (fun h1 W _ hst => kon h1 W)
set_option maxRecDepth 20000 in
theorem mp_reB_1 (h : sm_H) (d : Nat) (zk : Int) : mi_path [(176, (3, 0, sb_176))] sx_sk h 10 [0] (d + 16, 176, 37, [some (.inr (.inr 109)), some (.inl (zk)), none], [], [], []) = some ((d + 16, 176, 37, [some (.inr (.inr 109)), some (.inl (zk + 1)), none], [], [.inr (.inr (.inl (115, Int.toNat zk, (-1 : Int))))], []), [zk < ((26 : Int)), 0 ≤ zk ∧ zk < 26, (-1) ≤ ((-1 : Int)) ∧ ((-1 : Int)) ≤ 9, -2147483648 ≤ zk + 1 ∧ zk + 1 ≤ 2147483647]) := rfl
theorem mi_tab_reB_1 : ∀ e ∈ ([(176, (3, 0, sb_176))] : mi_T), sc_P e.1 = some e.2 := mi_tb mi_P176 (mi_tb_e)
set_option maxRecDepth 20000 in
theorem ms_reB_1 {h : sm_H} {d : Nat} {Q : Option mi_V → sm_H → Prop} {zk : Int} (hS : ab_Sh sx_sk h) (ok_zk : mi_in zk) (ho : (zk < ((26 : Int))) ∧ (0 ≤ zk ∧ zk < 26) ∧ ((-1) ≤ ((-1 : Int)) ∧ ((-1 : Int)) ≤ 9) ∧ (-2147483648 ≤ zk + 1 ∧ zk + 1 ≤ 2147483647)) (kon : ∀ h1, me_W [.inr (.inr (.inl (115, Int.toNat zk, (-1 : Int))))] h h1 → me_E (d + 16) 176 37 [some (.inr (.inr 109)), some (.inl (zk + 1)), none] [] h1 Q) : me_E (d + 16) 176 37 [some (.inr (.inr 109)), some (.inl (zk)), none] [] h Q := me_seg (mp_reB_1 h d zk) (mi_tab_reB_1) hS (mi_okL_c (trivial) (mi_okL_c (ok_zk) (mi_okL_n (mi_okL_e)))) (mi_okS_e) (mi_al (ho.1) (mi_al (ho.2.1) (mi_al (ho.2.2.1) (mi_al (ho.2.2.2) (mi_al_e))))) (fun h1 W _ hst => kon h1 W)
set_option maxRecDepth 20000 in
theorem mt_reB {h : sm_H} {d : Nat} {Q : Option mi_V → sm_H → Prop} {zk : Int} (hS : ab_Sh sx_sk h) (ok_zk : mi_in zk) (k0 : (((26 : Int)) ≤ zk) → (∀ h1, ab_Sh sx_sk h1 → ab_Fr [] h h1 → me_E (d + 16) 176 60 [some (.inr (.inr 109)), some (.inl ((1 : Int))), some (.inl ((0 : Int)))] [] h1 Q)) (k1 : (zk < ((26 : Int))) → ((0 ≤ zk ∧ zk < 26) ∧ (-2147483648 ≤ zk + 1 ∧ zk + 1 ≤ 2147483647)) ∧ (∀ h1, ab_Sh sx_sk h1 → (∀ i, mi_a h1 115 i = if i = Int.toNat zk then (-1 : Int) else (mi_a h 115 i)) → ab_Fr [(14720, 14721)] h h1 → me_E (d + 16) 176 37 [some (.inr (.inr 109)), some (.inl (zk + 1)), none] [] h1 Q)) : me_E (d + 16) 176 37 [some (.inr (.inr 109)), some (.inl (zk)), none] [] h Q := Or.elim (mi_em .ge (zk) (((26 : Int)))) (fun c0 => ms_reB_0 hS ok_zk (c0) (fun h1 W => (k0 c0) h1 W.1 (W.2.2.2.2.2 _ rfl))) (fun c0 => ms_reB_1 hS ok_zk ⟨c0, (k1 c0).1.1, (by decide), (k1 c0).1.2⟩ (fun h1 W => (k1 c0).2 h1 W.1 (fun i => W.2.2.1 115 i) (W.2.2.2.2.2 _ rfl)))
set_option maxRecDepth 20000 in
theorem mp_reC_0 (h : sm_H) (d : Nat) (zm zt : Int) : mi_path [(176, (3, 0, sb_176))] sx_sk h 5 [1] (d + 16, 176, 60, [some (.inr (.inr 109)), some (.inl (zm)), some (.inl (zt))], [], [], []) = some ((d + 16, 176, 117, [some (.inr (.inr 109)), some (.inl (zm)), some (.inl ((0 : Int)))], [], [], []), [((12 : Int)) ≤ zt]) := rfl
theorem mi_tab_reC_0 : ∀ e ∈ ([(176, (3, 0, sb_176))] : mi_T), sc_P e.1 = some e.2 := mi_tb mi_P176 (mi_tb_e)
set_option maxRecDepth 20000 in
theorem ms_reC_0 {h : sm_H} {d : Nat} {Q : Option mi_V → sm_H → Prop} {zm zt : Int} (hS : ab_Sh sx_sk h) (ok_zm : mi_in zm) (ok_zt : mi_in zt) (ho : (((12 : Int)) ≤ zt)) (kon : ∀ h1, me_W [] h h1 → me_E (d + 16) 176 117 [some (.inr (.inr 109)), some (.inl (zm)), some (.inl ((0 : Int)))] [] h1 Q) : me_E (d + 16) 176 60 [some (.inr (.inr 109)), some (.inl (zm)), some (.inl (zt))] [] h Q := me_seg (mp_reC_0 h d zm zt) (mi_tab_reC_0) hS (mi_okL_c (trivial) (mi_okL_c (ok_zm) (mi_okL_c (ok_zt) (mi_okL_e)))) (mi_okS_e) (mi_al (ho) (mi_al_e)) (fun h1 W _ hst => kon h1 W)
set_option maxRecDepth 20000 in
theorem mp_reC_1 (h : sm_H) (d : Nat) (zm zt : Int) : mi_path [(176, (3, 0, sb_176))] sx_sk h 7 [0, 1] (d + 16, 176, 60, [some (.inr (.inr 109)), some (.inl (zm)), some (.inl (zt))], [], [], []) = some ((d + 16, 176, 117, [some (.inr (.inr 109)), some (.inl (zm)), some (.inl ((0 : Int)))], [], [], []), [zt < ((12 : Int)), zm = ((0 : Int))]) := rfl
theorem mi_tab_reC_1 : ∀ e ∈ ([(176, (3, 0, sb_176))] : mi_T), sc_P e.1 = some e.2 := mi_tb mi_P176 (mi_tb_e)
set_option maxRecDepth 20000 in
theorem ms_reC_1 {h : sm_H} {d : Nat} {Q : Option mi_V → sm_H → Prop} {zm zt : Int} (hS : ab_Sh sx_sk h) (ok_zm : mi_in zm) (ok_zt : mi_in zt) (ho : (zt < ((12 : Int))) ∧ (zm = ((0 : Int)))) (kon : ∀ h1, me_W [] h h1 → me_E (d + 16) 176 117 [some (.inr (.inr 109)), some (.inl (zm)), some (.inl ((0 : Int)))] [] h1 Q) : me_E (d + 16) 176 60 [some (.inr (.inr 109)), some (.inl (zm)), some (.inl (zt))] [] h Q := me_seg (mp_reC_1 h d zm zt) (mi_tab_reC_1) hS (mi_okL_c (trivial) (mi_okL_c (ok_zm) (mi_okL_c (ok_zt) (mi_okL_e)))) (mi_okS_e) (mi_al (ho.1) (mi_al (ho.2) (mi_al_e))) (fun h1 W _ hst => kon h1 W)
set_option maxRecDepth 20000 in
theorem mp_reC_2 (h : sm_H) (d : Nat) (zm zt : Int) : mi_path [(176, (3, 0, sb_176))] sx_sk h 10 [0, 0, 1] (d + 16, 176, 60, [some (.inr (.inr 109)), some (.inl (zm)), some (.inl (zt))], [], [], []) = some ((d + 16, 176, 117, [some (.inr (.inr 109)), some (.inl (zm)), some (.inl ((0 : Int)))], [], [], []), [zt < ((12 : Int)), zm ≠ ((0 : Int)), (mi_f h 13960) ≠ ((0 : Int))]) := rfl
theorem mi_tab_reC_2 : ∀ e ∈ ([(176, (3, 0, sb_176))] : mi_T), sc_P e.1 = some e.2 := mi_tb mi_P176 (mi_tb_e)
set_option maxRecDepth 20000 in
theorem ms_reC_2 {h : sm_H} {d : Nat} {Q : Option mi_V → sm_H → Prop} {zm zt : Int} (hS : ab_Sh sx_sk h) (ok_zm : mi_in zm) (ok_zt : mi_in zt) (ho : (zt < ((12 : Int))) ∧ (zm ≠ ((0 : Int))) ∧ ((mi_f h 13960) ≠ ((0 : Int)))) (kon : ∀ h1, me_W [] h h1 → me_E (d + 16) 176 117 [some (.inr (.inr 109)), some (.inl (zm)), some (.inl ((0 : Int)))] [] h1 Q) : me_E (d + 16) 176 60 [some (.inr (.inr 109)), some (.inl (zm)), some (.inl (zt))] [] h Q := me_seg (mp_reC_2 h d zm zt) (mi_tab_reC_2) hS (mi_okL_c (trivial) (mi_okL_c (ok_zm) (mi_okL_c (ok_zt) (mi_okL_e)))) (mi_okS_e) (mi_al (ho.1) (mi_al (ho.2.1) (mi_al (ho.2.2) (mi_al_e)))) (fun h1 W _ hst => kon h1 W)
set_option maxRecDepth 20000 in
theorem mp_reC_3 (h : sm_H) (d : Nat) (zm zt : Int) : mi_path [(176, (3, 0, sb_176))] sx_sk h 9 [0, 0, 0] (d + 16, 176, 60, [some (.inr (.inr 109)), some (.inl (zm)), some (.inl (zt))], [], [], []) = some ((d + 16, 176, 78, [some (.inr (.inr 109)), some (.inl (zm)), some (.inl (zt))], [.inr (.inr 109)], [], []), [zt < ((12 : Int)), zm ≠ ((0 : Int)), (mi_f h 13960) = ((0 : Int))]) := rfl
theorem mi_tab_reC_3 : ∀ e ∈ ([(176, (3, 0, sb_176))] : mi_T), sc_P e.1 = some e.2 := mi_tb mi_P176 (mi_tb_e)
set_option maxRecDepth 20000 in
theorem ms_reC_3 {h : sm_H} {d : Nat} {Q : Option mi_V → sm_H → Prop} {zm zt : Int} (hS : ab_Sh sx_sk h) (ok_zm : mi_in zm) (ok_zt : mi_in zt) (ho : (zt < ((12 : Int))) ∧ (zm ≠ ((0 : Int))) ∧ ((mi_f h 13960) = ((0 : Int)))) (kon : ∀ h1, me_W [] h h1 → ∃ Q1, me_E (d + 15) 177 0 (mi_entry 4 [.inr (.inr 109)]) [] h1 Q1 ∧ ∀ w h2, (∀ x, w = some x → mi_ok x) → Q1 w h2 → me_E (d + 16) 176 81 [some (.inr (.inr 109)), some (.inl (zm)), some (.inl (zt))] (mi_back w []) h2 Q) : me_E (d + 16) 176 60 [some (.inr (.inr 109)), some (.inl (zm)), some (.inl (zt))] [] h Q := me_seg (mp_reC_3 h d zm zt) (mi_tab_reC_3) hS (mi_okL_c (trivial) (mi_okL_c (ok_zm) (mi_okL_c (ok_zt) (mi_okL_e)))) (mi_okS_e) (mi_al (ho.1) (mi_al (ho.2.1) (mi_al (ho.2.2) (mi_al_e)))) (fun h1 W _ hst => let ⟨_, k1, k2⟩ := kon h1 W; me_call (M := (3, 0, sb_176)) (M' := (4, 0, sb_177)) rfl rfl rfl rfl (Nat.le_of_ble_eq_true rfl) (Nat.le_of_ble_eq_true rfl) W.1 k1 k2)
set_option maxRecDepth 20000 in
theorem mt_reC {h : sm_H} {d : Nat} {Q : Option mi_V → sm_H → Prop} {zm zt : Int} (hS : ab_Sh sx_sk h) (ok_zm : mi_in zm) (ok_zt : mi_in zt) (k0 : (((12 : Int)) ≤ zt) → (∀ h1, ab_Sh sx_sk h1 → ab_Fr [] h h1 → me_E (d + 16) 176 117 [some (.inr (.inr 109)), some (.inl (zm)), some (.inl ((0 : Int)))] [] h1 Q)) (k1 : (zt < ((12 : Int))) → (zm = ((0 : Int))) → (∀ h1, ab_Sh sx_sk h1 → ab_Fr [] h h1 → me_E (d + 16) 176 117 [some (.inr (.inr 109)), some (.inl (zm)), some (.inl ((0 : Int)))] [] h1 Q)) (k2 : ((-2147483648) ≤ mi_f h 13960 ∧ mi_f h 13960 ≤ 2147483647) → (zt < ((12 : Int))) → (zm ≠ ((0 : Int))) → ((mi_f h 13960) ≠ ((0 : Int))) → (∀ h1, ab_Sh sx_sk h1 → ab_Fr [] h h1 → me_E (d + 16) 176 117 [some (.inr (.inr 109)), some (.inl (zm)), some (.inl ((0 : Int)))] [] h1 Q)) (k3 : ((-2147483648) ≤ mi_f h 13960 ∧ mi_f h 13960 ≤ 2147483647) → (zt < ((12 : Int))) → (zm ≠ ((0 : Int))) → ((mi_f h 13960) = ((0 : Int))) → (∀ h1, ab_Sh sx_sk h1 → ab_Fr [] h h1 → ∃ Q1, me_E (d + 15) 177 0 (mi_entry 4 [.inr (.inr 109)]) [] h1 Q1 ∧ ∀ w h2, (∀ x, w = some x → mi_ok x) → Q1 w h2 → me_E (d + 16) 176 81 [some (.inr (.inr 109)), some (.inl (zm)), some (.inl (zt))] (mi_back w []) h2 Q)) : me_E (d + 16) 176 60 [some (.inr (.inr 109)), some (.inl (zm)), some (.inl (zt))] [] h Q := Or.elim (mi_em .ge (zt) (((12 : Int)))) (fun c0 => ms_reC_0 hS ok_zm ok_zt (c0) (fun h1 W => (k0 c0) h1 W.1 (W.2.2.2.2.2 _ rfl))) (fun c0 => Or.elim (mi_em .eq (zm) (((0 : Int)))) (fun c1 => ms_reC_1 hS ok_zm ok_zt ⟨c0, c1⟩ (fun h1 W => (k1 c0 c1) h1 W.1 (W.2.2.2.2.2 _ rfl))) (fun c1 => Or.elim (mi_em .ne ((mi_f h 13960)) (((0 : Int)))) (fun c2 => ms_reC_2 hS ok_zm ok_zt ⟨c0, c1, c2⟩ (fun h1 W => (k2 (me_fb hS rfl) c0 c1 c2) h1 W.1 (W.2.2.2.2.2 _ rfl))) (fun c2 => ms_reC_3 hS ok_zm ok_zt ⟨c0, c1, c2⟩ (fun h1 W => (k3 (me_fb hS rfl) c0 c1 c2) h1 W.1 (W.2.2.2.2.2 _ rfl)))))
set_option maxRecDepth 20000 in
theorem mp_reD_0 (h : sm_H) (d : Nat) (zm zt : Int) : mi_path [(176, (3, 0, sb_176))] sx_sk h 9 [1, 0] (d + 16, 176, 81, [some (.inr (.inr 109)), some (.inl (zm)), some (.inl (zt))], [], [], []) = some ((d + 16, 176, 106, [some (.inr (.inr 109)), some (.inl ((1 : Int))), some (.inl (zt))], [.inr (.inr 109)], [], []), [(mi_f h 14001) ≠ ((0 : Int)), ((1 : Int)) ≠ ((0 : Int))]) := rfl
theorem mi_tab_reD_0 : ∀ e ∈ ([(176, (3, 0, sb_176))] : mi_T), sc_P e.1 = some e.2 := mi_tb mi_P176 (mi_tb_e)
set_option maxRecDepth 20000 in
theorem ms_reD_0 {h : sm_H} {d : Nat} {Q : Option mi_V → sm_H → Prop} {zm zt : Int} (hS : ab_Sh sx_sk h) (ok_zm : mi_in zm) (ok_zt : mi_in zt) (ho : ((mi_f h 14001) ≠ ((0 : Int))) ∧ (((1 : Int)) ≠ ((0 : Int)))) (kon : ∀ h1, me_W [] h h1 → ∃ Q1, me_E (d + 15) 183 0 (mi_entry 3 [.inr (.inr 109)]) [] h1 Q1 ∧ ∀ w h2, (∀ x, w = some x → mi_ok x) → Q1 w h2 → me_E (d + 16) 176 109 [some (.inr (.inr 109)), some (.inl ((1 : Int))), some (.inl (zt))] (mi_back w []) h2 Q) : me_E (d + 16) 176 81 [some (.inr (.inr 109)), some (.inl (zm)), some (.inl (zt))] [] h Q := me_seg (mp_reD_0 h d zm zt) (mi_tab_reD_0) hS (mi_okL_c (trivial) (mi_okL_c (ok_zm) (mi_okL_c (ok_zt) (mi_okL_e)))) (mi_okS_e) (mi_al (ho.1) (mi_al (ho.2) (mi_al_e))) (fun h1 W _ hst => let ⟨_, k1, k2⟩ := kon h1 W; me_call (M := (3, 0, sb_176)) (M' := (3, 0, sb_183)) rfl rfl rfl rfl (Nat.le_of_ble_eq_true rfl) (Nat.le_of_ble_eq_true rfl) W.1 k1 k2)
set_option maxRecDepth 20000 in
theorem mp_reD_1 (h : sm_H) (d : Nat) (zm zt : Int) : mi_path [(176, (3, 0, sb_176))] sx_sk h 12 [0, 1, 1] (d + 16, 176, 81, [some (.inr (.inr 109)), some (.inl (zm)), some (.inl (zt))], [], [], []) = some ((d + 16, 176, 60, [some (.inr (.inr 109)), some (.inl ((0 : Int))), some (.inl (zt + 1))], [], [], []), [(mi_f h 14001) = ((0 : Int)), (mi_f h 13961) ≠ ((0 : Int)), ((0 : Int)) = ((0 : Int)), -2147483648 ≤ zt + 1 ∧ zt + 1 ≤ 2147483647]) := rfl
theorem mi_tab_reD_1 : ∀ e ∈ ([(176, (3, 0, sb_176))] : mi_T), sc_P e.1 = some e.2 := mi_tb mi_P176 (mi_tb_e)
set_option maxRecDepth 20000 in
theorem ms_reD_1 {h : sm_H} {d : Nat} {Q : Option mi_V → sm_H → Prop} {zm zt : Int} (hS : ab_Sh sx_sk h) (ok_zm : mi_in zm) (ok_zt : mi_in zt) (ho : ((mi_f h 14001) = ((0 : Int))) ∧ ((mi_f h 13961) ≠ ((0 : Int))) ∧ (((0 : Int)) = ((0 : Int))) ∧ (-2147483648 ≤ zt + 1 ∧ zt + 1 ≤ 2147483647)) (kon : ∀ h1, me_W [] h h1 → me_E (d + 16) 176 60 [some (.inr (.inr 109)), some (.inl ((0 : Int))), some (.inl (zt + 1))] [] h1 Q) : me_E (d + 16) 176 81 [some (.inr (.inr 109)), some (.inl (zm)), some (.inl (zt))] [] h Q := me_seg (mp_reD_1 h d zm zt) (mi_tab_reD_1) hS (mi_okL_c (trivial) (mi_okL_c (ok_zm) (mi_okL_c (ok_zt) (mi_okL_e)))) (mi_okS_e) (mi_al (ho.1) (mi_al (ho.2.1) (mi_al (ho.2.2.1) (mi_al (ho.2.2.2) (mi_al_e))))) (fun h1 W _ hst => kon h1 W)
set_option maxRecDepth 20000 in
theorem mp_reD_2 (h : sm_H) (d : Nat) (zm zt : Int) : mi_path [(176, (3, 0, sb_176))] sx_sk h 12 [0, 0, 0] (d + 16, 176, 81, [some (.inr (.inr 109)), some (.inl (zm)), some (.inl (zt))], [], [], []) = some ((d + 16, 176, 106, [some (.inr (.inr 109)), some (.inl ((1 : Int))), some (.inl (zt))], [.inr (.inr 109)], [], []), [(mi_f h 14001) = ((0 : Int)), (mi_f h 13961) = ((0 : Int)), ((1 : Int)) ≠ ((0 : Int))]) := rfl
theorem mi_tab_reD_2 : ∀ e ∈ ([(176, (3, 0, sb_176))] : mi_T), sc_P e.1 = some e.2 := mi_tb mi_P176 (mi_tb_e)
set_option maxRecDepth 20000 in
theorem ms_reD_2 {h : sm_H} {d : Nat} {Q : Option mi_V → sm_H → Prop} {zm zt : Int} (hS : ab_Sh sx_sk h) (ok_zm : mi_in zm) (ok_zt : mi_in zt) (ho : ((mi_f h 14001) = ((0 : Int))) ∧ ((mi_f h 13961) = ((0 : Int))) ∧ (((1 : Int)) ≠ ((0 : Int)))) (kon : ∀ h1, me_W [] h h1 → ∃ Q1, me_E (d + 15) 183 0 (mi_entry 3 [.inr (.inr 109)]) [] h1 Q1 ∧ ∀ w h2, (∀ x, w = some x → mi_ok x) → Q1 w h2 → me_E (d + 16) 176 109 [some (.inr (.inr 109)), some (.inl ((1 : Int))), some (.inl (zt))] (mi_back w []) h2 Q) : me_E (d + 16) 176 81 [some (.inr (.inr 109)), some (.inl (zm)), some (.inl (zt))] [] h Q := me_seg (mp_reD_2 h d zm zt) (mi_tab_reD_2) hS (mi_okL_c (trivial) (mi_okL_c (ok_zm) (mi_okL_c (ok_zt) (mi_okL_e)))) (mi_okS_e) (mi_al (ho.1) (mi_al (ho.2.1) (mi_al (ho.2.2) (mi_al_e)))) (fun h1 W _ hst => let ⟨_, k1, k2⟩ := kon h1 W; me_call (M := (3, 0, sb_176)) (M' := (3, 0, sb_183)) rfl rfl rfl rfl (Nat.le_of_ble_eq_true rfl) (Nat.le_of_ble_eq_true rfl) W.1 k1 k2)
set_option maxRecDepth 20000 in
theorem mt_reD {h : sm_H} {d : Nat} {Q : Option mi_V → sm_H → Prop} {zm zt : Int} (hS : ab_Sh sx_sk h) (ok_zm : mi_in zm) (ok_zt : mi_in zt) (k0 : ((-2147483648) ≤ mi_f h 14001 ∧ mi_f h 14001 ≤ 2147483647) → ((mi_f h 14001) ≠ ((0 : Int))) → (∀ h1, ab_Sh sx_sk h1 → ab_Fr [] h h1 → ∃ Q1, me_E (d + 15) 183 0 (mi_entry 3 [.inr (.inr 109)]) [] h1 Q1 ∧ ∀ w h2, (∀ x, w = some x → mi_ok x) → Q1 w h2 → me_E (d + 16) 176 109 [some (.inr (.inr 109)), some (.inl ((1 : Int))), some (.inl (zt))] (mi_back w []) h2 Q)) (k1 : ((-2147483648) ≤ mi_f h 14001 ∧ mi_f h 14001 ≤ 2147483647) → (0 ≤ mi_f h 13961 ∧ mi_f h 13961 ≤ 10) → ((mi_f h 14001) = ((0 : Int))) → ((mi_f h 13961) ≠ ((0 : Int))) → ((-2147483648 ≤ zt + 1 ∧ zt + 1 ≤ 2147483647)) ∧ (∀ h1, ab_Sh sx_sk h1 → ab_Fr [] h h1 → me_E (d + 16) 176 60 [some (.inr (.inr 109)), some (.inl ((0 : Int))), some (.inl (zt + 1))] [] h1 Q)) (k2 : ((-2147483648) ≤ mi_f h 14001 ∧ mi_f h 14001 ≤ 2147483647) → (0 ≤ mi_f h 13961 ∧ mi_f h 13961 ≤ 10) → ((mi_f h 14001) = ((0 : Int))) → ((mi_f h 13961) = ((0 : Int))) → (∀ h1, ab_Sh sx_sk h1 → ab_Fr [] h h1 → ∃ Q1, me_E (d + 15) 183 0 (mi_entry 3 [.inr (.inr 109)]) [] h1 Q1 ∧ ∀ w h2, (∀ x, w = some x → mi_ok x) → Q1 w h2 → me_E (d + 16) 176 109 [some (.inr (.inr 109)), some (.inl ((1 : Int))), some (.inl (zt))] (mi_back w []) h2 Q)) : me_E (d + 16) 176 81 [some (.inr (.inr 109)), some (.inl (zm)), some (.inl (zt))] [] h Q := Or.elim (mi_em .ne ((mi_f h 14001)) (((0 : Int)))) (fun c0 => ms_reD_0 hS ok_zm ok_zt ⟨c0, (by decide)⟩ (fun h1 W => (k0 (me_fb hS rfl) c0) h1 W.1 (W.2.2.2.2.2 _ rfl))) (fun c0 => Or.elim (mi_em .ne ((mi_f h 13961)) (((0 : Int)))) (fun c1 => ms_reD_1 hS ok_zm ok_zt ⟨c0, c1, (by decide), (k1 (me_fb hS rfl) (me_fb hS rfl) c0 c1).1⟩ (fun h1 W => (k1 (me_fb hS rfl) (me_fb hS rfl) c0 c1).2 h1 W.1 (W.2.2.2.2.2 _ rfl))) (fun c1 => ms_reD_2 hS ok_zm ok_zt ⟨c0, c1, (by decide)⟩ (fun h1 W => (k2 (me_fb hS rfl) (me_fb hS rfl) c0 c1) h1 W.1 (W.2.2.2.2.2 _ rfl))))
set_option maxRecDepth 20000 in
theorem mp_reE_0 (h : sm_H) (d : Nat) (zm zt : Int) : mi_path [(176, (3, 0, sb_176))] sx_sk h 2 [] (d + 16, 176, 109, [some (.inr (.inr 109)), some (.inl (zm)), some (.inl (zt))], [], [], []) = some ((d + 16, 176, 60, [some (.inr (.inr 109)), some (.inl (zm)), some (.inl (zt + 1))], [], [], []), [-2147483648 ≤ zt + 1 ∧ zt + 1 ≤ 2147483647]) := rfl
theorem mi_tab_reE_0 : ∀ e ∈ ([(176, (3, 0, sb_176))] : mi_T), sc_P e.1 = some e.2 := mi_tb mi_P176 (mi_tb_e)
set_option maxRecDepth 20000 in
theorem ms_reE_0 {h : sm_H} {d : Nat} {Q : Option mi_V → sm_H → Prop} {zm zt : Int} (hS : ab_Sh sx_sk h) (ok_zm : mi_in zm) (ok_zt : mi_in zt) (ho : (-2147483648 ≤ zt + 1 ∧ zt + 1 ≤ 2147483647)) (kon : ∀ h1, me_W [] h h1 → me_E (d + 16) 176 60 [some (.inr (.inr 109)), some (.inl (zm)), some (.inl (zt + 1))] [] h1 Q) : me_E (d + 16) 176 109 [some (.inr (.inr 109)), some (.inl (zm)), some (.inl (zt))] [] h Q := me_seg (mp_reE_0 h d zm zt) (mi_tab_reE_0) hS (mi_okL_c (trivial) (mi_okL_c (ok_zm) (mi_okL_c (ok_zt) (mi_okL_e)))) (mi_okS_e) (mi_al (ho) (mi_al_e)) (fun h1 W _ hst => kon h1 W)
set_option maxRecDepth 20000 in
theorem mt_reE {h : sm_H} {d : Nat} {Q : Option mi_V → sm_H → Prop} {zm zt : Int} (hS : ab_Sh sx_sk h) (ok_zm : mi_in zm) (ok_zt : mi_in zt) (k0 : ((-2147483648 ≤ zt + 1 ∧ zt + 1 ≤ 2147483647)) ∧ (∀ h1, ab_Sh sx_sk h1 → ab_Fr [] h h1 → me_E (d + 16) 176 60 [some (.inr (.inr 109)), some (.inl (zm)), some (.inl (zt + 1))] [] h1 Q)) : me_E (d + 16) 176 109 [some (.inr (.inr 109)), some (.inl (zm)), some (.inl (zt))] [] h Q := ms_reE_0 hS ok_zm ok_zt ((k0).1) (fun h1 W => (k0).2 h1 W.1 (W.2.2.2.2.2 _ rfl))
set_option maxRecDepth 20000 in
theorem mp_reF_0 (h : sm_H) (d : Nat) (zm zt : Int) : mi_path [(176, (3, 0, sb_176))] sx_sk h 4 [1] (d + 16, 176, 117, [some (.inr (.inr 109)), some (.inl (zm)), some (.inl (zt))], [], [], []) = some ((d + 16, 176, 174, [some (.inr (.inr 109)), some (.inl (zm)), some (.inl (zt))], [], [], []), [(mi_f h 13963) ≤ zt]) := rfl
theorem mi_tab_reF_0 : ∀ e ∈ ([(176, (3, 0, sb_176))] : mi_T), sc_P e.1 = some e.2 := mi_tb mi_P176 (mi_tb_e)
set_option maxRecDepth 20000 in
theorem ms_reF_0 {h : sm_H} {d : Nat} {Q : Option mi_V → sm_H → Prop} {zm zt : Int} (hS : ab_Sh sx_sk h) (ok_zm : mi_in zm) (ok_zt : mi_in zt) (ho : ((mi_f h 13963) ≤ zt)) (kon : ∀ h1, me_W [] h h1 → Q none h1) : me_E (d + 16) 176 117 [some (.inr (.inr 109)), some (.inl (zm)), some (.inl (zt))] [] h Q := me_seg (mp_reF_0 h d zm zt) (mi_tab_reF_0) hS (mi_okL_c (trivial) (mi_okL_c (ok_zm) (mi_okL_c (ok_zt) (mi_okL_e)))) (mi_okS_e) (mi_al (ho) (mi_al_e)) (fun h1 W _ hst => me_ret (M := (3, 0, sb_176)) rfl rfl rfl hst (mi_al_e) (kon h1 W))
set_option maxRecDepth 20000 in
theorem mp_reF_1 (h : sm_H) (d : Nat) (zm zt : Int) : mi_path [(176, (3, 0, sb_176))] sx_sk h 7 [0, 1] (d + 16, 176, 117, [some (.inr (.inr 109)), some (.inl (zm)), some (.inl (zt))], [], [], []) = some ((d + 16, 176, 174, [some (.inr (.inr 109)), some (.inl (zm)), some (.inl (zt))], [], [], []), [zt < (mi_f h 13963), (mi_f h 13960) ≠ ((0 : Int))]) := rfl
theorem mi_tab_reF_1 : ∀ e ∈ ([(176, (3, 0, sb_176))] : mi_T), sc_P e.1 = some e.2 := mi_tb mi_P176 (mi_tb_e)
set_option maxRecDepth 20000 in
theorem ms_reF_1 {h : sm_H} {d : Nat} {Q : Option mi_V → sm_H → Prop} {zm zt : Int} (hS : ab_Sh sx_sk h) (ok_zm : mi_in zm) (ok_zt : mi_in zt) (ho : (zt < (mi_f h 13963)) ∧ ((mi_f h 13960) ≠ ((0 : Int)))) (kon : ∀ h1, me_W [] h h1 → Q none h1) : me_E (d + 16) 176 117 [some (.inr (.inr 109)), some (.inl (zm)), some (.inl (zt))] [] h Q := me_seg (mp_reF_1 h d zm zt) (mi_tab_reF_1) hS (mi_okL_c (trivial) (mi_okL_c (ok_zm) (mi_okL_c (ok_zt) (mi_okL_e)))) (mi_okS_e) (mi_al (ho.1) (mi_al (ho.2) (mi_al_e))) (fun h1 W _ hst => me_ret (M := (3, 0, sb_176)) rfl rfl rfl hst (mi_al_e) (kon h1 W))
set_option maxRecDepth 20000 in
theorem mp_reF_2 (h : sm_H) (d : Nat) (zm zt : Int) : mi_path [(176, (3, 0, sb_176))] sx_sk h 15 [0, 0, 1] (d + 16, 176, 117, [some (.inr (.inr 109)), some (.inl (zm)), some (.inl (zt))], [], [], []) = some ((d + 16, 176, 117, [some (.inr (.inr 109)), some (.inl (zm)), some (.inl (zt + 1))], [], [], []), [zt < (mi_f h 13963), (mi_f h 13960) = ((0 : Int)), 0 ≤ zt ∧ zt < 60, (mi_a h 119 (Int.toNat zt)) ≠ ((9 : Int)), -2147483648 ≤ zt + 1 ∧ zt + 1 ≤ 2147483647]) := rfl
theorem mi_tab_reF_2 : ∀ e ∈ ([(176, (3, 0, sb_176))] : mi_T), sc_P e.1 = some e.2 := mi_tb mi_P176 (mi_tb_e)
set_option maxRecDepth 20000 in
theorem ms_reF_2 {h : sm_H} {d : Nat} {Q : Option mi_V → sm_H → Prop} {zm zt : Int} (hS : ab_Sh sx_sk h) (ok_zm : mi_in zm) (ok_zt : mi_in zt) (ho : (zt < (mi_f h 13963)) ∧ ((mi_f h 13960) = ((0 : Int))) ∧ (0 ≤ zt ∧ zt < 60) ∧ ((mi_a h 119 (Int.toNat zt)) ≠ ((9 : Int))) ∧ (-2147483648 ≤ zt + 1 ∧ zt + 1 ≤ 2147483647)) (kon : ∀ h1, me_W [] h h1 → me_E (d + 16) 176 117 [some (.inr (.inr 109)), some (.inl (zm)), some (.inl (zt + 1))] [] h1 Q) : me_E (d + 16) 176 117 [some (.inr (.inr 109)), some (.inl (zm)), some (.inl (zt))] [] h Q := me_seg (mp_reF_2 h d zm zt) (mi_tab_reF_2) hS (mi_okL_c (trivial) (mi_okL_c (ok_zm) (mi_okL_c (ok_zt) (mi_okL_e)))) (mi_okS_e) (mi_al (ho.1) (mi_al (ho.2.1) (mi_al (ho.2.2.1) (mi_al (ho.2.2.2.1) (mi_al (ho.2.2.2.2) (mi_al_e)))))) (fun h1 W _ hst => kon h1 W)
set_option maxRecDepth 20000 in
theorem mp_reF_3 (h : sm_H) (d : Nat) (zm zt : Int) : mi_path [(176, (3, 0, sb_176))] sx_sk h 23 [0, 0, 0, 1] (d + 16, 176, 117, [some (.inr (.inr 109)), some (.inl (zm)), some (.inl (zt))], [], [], []) = some ((d + 16, 176, 117, [some (.inr (.inr 109)), some (.inl (zm)), some (.inl (zt + 1))], [], [], []), [zt < (mi_f h 13963), (mi_f h 13960) = ((0 : Int)), 0 ≤ zt ∧ zt < 60, (mi_a h 119 (Int.toNat zt)) = ((9 : Int)), 0 ≤ zt ∧ zt < 60, 0 ≤ (mi_a h 120 (Int.toNat zt)) ∧ (mi_a h 120 (Int.toNat zt)) < 26, ((0 : Int)) ≤ (mi_a h 115 (Int.toNat (mi_a h 120 (Int.toNat zt)))), -2147483648 ≤ zt + 1 ∧ zt + 1 ≤ 2147483647]) := rfl
theorem mi_tab_reF_3 : ∀ e ∈ ([(176, (3, 0, sb_176))] : mi_T), sc_P e.1 = some e.2 := mi_tb mi_P176 (mi_tb_e)
set_option maxRecDepth 20000 in
theorem ms_reF_3 {h : sm_H} {d : Nat} {Q : Option mi_V → sm_H → Prop} {zm zt : Int} (hS : ab_Sh sx_sk h) (ok_zm : mi_in zm) (ok_zt : mi_in zt) (ho : (zt < (mi_f h 13963)) ∧ ((mi_f h 13960) = ((0 : Int))) ∧ (0 ≤ zt ∧ zt < 60) ∧ ((mi_a h 119 (Int.toNat zt)) = ((9 : Int))) ∧ (0 ≤ zt ∧ zt < 60) ∧ (0 ≤ (mi_a h 120 (Int.toNat zt)) ∧ (mi_a h 120 (Int.toNat zt)) < 26) ∧ (((0 : Int)) ≤ (mi_a h 115 (Int.toNat (mi_a h 120 (Int.toNat zt))))) ∧ (-2147483648 ≤ zt + 1 ∧ zt + 1 ≤ 2147483647)) (kon : ∀ h1, me_W [] h h1 → me_E (d + 16) 176 117 [some (.inr (.inr 109)), some (.inl (zm)), some (.inl (zt + 1))] [] h1 Q) : me_E (d + 16) 176 117 [some (.inr (.inr 109)), some (.inl (zm)), some (.inl (zt))] [] h Q := me_seg (mp_reF_3 h d zm zt) (mi_tab_reF_3) hS (mi_okL_c (trivial) (mi_okL_c (ok_zm) (mi_okL_c (ok_zt) (mi_okL_e)))) (mi_okS_e) (mi_al (ho.1) (mi_al (ho.2.1) (mi_al (ho.2.2.1) (mi_al (ho.2.2.2.1) (mi_al (ho.2.2.2.2.1) (mi_al (ho.2.2.2.2.2.1) (mi_al (ho.2.2.2.2.2.2.1) (mi_al (ho.2.2.2.2.2.2.2) (mi_al_e))))))))) (fun h1 W _ hst => kon h1 W)
set_option maxRecDepth 20000 in
theorem mp_reF_4 (h : sm_H) (d : Nat) (zm zt : Int) : mi_path [(176, (3, 0, sb_176))] sx_sk h 27 [0, 0, 0, 0] (d + 16, 176, 117, [some (.inr (.inr 109)), some (.inl (zm)), some (.inl (zt))], [], [], []) = some ((d + 16, 176, 165, [some (.inr (.inr 109)), some (.inl (zm)), some (.inl (zt))], [.inl (mi_a h 121 (Int.toNat zt)), .inl ((4 : Int)), .inr (.inr 109)], [], []), [zt < (mi_f h 13963), (mi_f h 13960) = ((0 : Int)), 0 ≤ zt ∧ zt < 60, (mi_a h 119 (Int.toNat zt)) = ((9 : Int)), 0 ≤ zt ∧ zt < 60, 0 ≤ (mi_a h 120 (Int.toNat zt)) ∧ (mi_a h 120 (Int.toNat zt)) < 26, (mi_a h 115 (Int.toNat (mi_a h 120 (Int.toNat zt)))) < ((0 : Int)), 0 ≤ zt ∧ zt < 60]) := rfl
theorem mi_tab_reF_4 : ∀ e ∈ ([(176, (3, 0, sb_176))] : mi_T), sc_P e.1 = some e.2 := mi_tb mi_P176 (mi_tb_e)
set_option maxRecDepth 20000 in
theorem ms_reF_4 {h : sm_H} {d : Nat} {Q : Option mi_V → sm_H → Prop} {zm zt : Int} (hS : ab_Sh sx_sk h) (ok_zm : mi_in zm) (ok_zt : mi_in zt) (ho : (zt < (mi_f h 13963)) ∧ ((mi_f h 13960) = ((0 : Int))) ∧ (0 ≤ zt ∧ zt < 60) ∧ ((mi_a h 119 (Int.toNat zt)) = ((9 : Int))) ∧ (0 ≤ zt ∧ zt < 60) ∧ (0 ≤ (mi_a h 120 (Int.toNat zt)) ∧ (mi_a h 120 (Int.toNat zt)) < 26) ∧ ((mi_a h 115 (Int.toNat (mi_a h 120 (Int.toNat zt)))) < ((0 : Int))) ∧ (0 ≤ zt ∧ zt < 60)) (kon : ∀ h1, me_W [] h h1 → ∃ Q1, me_E (d + 15) 184 0 (mi_entry 3 [.inr (.inr 109), .inl ((4 : Int)), .inl (mi_a h 121 (Int.toNat zt))]) [] h1 Q1 ∧ ∀ w h2, (∀ x, w = some x → mi_ok x) → Q1 w h2 → me_E (d + 16) 176 168 [some (.inr (.inr 109)), some (.inl (zm)), some (.inl (zt))] (mi_back w []) h2 Q) : me_E (d + 16) 176 117 [some (.inr (.inr 109)), some (.inl (zm)), some (.inl (zt))] [] h Q := me_seg (mp_reF_4 h d zm zt) (mi_tab_reF_4) hS (mi_okL_c (trivial) (mi_okL_c (ok_zm) (mi_okL_c (ok_zt) (mi_okL_e)))) (mi_okS_e) (mi_al (ho.1) (mi_al (ho.2.1) (mi_al (ho.2.2.1) (mi_al (ho.2.2.2.1) (mi_al (ho.2.2.2.2.1) (mi_al (ho.2.2.2.2.2.1) (mi_al (ho.2.2.2.2.2.2.1) (mi_al (ho.2.2.2.2.2.2.2) (mi_al_e))))))))) (fun h1 W _ hst => let ⟨_, k1, k2⟩ := kon h1 W; me_call (M := (3, 0, sb_176)) (M' := (3, 0, sb_184)) rfl rfl rfl rfl (Nat.le_of_ble_eq_true rfl) (Nat.le_of_ble_eq_true rfl) W.1 k1 k2)
set_option maxRecDepth 20000 in
theorem mt_reF {h : sm_H} {d : Nat} {Q : Option mi_V → sm_H → Prop} {zm zt : Int} (hS : ab_Sh sx_sk h) (ok_zm : mi_in zm) (ok_zt : mi_in zt) (k0 : (0 ≤ mi_f h 13963 ∧ mi_f h 13963 ≤ 60) → ((mi_f h 13963) ≤ zt) → (∀ h1, ab_Sh sx_sk h1 → ab_Fr [] h h1 → Q none h1)) (k1 : (0 ≤ mi_f h 13963 ∧ mi_f h 13963 ≤ 60) → ((-2147483648) ≤ mi_f h 13960 ∧ mi_f h 13960 ≤ 2147483647) → (zt < (mi_f h 13963)) → ((mi_f h 13960) ≠ ((0 : Int))) → (∀ h1, ab_Sh sx_sk h1 → ab_Fr [] h h1 → Q none h1)) (k2 : (0 ≤ mi_f h 13963 ∧ mi_f h 13963 ≤ 60) → ((-2147483648) ≤ mi_f h 13960 ∧ mi_f h 13960 ≤ 2147483647) → (zt < (mi_f h 13963)) → ((mi_f h 13960) = ((0 : Int))) → ((mi_a h 119 (Int.toNat zt)) ≠ ((9 : Int))) → ((0 ≤ zt ∧ zt < 60) ∧ (-2147483648 ≤ zt + 1 ∧ zt + 1 ≤ 2147483647)) ∧ (∀ h1, ab_Sh sx_sk h1 → ab_Fr [] h h1 → me_E (d + 16) 176 117 [some (.inr (.inr 109)), some (.inl (zm)), some (.inl (zt + 1))] [] h1 Q)) (k3 : (0 ≤ mi_f h 13963 ∧ mi_f h 13963 ≤ 60) → ((-2147483648) ≤ mi_f h 13960 ∧ mi_f h 13960 ≤ 2147483647) → (zt < (mi_f h 13963)) → ((mi_f h 13960) = ((0 : Int))) → ((mi_a h 119 (Int.toNat zt)) = ((9 : Int))) → (((0 : Int)) ≤ (mi_a h 115 (Int.toNat (mi_a h 120 (Int.toNat zt))))) → ((0 ≤ zt ∧ zt < 60) ∧ (0 ≤ (mi_a h 120 (Int.toNat zt)) ∧ (mi_a h 120 (Int.toNat zt)) < 26) ∧ (-2147483648 ≤ zt + 1 ∧ zt + 1 ≤ 2147483647)) ∧ (∀ h1, ab_Sh sx_sk h1 → ab_Fr [] h h1 → me_E (d + 16) 176 117 [some (.inr (.inr 109)), some (.inl (zm)), some (.inl (zt + 1))] [] h1 Q)) (k4 : (0 ≤ mi_f h 13963 ∧ mi_f h 13963 ≤ 60) → ((-2147483648) ≤ mi_f h 13960 ∧ mi_f h 13960 ≤ 2147483647) → (zt < (mi_f h 13963)) → ((mi_f h 13960) = ((0 : Int))) → ((mi_a h 119 (Int.toNat zt)) = ((9 : Int))) → ((mi_a h 115 (Int.toNat (mi_a h 120 (Int.toNat zt)))) < ((0 : Int))) → ((0 ≤ zt ∧ zt < 60) ∧ (0 ≤ (mi_a h 120 (Int.toNat zt)) ∧ (mi_a h 120 (Int.toNat zt)) < 26)) ∧ (∀ h1, ab_Sh sx_sk h1 → ab_Fr [] h h1 → ∃ Q1, me_E (d + 15) 184 0 (mi_entry 3 [.inr (.inr 109), .inl ((4 : Int)), .inl (mi_a h 121 (Int.toNat zt))]) [] h1 Q1 ∧ ∀ w h2, (∀ x, w = some x → mi_ok x) → Q1 w h2 → me_E (d + 16) 176 168 [some (.inr (.inr 109)), some (.inl (zm)), some (.inl (zt))] (mi_back w []) h2 Q)) : me_E (d + 16) 176 117 [some (.inr (.inr 109)), some (.inl (zm)), some (.inl (zt))] [] h Q := Or.elim (mi_em .ge (zt) ((mi_f h 13963))) (fun c0 => ms_reF_0 hS ok_zm ok_zt (c0) (fun h1 W => (k0 (me_fb hS rfl) c0) h1 W.1 (W.2.2.2.2.2 _ rfl))) (fun c0 => Or.elim (mi_em .ne ((mi_f h 13960)) (((0 : Int)))) (fun c1 => ms_reF_1 hS ok_zm ok_zt ⟨c0, c1⟩ (fun h1 W => (k1 (me_fb hS rfl) (me_fb hS rfl) c0 c1) h1 W.1 (W.2.2.2.2.2 _ rfl))) (fun c1 => Or.elim (mi_em .ne ((mi_a h 119 (Int.toNat zt))) (((9 : Int)))) (fun c2 => ms_reF_2 hS ok_zm ok_zt ⟨c0, c1, (k2 (me_fb hS rfl) (me_fb hS rfl) c0 c1 c2).1.1, c2, (k2 (me_fb hS rfl) (me_fb hS rfl) c0 c1 c2).1.2⟩ (fun h1 W => (k2 (me_fb hS rfl) (me_fb hS rfl) c0 c1 c2).2 h1 W.1 (W.2.2.2.2.2 _ rfl))) (fun c2 => Or.elim (mi_em .ge ((mi_a h 115 (Int.toNat (mi_a h 120 (Int.toNat zt))))) (((0 : Int)))) (fun c3 => ms_reF_3 hS ok_zm ok_zt ⟨c0, c1, (k3 (me_fb hS rfl) (me_fb hS rfl) c0 c1 c2 c3).1.1, c2, (k3 (me_fb hS rfl) (me_fb hS rfl) c0 c1 c2 c3).1.1, (k3 (me_fb hS rfl) (me_fb hS rfl) c0 c1 c2 c3).1.2.1, c3, (k3 (me_fb hS rfl) (me_fb hS rfl) c0 c1 c2 c3).1.2.2⟩ (fun h1 W => (k3 (me_fb hS rfl) (me_fb hS rfl) c0 c1 c2 c3).2 h1 W.1 (W.2.2.2.2.2 _ rfl))) (fun c3 => ms_reF_4 hS ok_zm ok_zt ⟨c0, c1, (k4 (me_fb hS rfl) (me_fb hS rfl) c0 c1 c2 c3).1.1, c2, (k4 (me_fb hS rfl) (me_fb hS rfl) c0 c1 c2 c3).1.1, (k4 (me_fb hS rfl) (me_fb hS rfl) c0 c1 c2 c3).1.2, c3, (k4 (me_fb hS rfl) (me_fb hS rfl) c0 c1 c2 c3).1.1⟩ (fun h1 W => (k4 (me_fb hS rfl) (me_fb hS rfl) c0 c1 c2 c3).2 h1 W.1 (W.2.2.2.2.2 _ rfl))))))
set_option maxRecDepth 20000 in
theorem mp_reG_0 (h : sm_H) (d : Nat) (zm zt : Int) : mi_path [(176, (3, 0, sb_176))] sx_sk h 2 [] (d + 16, 176, 168, [some (.inr (.inr 109)), some (.inl (zm)), some (.inl (zt))], [], [], []) = some ((d + 16, 176, 117, [some (.inr (.inr 109)), some (.inl (zm)), some (.inl (zt + 1))], [], [], []), [-2147483648 ≤ zt + 1 ∧ zt + 1 ≤ 2147483647]) := rfl
theorem mi_tab_reG_0 : ∀ e ∈ ([(176, (3, 0, sb_176))] : mi_T), sc_P e.1 = some e.2 := mi_tb mi_P176 (mi_tb_e)
set_option maxRecDepth 20000 in
theorem ms_reG_0 {h : sm_H} {d : Nat} {Q : Option mi_V → sm_H → Prop} {zm zt : Int} (hS : ab_Sh sx_sk h) (ok_zm : mi_in zm) (ok_zt : mi_in zt) (ho : (-2147483648 ≤ zt + 1 ∧ zt + 1 ≤ 2147483647)) (kon : ∀ h1, me_W [] h h1 → me_E (d + 16) 176 117 [some (.inr (.inr 109)), some (.inl (zm)), some (.inl (zt + 1))] [] h1 Q) : me_E (d + 16) 176 168 [some (.inr (.inr 109)), some (.inl (zm)), some (.inl (zt))] [] h Q := me_seg (mp_reG_0 h d zm zt) (mi_tab_reG_0) hS (mi_okL_c (trivial) (mi_okL_c (ok_zm) (mi_okL_c (ok_zt) (mi_okL_e)))) (mi_okS_e) (mi_al (ho) (mi_al_e)) (fun h1 W _ hst => kon h1 W)
set_option maxRecDepth 20000 in
theorem mt_reG {h : sm_H} {d : Nat} {Q : Option mi_V → sm_H → Prop} {zm zt : Int} (hS : ab_Sh sx_sk h) (ok_zm : mi_in zm) (ok_zt : mi_in zt) (k0 : ((-2147483648 ≤ zt + 1 ∧ zt + 1 ≤ 2147483647)) ∧ (∀ h1, ab_Sh sx_sk h1 → ab_Fr [] h h1 → me_E (d + 16) 176 117 [some (.inr (.inr 109)), some (.inl (zm)), some (.inl (zt + 1))] [] h1 Q)) : me_E (d + 16) 176 168 [some (.inr (.inr 109)), some (.inl (zm)), some (.inl (zt))] [] h Q := ms_reG_0 hS ok_zm ok_zt ((k0).1) (fun h1 W => (k0).2 h1 W.1 (W.2.2.2.2.2 _ rfl))
/-! reading: newForm, blame, begin, put -/
section RDS
variable {d : Nat} {h : sm_H}
theorem me_newForm (hS : ab_Sh sx_sk h) (hf : mi_f h 13965 < 80) : me_E d 185 0 [some (.inr (.inr 109))] [] h (fun w h' => w = some (.inl (mi_f h 13965)) ∧ ab_Sh sx_sk h' ∧ ab_Fr [(13965, 13966), (16512, 16513), (16640, 16641)] h h' ∧ mi_f h' 13965 = mi_f h 13965 + 1 ∧ (∀ i, mi_a h' 129 i = if i = (mi_f h 13965).toNat then -1 else mi_a h 129 i) ∧ ∀ i, mi_a h' 130 i = if i = (mi_f h 13965).toNat then 0 else mi_a h 130 i) := by
  refine mt_nf hS ?_
  intro b
  exact ⟨by omega, fun h1 g1 g2 g3 g4 g5 => ⟨rfl, g1, g5, g2, g3, g4⟩⟩
theorem me_blame {zf zp : Int} (hS : ab_Sh sx_sk h) (f0 : 1 ≤ zf) (f1 : zf ≤ 9) (p0 : 0 ≤ zp) (p1 : zp ≤ 1000) (h0 : 0 ≤ mi_f h 13960) : me_E d 184 0 [some (.inr (.inr 109)), some (.inl zf), some (.inl zp)] [] h (fun w h' => w = none ∧ ab_Sh sx_sk h' ∧ ab_Fr [(13960, 13961)] h h' ∧ 0 < mi_f h' 13960) := by
  refine mt_bl hS ⟨by omega, by omega⟩ ⟨by omega, by omega⟩ ?_ ?_
  · intro b c h1 g1 g2
    have e := me_nil g2
    subst e
    exact ⟨rfl, g1, ab_Fr.refl, by omega⟩
  · intro b c
    refine ⟨by omega, fun h1 g1 g2 g3 => ⟨rfl, g1, g3, by omega⟩⟩
def bg_W : List (Nat × Nat) := [(13964, 13965), (16128, 16129), (16256, 16257), (16384, 16385), (16512, 16513), (16640, 16641), (18816, 18817), (19072, 19073), (19200, 19201), (19328, 19329)]
/-- begin: k the level, f its form, a the new alternative -/
def bg_R (h h' : sm_H) : Prop :=
  mi_f h' 13964 = mi_f h 13964 + 1 ∧
  (∀ i, mi_a h' 126 i = if i = (mi_f h 13964).toNat then -1 else mi_a h 126 i) ∧
  (∀ i, mi_a h' 128 i = if mi_a h 130 (mi_a h 146 (mi_f h 14003).toNat).toNat ≠ 0 ∧ i = (mi_a h 147 (mi_f h 14003).toNat).toNat then mi_f h 13964 else if i = (mi_f h 13964).toNat then -1 else mi_a h 128 i) ∧
  (∀ i, mi_a h' 129 i = if mi_a h 130 (mi_a h 146 (mi_f h 14003).toNat).toNat = 0 ∧ i = (mi_a h 146 (mi_f h 14003).toNat).toNat then mi_f h 13964 else mi_a h 129 i) ∧
  (∀ i, mi_a h' 130 i = if i = (mi_a h 146 (mi_f h 14003).toNat).toNat then mi_a h 130 i + 1 else mi_a h 130 i) ∧
  (∀ i, mi_a h' 147 i = if i = (mi_f h 14003).toNat then mi_f h 13964 else mi_a h 147 i) ∧
  (∀ i, mi_a h' 149 i = if i = (mi_f h 14003).toNat then -1 else mi_a h 149 i) ∧
  (∀ i, mi_a h' 150 i = if i = (mi_f h 14003).toNat then -1 else mi_a h 150 i) ∧
  (∀ i, mi_a h' 151 i = if i = (mi_f h 14003).toNat then 0 else mi_a h 151 i)
theorem me_begin {zp : Int} (hS : ab_Sh sx_sk h) (op : mi_in zp) (ha : mi_f h 13964 < 80) (hk : mi_f h 14003 < 6) (hf0 : 0 ≤ mi_a h 146 (mi_f h 14003).toNat) (hf1 : mi_a h 146 (mi_f h 14003).toNat < 80) (hc : mi_a h 130 (mi_a h 146 (mi_f h 14003).toNat).toNat ≤ 6) (hb : mi_a h 130 (mi_a h 146 (mi_f h 14003).toNat).toNat ≠ 0 → 0 ≤ mi_a h 147 (mi_f h 14003).toNat ∧ mi_a h 147 (mi_f h 14003).toNat < 80) : me_E d 187 0 [some (.inr (.inr 109)), some (.inl zp), none, none] [] h (fun w h' => w = none ∧ ab_Sh sx_sk h' ∧ ab_Fr bg_W h h' ∧ bg_R h h') := by
  have b130 := me_ab (k := 130) (i := (mi_a h 146 (mi_f h 14003).toNat).toNat) hS rfl (by decide) (by omega)
  have b3 := me_fb (c := 14003) hS rfl
  have b4 := me_fb (c := 13964) hS rfl
  refine mt_bgA hS op ?_ ?_
  · intro b1 b2 c
    have hb := hb c
    refine ⟨by omega, fun h1 g1 g2 g3 g4 g5 g6 => ?_⟩
    have e3 : mi_f h1 14003 = mi_f h 14003 := me_f (c := 14003) g6 hS rfl rfl
    have e130 : ∀ i, mi_a h1 130 i = mi_a h 130 i := fun i => me_a (k := 130) g6 hS rfl rfl
    refine mt_bgB g1 op ⟨by omega, by omega⟩ ⟨by omega, by omega⟩ ?_
    intro b5
    refine ⟨by rw [e130]; omega, fun h2 r1 r2 r3 r4 r5 r6 r7 => ⟨rfl, r1, (g6.wide (fun c hc => ab_swr_ok (by decide) hc)).trans (r7.wide (fun c hc => ab_swr_ok (by decide) hc)), (me_f (c := 13964) r7 g1 rfl rfl).trans g2, fun i => ?_, fun i => ?_, fun i => ?_, fun i => ?_, fun i => ?_, fun i => ?_, fun i => ?_, fun i => ?_⟩⟩
    · rw [me_a (k := 126) r7 g1 rfl rfl, g3]
    · rw [me_a (k := 128) r7 g1 rfl rfl, g5]
      by_cases e : i = (mi_a h 147 (mi_f h 14003).toNat).toNat
      · rw [if_pos e, if_pos ⟨c, e⟩]
      · rw [if_neg e, if_neg (c := mi_a h 130 (mi_a h 146 (mi_f h 14003).toNat).toNat ≠ 0 ∧ i = (mi_a h 147 (mi_f h 14003).toNat).toNat) (fun z => e z.2)]
    · rw [me_a (k := 129) r7 g1 rfl rfl, me_a (k := 129) g6 hS rfl rfl, if_neg (fun z => c z.1)]
    · rw [r2, e130, e130]
      by_cases e : i = (mi_a h 146 (mi_f h 14003).toNat).toNat
      · rw [if_pos e, if_pos e, e]
      · rw [if_neg e, if_neg e]
    · rw [r3, e3, me_a (k := 147) g6 hS rfl rfl]
    · rw [r4, e3, me_a (k := 149) g6 hS rfl rfl]
    · rw [r5, e3, me_a (k := 150) g6 hS rfl rfl]
    · rw [r6, e3, me_a (k := 151) g6 hS rfl rfl]
  · intro b1 b2 c
    refine ⟨by omega, fun h1 g1 g2 g3 g4 g5 g6 g7 => ?_⟩
    have e3 : mi_f h1 14003 = mi_f h 14003 := me_f (c := 14003) g7 hS rfl rfl
    have e130 : ∀ i, mi_a h1 130 i = mi_a h 130 i := fun i => me_a (k := 130) g7 hS rfl rfl
    refine mt_bgB g1 op ⟨by omega, by omega⟩ ⟨by omega, by omega⟩ ?_
    intro b5
    refine ⟨by rw [e130]; omega, fun h2 r1 r2 r3 r4 r5 r6 r7 => ⟨rfl, r1, (g7.wide (fun c hc => ab_swr_ok (by decide) hc)).trans (r7.wide (fun c hc => ab_swr_ok (by decide) hc)), (me_f (c := 13964) r7 g1 rfl rfl).trans g2, fun i => ?_, fun i => ?_, fun i => ?_, fun i => ?_, fun i => ?_, fun i => ?_, fun i => ?_, fun i => ?_⟩⟩
    · rw [me_a (k := 126) r7 g1 rfl rfl, g3]
    · rw [me_a (k := 128) r7 g1 rfl rfl, g5, if_neg (c := mi_a h 130 (mi_a h 146 (mi_f h 14003).toNat).toNat ≠ 0 ∧ i = (mi_a h 147 (mi_f h 14003).toNat).toNat) (fun z => z.1 c)]
    · rw [me_a (k := 129) r7 g1 rfl rfl, g6]
      by_cases e : i = (mi_a h 146 (mi_f h 14003).toNat).toNat
      · rw [if_pos e, if_pos ⟨c, e⟩]
      · rw [if_neg e, if_neg (fun z => e z.2)]
    · rw [r2, e130, e130]
      by_cases e : i = (mi_a h 146 (mi_f h 14003).toNat).toNat
      · rw [if_pos e, if_pos e, e]
      · rw [if_neg e, if_neg e]
    · rw [r3, e3, me_a (k := 147) g7 hS rfl rfl]
    · rw [r4, e3, me_a (k := 149) g7 hS rfl rfl]
    · rw [r5, e3, me_a (k := 150) g7 hS rfl rfl]
    · rw [r6, e3, me_a (k := 151) g7 hS rfl rfl]
def pu_W : List (Nat × Nat) := [(15872, 15873), (16000, 16001), (16128, 16129), (19072, 19073), (19200, 19201), (19328, 19329)]
/-- put: k the level -/
def pu_R (zu : Int) (h h' : sm_H) : Prop :=
  (∀ i, mi_a h' 124 i = if mi_a h 151 (mi_f h 14003).toNat ≠ 0 ∧ i = (mi_a h 149 (mi_f h 14003).toNat).toNat then zu else mi_a h 124 i) ∧
  (∀ i, mi_a h' 125 i = if mi_a h 151 (mi_f h 14003).toNat = 0 ∧ 0 ≤ mi_a h 149 (mi_f h 14003).toNat ∧ i = (mi_a h 149 (mi_f h 14003).toNat).toNat then zu else mi_a h 125 i) ∧
  (∀ i, mi_a h' 126 i = if mi_a h 151 (mi_f h 14003).toNat = 0 ∧ mi_a h 149 (mi_f h 14003).toNat < 0 ∧ i = (mi_a h 147 (mi_f h 14003).toNat).toNat then zu else mi_a h 126 i) ∧
  (∀ i, mi_a h' 149 i = if mi_a h 151 (mi_f h 14003).toNat = 0 ∧ i = (mi_f h 14003).toNat then zu else mi_a h 149 i) ∧
  (∀ i, mi_a h' 150 i = if i = (mi_f h 14003).toNat then zu else mi_a h 150 i) ∧
  (∀ i, mi_a h' 151 i = if i = (mi_f h 14003).toNat then 0 else mi_a h 151 i)
theorem pu75 {h0 : sm_H} {zu : Int} {wr : List (Nat × Nat)} (hS0 : ab_Sh sx_sk h0) (hS : ab_Sh sx_sk h) (hF : ab_Fr wr h0 h) (hw : (ab_in wr 14003 || ab_in wr 19072 || ab_in wr 19200 || ab_in wr 19328) = false) (hw2 : ab_sub_wr wr pu_W = true) (u0 : 0 ≤ zu) (u1 : zu < 60) (hk : mi_f h0 14003 < 6) (hl : mi_a h0 151 (mi_f h0 14003).toNat ≠ 0 → 0 ≤ mi_a h0 149 (mi_f h0 14003).toNat ∧ mi_a h0 149 (mi_f h0 14003).toNat < 60) : me_E d 192 75 [some (.inr (.inr 109)), some (.inl zu)] [] h (fun w h' => w = none ∧ ab_Sh sx_sk h' ∧ ab_Fr pu_W h0 h' ∧ (∀ i, mi_a h' 124 i = mi_a h 124 i) ∧ (∀ i, mi_a h' 125 i = mi_a h 125 i) ∧ (∀ i, mi_a h' 126 i = mi_a h 126 i) ∧ (∀ i, mi_a h' 149 i = if mi_a h0 151 (mi_f h0 14003).toNat = 0 ∧ i = (mi_f h0 14003).toNat then zu else mi_a h0 149 i) ∧ (∀ i, mi_a h' 150 i = if i = (mi_f h0 14003).toNat then zu else mi_a h0 150 i) ∧ ∀ i, mi_a h' 151 i = if i = (mi_f h0 14003).toNat then 0 else mi_a h0 151 i) := by
  simp only [Bool.or_eq_false_iff] at hw
  have e3 : mi_f h 14003 = mi_f h0 14003 := me_f (c := 14003) hF hS0 rfl hw.1.1.1
  have e149 : ∀ i, mi_a h 149 i = mi_a h0 149 i := fun i => me_a (k := 149) hF hS0 rfl hw.1.1.2
  have e150 : ∀ i, mi_a h 150 i = mi_a h0 150 i := fun i => me_a (k := 150) hF hS0 rfl hw.1.2
  have e151 : ∀ i, mi_a h 151 i = mi_a h0 151 i := fun i => me_a (k := 151) hF hS0 rfl hw.2
  refine mt_puB hS ⟨by omega, by omega⟩ ?_ ?_
  · intro b c
    rw [e3, e151] at c
    refine ⟨by omega, fun h1 g1 g2 g3 g4 g5 => ⟨rfl, g1, (hF.wide (fun c hc => ab_swr_ok hw2 hc)).trans (g5.wide (fun c hc => ab_swr_ok (by decide) hc)), fun i => me_a (k := 124) g5 hS rfl rfl, fun i => me_a (k := 125) g5 hS rfl rfl, fun i => me_a (k := 126) g5 hS rfl rfl, fun i => ?_, fun i => ?_, fun i => ?_⟩⟩
    · rw [g2, e3, e149]
      by_cases e : i = (mi_f h0 14003).toNat
      · rw [if_pos e, if_pos ⟨c, e⟩]
      · rw [if_neg e, if_neg (fun z => e z.2)]
    · rw [g3, e3, e150]
    · rw [g4, e3, e151]
  · intro b c
    rw [e3, e151] at c
    have hl := hl c
    refine ⟨by rw [e3, e149]; omega, fun h1 g1 g2 g3 g4 g5 => ⟨rfl, g1, (hF.wide (fun c hc => ab_swr_ok hw2 hc)).trans (g5.wide (fun c hc => ab_swr_ok (by decide) hc)), fun i => me_a (k := 124) g5 hS rfl rfl, fun i => me_a (k := 125) g5 hS rfl rfl, fun i => me_a (k := 126) g5 hS rfl rfl, fun i => ?_, fun i => ?_, fun i => ?_⟩⟩
    · rw [g2, e3, e149, e149, if_neg (c := mi_a h0 151 (mi_f h0 14003).toNat = 0 ∧ i = (mi_f h0 14003).toNat) (fun z => c z.1)]
      by_cases e : i = (mi_f h0 14003).toNat
      · rw [if_pos e, e]
      · rw [if_neg e]
    · rw [g3, e3, e150]
    · rw [g4, e3, e151]
theorem me_put {zu : Int} (hS : ab_Sh sx_sk h) (u0 : 0 ≤ zu) (u1 : zu < 60) (hk : mi_f h 14003 < 6) (hl : mi_a h 151 (mi_f h 14003).toNat ≠ 0 → 0 ≤ mi_a h 149 (mi_f h 14003).toNat) (hl2 : mi_a h 149 (mi_f h 14003).toNat < 60) (ha : 0 ≤ mi_a h 147 (mi_f h 14003).toNat ∧ mi_a h 147 (mi_f h 14003).toNat < 80) : me_E d 192 0 [some (.inr (.inr 109)), some (.inl zu)] [] h (fun w h' => w = none ∧ ab_Sh sx_sk h' ∧ ab_Fr pu_W h h' ∧ pu_R zu h h') := by
  have b3 := me_fb (c := 14003) hS rfl
  have hl' : mi_a h 151 (mi_f h 14003).toNat ≠ 0 → 0 ≤ mi_a h 149 (mi_f h 14003).toNat ∧ mi_a h 149 (mi_f h 14003).toNat < 60 := fun z => ⟨hl z, hl2⟩
  refine mt_puA hS ⟨by omega, by omega⟩ ?_ ?_ ?_
  · intro b c1 c2
    refine ⟨by omega, fun h1 g1 g2 g3 => (pu75 (h0 := h) hS g1 g3 rfl rfl u0 u1 hk hl').imp (fun w h' hq => ?_)⟩
    obtain ⟨q1, q2, q3, q4, q5, q6, q7, q8, q9⟩ := hq
    refine ⟨q1, q2, q3, fun i => ?_, fun i => ?_, fun i => ?_, q7, q8, q9⟩
    · rw [q4, me_a (k := 124) g3 hS rfl rfl, if_neg (fun z => z.1 c1)]
    · rw [q5, g2]
      by_cases e : i = (mi_a h 149 (mi_f h 14003).toNat).toNat
      · rw [if_pos e, if_pos ⟨c1, c2, e⟩]
      · rw [if_neg e, if_neg (fun z => e z.2.2)]
    · rw [q6, me_a (k := 126) g3 hS rfl rfl, if_neg (fun z => by have := z.2.1; omega)]
  · intro b c1 c2
    refine ⟨by omega, fun h1 g1 g2 g3 => (pu75 (h0 := h) hS g1 g3 rfl rfl u0 u1 hk hl').imp (fun w h' hq => ?_)⟩
    obtain ⟨q1, q2, q3, q4, q5, q6, q7, q8, q9⟩ := hq
    refine ⟨q1, q2, q3, fun i => ?_, fun i => ?_, fun i => ?_, q7, q8, q9⟩
    · rw [q4, me_a (k := 124) g3 hS rfl rfl, if_neg (fun z => z.1 c1)]
    · rw [q5, me_a (k := 125) g3 hS rfl rfl, if_neg (fun z => by have := z.2.1; omega)]
    · rw [q6, g2]
      by_cases e : i = (mi_a h 147 (mi_f h 14003).toNat).toNat
      · rw [if_pos e, if_pos ⟨c1, c2, e⟩]
      · rw [if_neg e, if_neg (fun z => e z.2.2)]
  · intro b c1
    have := hl c1
    refine ⟨by omega, fun h1 g1 g2 g3 => (pu75 (h0 := h) hS g1 g3 rfl rfl u0 u1 hk hl').imp (fun w h' hq => ?_)⟩
    obtain ⟨q1, q2, q3, q4, q5, q6, q7, q8, q9⟩ := hq
    refine ⟨q1, q2, q3, fun i => ?_, fun i => ?_, fun i => ?_, q7, q8, q9⟩
    · rw [q4, g2]
      by_cases e : i = (mi_a h 149 (mi_f h 14003).toNat).toNat
      · rw [if_pos e, if_pos ⟨c1, e⟩]
      · rw [if_neg e, if_neg (fun z => e z.2)]
    · rw [q5, me_a (k := 125) g3 hS rfl rfl, if_neg (fun z => c1 z.1)]
    · rw [q6, me_a (k := 126) g3 hS rfl rfl, if_neg (fun z => c1 z.1)]
end RDS
/-! READING: what holds while a description is read. g: the arrays; Y: the walk's ghosts (wk_Y); ow, ix: of an alternative its form and its place there; A: alternatives; k: the level -/
abbrev rd_Z : Type := (Int → Int) × (Int → Int) × Int × Int
def rd_ow (z : rd_Z) (a : Int) : Int := z.1 a
def rd_ix (z : rd_Z) (a : Int) : Int := z.2.1 a
def rd_a (z : rd_Z) : Int := z.2.2.1
def rd_k (z : rd_Z) : Int := z.2.2.2
/-- a unit: as wk_Lunit, but a use's rule may still be wanting -/
def rd_unit (g : wk_g) (Y : wk_Y) (u : Int) : Prop :=
  (u < wk_e Y u ∧ wk_e Y u ≤ wk_x Y (wk_c Y u) ∧ wk_b Y (wk_c Y u) < u ∧ 0 ≤ wk_c Y u ∧ wk_c Y u < wk_f Y) ∧
  (0 ≤ g 124 u.toNat → g 124 u.toNat < wk_u Y ∧ wk_c Y (g 124 u.toNat) = wk_c Y u ∧ wk_e Y u ≤ g 124 u.toNat ∧ g 124 (g 124 u.toNat).toNat < 0) ∧
  (0 ≤ g 125 u.toNat → g 125 u.toNat < wk_u Y ∧ wk_c Y (g 125 u.toNat) = wk_c Y u ∧ wk_e Y u ≤ g 125 u.toNat ∧ (0 ≤ g 124 u.toNat → wk_e Y (g 124 u.toNat) ≤ g 125 u.toNat)) ∧
  (g 119 u.toNat = 9 → 0 ≤ g 120 u.toNat ∧ g 120 u.toNat < 26) ∧
  (g 119 u.toNat = 10 → 0 ≤ g 120 u.toNat ∧ g 120 u.toNat < wk_f Y ∧ wk_x Y (g 120 u.toNat) - wk_b Y (g 120 u.toNat) ≤ wk_e Y u - u ∧ wk_d Y (g 120 u.toNat) = wk_d Y (wk_c Y u) + 1) ∧
  (g 119 u.toNat = 8 → 0 ≤ g 120 u.toNat ∧ g 120 u.toNat < 20)
/-- a form and its alternatives; a form just made has none yet (m = 0) -/
def rd_form (g : wk_g) (Y : wk_Y) (z : rd_Z) (m f : Int) : Prop :=
  0 ≤ wk_d Y f ∧ wk_d Y f ≤ 4 ∧ m ≤ g 130 f.toNat ∧ 0 ≤ g 130 f.toNat ∧ wk_alt g (g 130 f.toNat).toNat (g 129 f.toNat) < 0 ∧ wk_b Y f < wk_x Y f ∧ wk_x Y f ≤ 60 ∧
  ∀ j : Nat, (j : Int) < g 130 f.toNat → 0 ≤ wk_alt g j (g 129 f.toNat) ∧ wk_alt g j (g 129 f.toNat) < rd_a z ∧ rd_ow z (wk_alt g j (g 129 f.toNat)) = f ∧ rd_ix z (wk_alt g j (g 129 f.toNat)) = j
def rd_alt (g : wk_g) (Y : wk_Y) (z : rd_Z) (a : Int) : Prop := g 126 a.toNat < 0 ∨ (g 126 a.toNat < wk_u Y ∧ wk_c Y (g 126 a.toNat) = rd_ow z a)
/-- where a level's units end: at the unit of the next level, or at all units -/
def rd_top (g : wk_g) (Y : wk_Y) (z : rd_Z) (i : Int) : Int := if i < rd_k z then g 148 (i + 1).toNat else wk_u Y
/-- an open level: its form, its alternative, its last item -/
def rd_lev (g : wk_g) (Y : wk_Y) (z : rd_Z) (i : Int) : Prop :=
  (0 ≤ g 146 i.toNat ∧ g 146 i.toNat < wk_f Y ∧ wk_d Y (g 146 i.toNat) = i ∧ wk_x Y (g 146 i.toNat) = 60) ∧
  (0 < g 130 (g 146 i.toNat).toNat → 0 ≤ g 147 i.toNat ∧ g 147 i.toNat < rd_a z ∧ g 147 i.toNat = wk_alt g ((g 130 (g 146 i.toNat).toNat).toNat - 1) (g 129 (g 146 i.toNat).toNat)) ∧
  (∀ u, 0 ≤ u → u < wk_u Y → wk_c Y u = g 146 i.toNat → wk_e Y u ≤ rd_top g Y z i ∨ (i < rd_k z ∧ u = g 148 (i + 1).toNat)) ∧
  (0 ≤ g 149 i.toNat → g 149 i.toNat < wk_u Y ∧ wk_c Y (g 149 i.toNat) = g 146 i.toNat ∧ wk_e Y (g 149 i.toNat) ≤ rd_top g Y z i ∧ g 125 (g 149 i.toNat).toNat < 0 ∧ (0 ≤ g 124 (g 149 i.toNat).toNat → wk_e Y (g 124 (g 149 i.toNat).toNat) ≤ rd_top g Y z i) ∧ ∀ w, 0 ≤ w → w < wk_u Y → g 124 w.toNat ≠ g 149 i.toNat) ∧
  (g 151 i.toNat ≠ 0 → 0 ≤ g 149 i.toNat ∧ g 124 (g 149 i.toNat).toNat < 0) ∧
  g 150 i.toNat < wk_u Y
/-- the unit of an open group -/
def rd_grp (g : wk_g) (Y : wk_Y) (i : Int) : Prop :=
  0 ≤ g 148 i.toNat ∧ g 148 i.toNat < wk_u Y ∧ wk_c Y (g 148 i.toNat) = g 146 (i - 1).toNat ∧ g 119 (g 148 i.toNat).toNat = 10 ∧ g 120 (g 148 i.toNat).toNat = g 146 i.toNat ∧ wk_e Y (g 148 i.toNat) = 60 ∧ wk_b Y (g 146 i.toNat) = g 148 i.toNat ∧ g 124 (g 148 i.toNat).toNat < 0 ∧ g 125 (g 148 i.toNat).toNat < 0 ∧ ∀ w, 0 ≤ w → w < wk_u Y → g 124 w.toNat ≠ g 148 i.toNat
/-- all of it; m as in rd_form, for the form of the top level -/
def rd_I (g : wk_g) (Y : wk_Y) (z : rd_Z) (m : Int) : Prop :=
  (0 ≤ wk_u Y ∧ wk_u Y ≤ 60 ∧ 0 ≤ wk_f Y ∧ wk_f Y ≤ 80 ∧ 0 ≤ rd_a z ∧ rd_a z ≤ 80 ∧ rd_k z ≤ 4) ∧
  (∀ u, 0 ≤ u → u < wk_u Y → rd_unit g Y u) ∧
  (∀ f, 0 ≤ f → f < wk_f Y → rd_form g Y z (if 0 ≤ rd_k z ∧ f = g 146 (rd_k z).toNat then m else 1) f) ∧
  (∀ a, 0 ≤ a → a < rd_a z → rd_alt g Y z a) ∧
  (∀ i, 0 ≤ i → i ≤ rd_k z → rd_lev g Y z i) ∧
  (∀ i, 1 ≤ i → i ≤ rd_k z → rd_grp g Y i)
section RDI
variable {g : wk_g} {Y : wk_Y} {z : rd_Z}
/-- in the end the walk's laws hold -/
theorem rd_L (hI : rd_I g Y z 1) (hr : ∀ u, 0 ≤ u → u < wk_u Y → g 119 u.toNat = 9 → 0 ≤ g 115 (g 120 u.toNat).toNat ∧ g 115 (g 120 u.toNat).toNat < 10 ∧ wk_Lrule Y (wk_rf g u)) : wk_L g Y := by
  obtain ⟨⟨n1, n2, n3, n4, n5, n6, n7⟩, i1, i2, i3, -⟩ := hI
  refine ⟨n2, n4, fun u h0 h1 => ?_, fun f h0 h1 => ?_⟩
  · obtain ⟨a1, a2, a3, a4, a5, a6⟩ := i1 u h0 h1
    refine ⟨a1, a2, a3, fun h9 => ?_, a5, a6⟩
    obtain ⟨b1, b2⟩ := a4 h9
    obtain ⟨c1, c2, c3⟩ := hr u h0 h1 h9
    exact ⟨b1, b2, c1, c2, c3⟩
  · obtain ⟨a1, a2, a3, -, a4, a5, -, a6⟩ := i2 f h0 h1
    have a3 : 1 ≤ g 130 f.toNat := by split at a3 <;> exact a3
    refine ⟨a1, a2, a3, a4, a5, fun j hj => ?_⟩
    obtain ⟨b1, b2, b3, -⟩ := a6 j hj
    refine ⟨b1, by omega, ?_⟩
    rcases i3 _ b1 b2 with x | x
    · exact Or.inl x
    · exact Or.inr ⟨x.1, x.2.trans b3⟩
end RDI
/-! reading: the chain of a form's alternatives, when one more begins -/
section RDC
variable {g g' : wk_g} {Y : wk_Y} {z : rd_Z} {m f A oa : Int}
/-- the chain of another form stays -/
theorem rd_ch_o {f0 : Int} (hf : rd_form g Y z m f0) (hA : rd_a z = A) (h128 : ∀ i : Nat, g' 128 i = if g 130 f.toNat ≠ 0 ∧ i = oa.toNat then A else if i = A.toNat then -1 else g 128 i) (h129 : g' 129 f0.toNat = g 129 f0.toNat) (hoa : g 130 f.toNat ≠ 0 → 0 ≤ oa ∧ rd_ow z oa = f) (hne : f0 ≠ f) : ∀ j : Nat, (j : Int) ≤ g 130 f0.toNat → wk_alt g' j (g' 129 f0.toNat) = wk_alt g j (g 129 f0.toNat) := by
  intro j
  induction j with
  | zero => intro _; exact h129
  | succ j ih =>
    intro hj
    obtain ⟨b1, b2, b3, -⟩ := hf.2.2.2.2.2.2.2 j (by omega)
    rw [wk_alt_succ, wk_alt_succ, ih (by omega), h128, if_neg, if_neg]
    · omega
    · rintro ⟨c1, c2⟩
      obtain ⟨d1, d2⟩ := hoa c1
      have e : wk_alt g j (g 129 f0.toNat) = oa := by omega
      rw [e, d2] at b3
      exact hne b3.symm
/-- the chain of the form itself: first of it -/
theorem rd_ch_0 (hA : 0 ≤ A) (h0 : g 130 f.toNat = 0) (h128 : ∀ i : Nat, g' 128 i = if g 130 f.toNat ≠ 0 ∧ i = oa.toNat then A else if i = A.toNat then -1 else g 128 i) (h129 : g' 129 f.toNat = A) : wk_alt g' 0 (g' 129 f.toNat) = A ∧ wk_alt g' 1 (g' 129 f.toNat) = -1 := by
  refine ⟨h129, ?_⟩
  show g' 128 (g' 129 f.toNat).toNat = -1
  rw [h129, h128, if_neg (fun c => c.1 h0), if_pos rfl]
/-- .. one more of it -/
theorem rd_ch_1 (hf : rd_form g Y z m f) (hA : rd_a z = A) (hn : 0 < g 130 f.toNat) (h128 : ∀ i : Nat, g' 128 i = if g 130 f.toNat ≠ 0 ∧ i = oa.toNat then A else if i = A.toNat then -1 else g 128 i) (h129 : g' 129 f.toNat = g 129 f.toNat) (hoa : oa = wk_alt g ((g 130 f.toNat).toNat - 1) (g 129 f.toNat)) : (∀ j : Nat, (j : Int) < g 130 f.toNat → wk_alt g' j (g' 129 f.toNat) = wk_alt g j (g 129 f.toNat)) ∧ wk_alt g' (g 130 f.toNat).toNat (g' 129 f.toNat) = A ∧ wk_alt g' ((g 130 f.toNat).toNat + 1) (g' 129 f.toNat) = -1 := by
  have law := hf.2.2.2.2.2.2.2
  have ho := law ((g 130 f.toNat).toNat - 1) (by omega)
  rw [← hoa] at ho
  obtain ⟨o1, o2, o3, o4⟩ := ho
  have low : ∀ j : Nat, (j : Int) < g 130 f.toNat → wk_alt g' j (g' 129 f.toNat) = wk_alt g j (g 129 f.toNat) := by
    intro j
    induction j with
    | zero => intro _; exact h129
    | succ j ih =>
      intro hj
      obtain ⟨b1, b2, b3, b4⟩ := law j (by omega)
      rw [wk_alt_succ, wk_alt_succ, ih (by omega), h128, if_neg, if_neg]
      · omega
      · rintro ⟨-, c2⟩
        have e : wk_alt g j (g 129 f.toNat) = oa := by omega
        rw [e, o4] at b4
        omega
  have e1 : (g 130 f.toNat).toNat = ((g 130 f.toNat).toNat - 1) + 1 := by omega
  have mid : wk_alt g' (g 130 f.toNat).toNat (g' 129 f.toNat) = A := by
    rw [e1, wk_alt_succ, low _ (by omega), ← hoa, h128, if_pos ⟨by omega, rfl⟩]
  refine ⟨low, mid, ?_⟩
  rw [wk_alt_succ, mid, h128, if_neg (fun c => by have := c.2; omega), if_pos rfl]
end RDC
/-! reading: an alternative begins -/
/-- before an alternative begins: nothing is asked of the top level's last item -/
def rd_lev0 (g : wk_g) (Y : wk_Y) (z : rd_Z) (i : Int) : Prop :=
  (0 ≤ g 146 i.toNat ∧ g 146 i.toNat < wk_f Y ∧ wk_d Y (g 146 i.toNat) = i ∧ wk_x Y (g 146 i.toNat) = 60) ∧
  (0 < g 130 (g 146 i.toNat).toNat → 0 ≤ g 147 i.toNat ∧ g 147 i.toNat < rd_a z ∧ g 147 i.toNat = wk_alt g ((g 130 (g 146 i.toNat).toNat).toNat - 1) (g 129 (g 146 i.toNat).toNat)) ∧
  (∀ u, 0 ≤ u → u < wk_u Y → wk_c Y u = g 146 i.toNat → wk_e Y u ≤ rd_top g Y z i ∨ (i < rd_k z ∧ u = g 148 (i + 1).toNat))
def rd_J (g : wk_g) (Y : wk_Y) (z : rd_Z) (m : Int) : Prop :=
  (0 ≤ wk_u Y ∧ wk_u Y ≤ 60 ∧ 0 ≤ wk_f Y ∧ wk_f Y ≤ 80 ∧ 0 ≤ rd_a z ∧ rd_a z ≤ 80 ∧ rd_k z ≤ 4) ∧
  (∀ u, 0 ≤ u → u < wk_u Y → rd_unit g Y u) ∧
  (∀ f, 0 ≤ f → f < wk_f Y → rd_form g Y z (if 0 ≤ rd_k z ∧ f = g 146 (rd_k z).toNat then m else 1) f) ∧
  (∀ a, 0 ≤ a → a < rd_a z → rd_alt g Y z a) ∧
  (∀ i, 0 ≤ i → i ≤ rd_k z → rd_lev0 g Y z i) ∧
  (∀ i, 0 ≤ i → i < rd_k z → rd_lev g Y z i) ∧
  (∀ i, 1 ≤ i → i ≤ rd_k z → rd_grp g Y i)
theorem rd_I_J {g : wk_g} {Y : wk_Y} {z : rd_Z} {m : Int} (h : rd_I g Y z m) : rd_J g Y z m := by
  obtain ⟨a, b, c, e, f, k⟩ := h
  exact ⟨a, b, c, e, fun i h0 h1 => ⟨(f i h0 h1).1, (f i h0 h1).2.1, (f i h0 h1).2.2.1⟩, fun i h0 h1 => f i h0 (by omega), k⟩
section RDB
variable {g g' : wk_g} {Y : wk_Y} {z : rd_Z} {m : Int}
def rd_zb (g : wk_g) (z : rd_Z) : rd_Z := (fun a => if a = rd_a z then g 146 (rd_k z).toNat else rd_ow z a, fun a => if a = rd_a z then g 130 (g 146 (rd_k z).toNat).toNat else rd_ix z a, rd_a z + 1, rd_k z)
theorem rd_begin (hI : rd_J g Y z m) (hk : 0 ≤ rd_k z) (hA : rd_a z < 80)
    (s : ∀ j, j ∈ [115, 119, 120, 124, 125, 146, 148] → ∀ i, g' j i = g j i)
    (h126 : ∀ i : Nat, g' 126 i = if i = (rd_a z).toNat then -1 else g 126 i)
    (h128 : ∀ i : Nat, g' 128 i = if g 130 (g 146 (rd_k z).toNat).toNat ≠ 0 ∧ i = (g 147 (rd_k z).toNat).toNat then rd_a z else if i = (rd_a z).toNat then -1 else g 128 i)
    (h129 : ∀ i : Nat, g' 129 i = if g 130 (g 146 (rd_k z).toNat).toNat = 0 ∧ i = (g 146 (rd_k z).toNat).toNat then rd_a z else g 129 i)
    (h130 : ∀ i : Nat, g' 130 i = if i = (g 146 (rd_k z).toNat).toNat then g 130 i + 1 else g 130 i)
    (h147 : ∀ i : Nat, g' 147 i = if i = (rd_k z).toNat then rd_a z else g 147 i)
    (h149 : ∀ i : Nat, g' 149 i = if i = (rd_k z).toNat then -1 else g 149 i)
    (h150 : ∀ i : Nat, g' 150 i = if i = (rd_k z).toNat then -1 else g 150 i)
    (h151 : ∀ i : Nat, g' 151 i = if i = (rd_k z).toNat then 0 else g 151 i) : rd_I g' Y (rd_zb g z) 1 := by
  obtain ⟨⟨n1, n2, n3, n4, n5, n6, n7⟩, i1, i2, i3, i4, i4b, i5⟩ := hI
  have e119 := s 119 (by decide)
  have e120 := s 120 (by decide)
  have e124 := s 124 (by decide)
  have e125 := s 125 (by decide)
  have e146 := s 146 (by decide)
  have e148 := s 148 (by decide)
  have lk := i4 (rd_k z) hk (Int.le_refl _)
  obtain ⟨⟨f0, f1, f2, f3⟩, l2, l3⟩ := id lk
  have ff := i2 _ f0 f1
  rw [if_pos ⟨hk, rfl⟩] at ff
  have hoa : g 130 (g 146 (rd_k z).toNat).toNat ≠ 0 → 0 ≤ g 147 (rd_k z).toNat ∧ rd_ow z (g 147 (rd_k z).toNat) = g 146 (rd_k z).toNat := fun c => by
    have hpos : 0 < g 130 (g 146 (rd_k z).toNat).toNat := by have := ff.2.2.2.1; omega
    obtain ⟨a1, a2, a3⟩ := l2 hpos
    obtain ⟨b1, b2, b3, b4⟩ := ff.2.2.2.2.2.2.2 ((g 130 (g 146 (rd_k z).toNat).toNat).toNat - 1) (by omega)
    rw [← a3] at b3
    exact ⟨a1, b3⟩
  have oth : ∀ f, 0 ≤ f → f < wk_f Y → f ≠ g 146 (rd_k z).toNat → g' 130 f.toNat = g 130 f.toNat ∧ ∀ j : Nat, (j : Int) ≤ g 130 f.toNat → wk_alt g' j (g' 129 f.toNat) = wk_alt g j (g 129 f.toNat) := fun f h0 h1 hne => by
    refine ⟨by rw [h130, if_neg (by omega)], rd_ch_o (i2 f h0 h1) rfl h128 ?_ hoa hne⟩
    rw [h129, if_neg (fun c => by have := c.2; omega)]
  have zk : rd_k (rd_zb g z) = rd_k z := rfl
  have za : rd_a (rd_zb g z) = rd_a z + 1 := rfl
  have zo : ∀ a, a < rd_a z → rd_ow (rd_zb g z) a = rd_ow z a := fun a ha => if_neg (show ¬ a = rd_a z by omega)
  have zi : ∀ a, a < rd_a z → rd_ix (rd_zb g z) a = rd_ix z a := fun a ha => if_neg (show ¬ a = rd_a z by omega)
  have zoA : rd_ow (rd_zb g z) (rd_a z) = g 146 (rd_k z).toNat := if_pos rfl
  have ziA : rd_ix (rd_zb g z) (rd_a z) = g 130 (g 146 (rd_k z).toNat).toNat := if_pos rfl
  refine ⟨⟨n1, n2, n3, n4, by rw [za]; omega, by rw [za]; omega, n7⟩, fun u h0 h1 => ?_, fun f h0 h1 => ?_, fun a h0 h1 => ?_, fun i h0 h1 => ?_, fun i h0 h1 => ?_⟩
  · have := i1 u h0 h1
    unfold rd_unit at this ⊢
    simp only [e119, e120, e124, e125]
    exact this
  · rw [show (if 0 ≤ rd_k (rd_zb g z) ∧ f = g' 146 (rd_k (rd_zb g z)).toNat then (1 : Int) else 1) = 1 from by split <;> rfl]
    by_cases hne : f = g 146 (rd_k z).toNat
    · subst hne
      obtain ⟨p1, p2, p3, p4, p5, p6, p7, p8⟩ := ff
      have ec : g' 130 (g 146 (rd_k z).toNat).toNat = g 130 (g 146 (rd_k z).toNat).toNat + 1 := by rw [h130, if_pos rfl]
      by_cases c0 : g 130 (g 146 (rd_k z).toNat).toNat = 0
      · obtain ⟨q1, q2⟩ := rd_ch_0 (oa := g 147 (rd_k z).toNat) n5 c0 h128 (by rw [h129, if_pos ⟨c0, rfl⟩])
        have et : (g' 130 (g 146 (rd_k z).toNat).toNat).toNat = 1 := by omega
        refine ⟨p1, p2, by omega, by omega, by rw [et, q2]; decide, p6, p7, fun j hj => ?_⟩
        have ej : j = 0 := by omega
        subst ej
        rw [q1, za, zoA, ziA, c0]
        exact ⟨n5, by omega, rfl, rfl⟩
      · obtain ⟨a1, a2, a3⟩ := l2 (by omega)
        obtain ⟨q1, q2, q3⟩ := rd_ch_1 (i2 _ h0 h1) rfl (by omega) h128 (by rw [h129, if_neg (fun c => c0 c.1)]) a3
        have et : (g' 130 (g 146 (rd_k z).toNat).toNat).toNat = (g 130 (g 146 (rd_k z).toNat).toNat).toNat + 1 := by omega
        refine ⟨p1, p2, by omega, by omega, by rw [et, q3]; decide, p6, p7, fun j hj => ?_⟩
        by_cases ej : (j : Int) < g 130 (g 146 (rd_k z).toNat).toNat
        · obtain ⟨b1, b2, b3, b4⟩ := p8 j ej
          rw [q1 j ej, za, zo _ b2, zi _ b2]
          exact ⟨b1, by omega, b3, b4⟩
        · have ej2 : j = (g 130 (g 146 (rd_k z).toNat).toNat).toNat := by omega
          rw [ej2, q2, za, zoA, ziA]
          exact ⟨n5, by omega, rfl, by omega⟩
    · obtain ⟨o1, o2⟩ := oth f h0 h1 hne
      have hf := i2 f h0 h1
      rw [if_neg (fun c => hne c.2)] at hf
      obtain ⟨p1, p2, p3, p4, p5, p6, p7, p8⟩ := hf
      refine ⟨p1, p2, by omega, by omega, by rw [o1, o2 _ (by omega)]; exact p5, p6, p7, fun j hj => ?_⟩
      rw [o1] at hj
      obtain ⟨b1, b2, b3, b4⟩ := p8 j hj
      rw [o2 j (by omega), za, zo _ b2, zi _ b2]
      exact ⟨b1, by omega, b3, b4⟩
  · unfold rd_alt
    rw [za] at h1
    by_cases ha : a = rd_a z
    · rw [h126, if_pos (by rw [ha])]
      exact Or.inl (by decide)
    · rw [h126, if_neg (by omega), zo a (by omega)]
      exact i3 a h0 (by omega)
  · rw [zk] at h1
    have hl := i4 i h0 h1
    obtain ⟨⟨t0, t1, t2, t3⟩, r2, r3⟩ := hl
    have etop : rd_top g' Y (rd_zb g z) i = rd_top g Y z i := by
      unfold rd_top
      rw [zk, e148]
    unfold rd_lev
    simp only [e124, e125, e146, e148, etop, zk, za]
    by_cases hik : i = rd_k z
    · subst hik
      have eA : g' 147 (rd_k z).toNat = rd_a z := by rw [h147, if_pos rfl]
      have ec : g' 130 (g 146 (rd_k z).toNat).toNat = g 130 (g 146 (rd_k z).toNat).toNat + 1 := by rw [h130, if_pos rfl]
      refine ⟨⟨t0, t1, t2, t3⟩, fun _ => ⟨by omega, by omega, ?_⟩, r3, fun c => ?_, fun c => ?_, ?_⟩
      · rw [eA, ec]
        by_cases c0 : g 130 (g 146 (rd_k z).toNat).toNat = 0
        · obtain ⟨q1, -⟩ := rd_ch_0 (oa := g 147 (rd_k z).toNat) n5 c0 h128 (by rw [h129, if_pos ⟨c0, rfl⟩])
          rw [c0]
          exact q1.symm
        · have := ff.2.2.2.1
          obtain ⟨a1, a2, a3⟩ := l2 (by omega)
          obtain ⟨-, q2, -⟩ := rd_ch_1 (i2 _ t0 t1) rfl (by omega) h128 (by rw [h129, if_neg (fun c => c0 c.1)]) a3
          have et : (g 130 (g 146 (rd_k z).toNat).toNat + 1).toNat - 1 = (g 130 (g 146 (rd_k z).toNat).toNat).toNat := by omega
          rw [et]
          exact q2.symm
      · rw [h149, if_pos rfl] at c
        exact absurd c (by decide)
      · rw [h151, if_pos rfl] at c
        exact absurd rfl c
      · rw [h150, if_pos rfl]
        omega
    · have hne : g 146 i.toNat ≠ g 146 (rd_k z).toNat := fun e => by
        rw [e, f2] at t2
        omega
      obtain ⟨o1, o2⟩ := oth _ t0 t1 hne
      have ei : ¬ i.toNat = (rd_k z).toNat := by omega
      obtain ⟨-, -, -, r4, r5, r6⟩ := i4b i h0 (by omega)
      rw [h147, if_neg ei, h149, if_neg ei, h150, if_neg ei, h151, if_neg ei, o1]
      refine ⟨⟨t0, t1, t2, t3⟩, fun c => ?_, r3, r4, r5, r6⟩
      obtain ⟨a1, a2, a3⟩ := r2 c
      refine ⟨a1, by omega, ?_⟩
      rw [o2 _ (by omega)]
      exact a3
  · have := i5 i h0 h1
    unfold rd_grp at this ⊢
    simp only [e119, e120, e124, e125, e146, e148]
    exact this
end RDB
/-! reading: a unit is put -/
section RDP
variable {g g' : wk_g} {Y : wk_Y} {z : rd_Z} {m u : Int}
/-- a unit that stands nowhere yet -/
def rd_loose (g : wk_g) (Y : wk_Y) (z : rd_Z) (u : Int) : Prop := 0 ≤ u ∧ u < wk_u Y ∧ wk_c Y u = g 146 (rd_k z).toNat ∧ wk_e Y u ≤ wk_u Y ∧ g 124 u.toNat < 0 ∧ g 125 u.toNat < 0 ∧ (∀ w, 0 ≤ w → w < wk_u Y → g 124 w.toNat ≠ u) ∧ (0 ≤ g 149 (rd_k z).toNat → wk_e Y (g 149 (rd_k z).toNat) ≤ u ∧ (0 ≤ g 124 (g 149 (rd_k z).toNat).toNat → wk_e Y (g 124 (g 149 (rd_k z).toNat).toNat) ≤ u))
theorem rd_put (hI : rd_I g Y z m) (hk : 0 ≤ rd_k z) (hu : rd_loose g Y z u) (hc : 0 < g 130 (g 146 (rd_k z).toNat).toNat)
    (s : ∀ j, j ∈ [119, 120, 128, 129, 130, 146, 147, 148] → ∀ i, g' j i = g j i)
    (h124 : ∀ i : Nat, g' 124 i = if g 151 (rd_k z).toNat ≠ 0 ∧ i = (g 149 (rd_k z).toNat).toNat then u else g 124 i)
    (h125 : ∀ i : Nat, g' 125 i = if g 151 (rd_k z).toNat = 0 ∧ 0 ≤ g 149 (rd_k z).toNat ∧ i = (g 149 (rd_k z).toNat).toNat then u else g 125 i)
    (h126 : ∀ i : Nat, g' 126 i = if g 151 (rd_k z).toNat = 0 ∧ g 149 (rd_k z).toNat < 0 ∧ i = (g 147 (rd_k z).toNat).toNat then u else g 126 i)
    (h149 : ∀ i : Nat, g' 149 i = if g 151 (rd_k z).toNat = 0 ∧ i = (rd_k z).toNat then u else g 149 i)
    (h150 : ∀ i : Nat, g' 150 i = if i = (rd_k z).toNat then u else g 150 i)
    (h151 : ∀ i : Nat, g' 151 i = if i = (rd_k z).toNat then 0 else g 151 i) : rd_I g' Y z m := by
  obtain ⟨nn, i1, i2, i3, i4, i5⟩ := hI
  obtain ⟨u0, u1, u2, u3, u4, u5, u6, u7⟩ := hu
  have e119 := s 119 (by decide)
  have e120 := s 120 (by decide)
  have e128 := s 128 (by decide)
  have e129 := s 129 (by decide)
  have e130 := s 130 (by decide)
  have e146 := s 146 (by decide)
  have e147 := s 147 (by decide)
  have e148 := s 148 (by decide)
  obtain ⟨⟨f0, f1, f2, f3⟩, l2, l3, l4, l5, l6⟩ := i4 (rd_k z) hk (Int.le_refl _)
  obtain ⟨a1, a2, a3⟩ := l2 hc
  have ff := i2 _ f0 f1
  have how : rd_ow z (g 147 (rd_k z).toNat) = g 146 (rd_k z).toNat := by
    obtain ⟨-, -, b3, -⟩ := ff.2.2.2.2.2.2.2 ((g 130 (g 146 (rd_k z).toNat).toNat).toNat - 1) (by omega)
    rw [← a3] at b3
    exact b3
  have top : rd_top g Y z (rd_k z) = wk_u Y := if_neg (Int.lt_irrefl _)
  -- the last item
  have lu : 0 ≤ g 149 (rd_k z).toNat → g 149 (rd_k z).toNat < u := fun c => by
    obtain ⟨x1, -⟩ := l4 c
    have := (i1 _ c x1).1.1
    have := (u7 c).1
    omega
  have alts : ∀ n a, wk_alt g' n a = wk_alt g n a := by
    intro n
    induction n with
    | zero => intro a; rfl
    | succ n ih =>
      intro a
      show wk_alt g' n (g' 128 a.toNat) = wk_alt g n (g 128 a.toNat)
      rw [e128, ih]
  have dis : ∀ i, 0 ≤ i → i ≤ rd_k z → i ≠ rd_k z → g 146 i.toNat ≠ g 146 (rd_k z).toNat := fun i h0 h1 hne e => by
    obtain ⟨⟨-, -, t2, -⟩, -⟩ := i4 i h0 h1
    rw [e, f2] at t2
    omega
  -- what is not of this form is not touched
  have k124 : ∀ w, 0 ≤ w → (0 ≤ g 149 (rd_k z).toNat → w ≠ g 149 (rd_k z).toNat) → g' 124 w.toNat = g 124 w.toNat := fun w h0 hw => by
    rw [h124]
    by_cases c : g 151 (rd_k z).toNat ≠ 0 ∧ w.toNat = (g 149 (rd_k z).toNat).toNat
    · exfalso
      have p := (l5 c.1).1
      exact hw p (by have := c.2; omega)
    · rw [if_neg c]
  have k125 : ∀ w, 0 ≤ w → (0 ≤ g 149 (rd_k z).toNat → w ≠ g 149 (rd_k z).toNat) → g' 125 w.toNat = g 125 w.toNat := fun w h0 hw => by
    rw [h125]
    by_cases c : g 151 (rd_k z).toNat = 0 ∧ 0 ≤ g 149 (rd_k z).toNat ∧ w.toNat = (g 149 (rd_k z).toNat).toNat
    · exfalso
      exact hw c.2.1 (by have := c.2; omega)
    · rw [if_neg c]
  have v124 : ∀ w : Int, g' 124 w.toNat = u ∨ g' 124 w.toNat = g 124 w.toNat := fun w => by
    rw [h124]
    split
    · exact Or.inl rfl
    · exact Or.inr rfl
  refine ⟨nn, fun w h0 h1 => ?_, fun f h0 h1 => ?_, fun a h0 h1 => ?_, fun i h0 h1 => ?_, fun i h0 h1 => ?_⟩
  · obtain ⟨p1, p2, p3, p4, p5, p6⟩ := i1 w h0 h1
    unfold rd_unit
    simp only [e119, e120]
    by_cases hw : 0 ≤ g 149 (rd_k z).toNat ∧ w = g 149 (rd_k z).toNat
    · obtain ⟨hl0, rfl⟩ := hw
      obtain ⟨x1, x2, x3, x4, x5, x6⟩ := l4 hl0
      have ltu := lu hl0
      have ku4 : g' 124 u.toNat = g 124 u.toNat := k124 u u0 (fun _ => by omega)
      refine ⟨p1, fun c => ?_, fun c => ?_, p4, p5, p6⟩
      · by_cases cs : g 151 (rd_k z).toNat ≠ 0
        · have e : g' 124 (g 149 (rd_k z).toNat).toNat = u := by rw [h124, if_pos ⟨cs, rfl⟩]
          rw [e, ku4]
          exact ⟨u1, u2.trans x2.symm, (u7 hl0).1, u4⟩
        · have e : g' 124 (g 149 (rd_k z).toNat).toNat = g 124 (g 149 (rd_k z).toNat).toNat := by rw [h124, if_neg (fun z => cs z.1)]
          rw [e] at c ⊢
          obtain ⟨y1, y2, y3, y4⟩ := p2 c
          refine ⟨y1, y2, y3, ?_⟩
          rw [h124, if_neg (fun z => cs z.1)]
          exact y4
      · by_cases cs : g 151 (rd_k z).toNat = 0
        · have e : g' 125 (g 149 (rd_k z).toNat).toNat = u := by rw [h125, if_pos ⟨cs, hl0, rfl⟩]
          have e4 : g' 124 (g 149 (rd_k z).toNat).toNat = g 124 (g 149 (rd_k z).toNat).toNat := by rw [h124, if_neg (fun z => z.1 cs)]
          rw [e, e4]
          exact ⟨u1, u2.trans x2.symm, (u7 hl0).1, (u7 hl0).2⟩
        · exfalso
          rw [h125, if_neg (fun z => cs z.1)] at c
          omega
    · have hw' : 0 ≤ g 149 (rd_k z).toNat → w ≠ g 149 (rd_k z).toNat := fun a b => hw ⟨a, b⟩
      rw [k124 w h0 hw', k125 w h0 hw']
      refine ⟨p1, fun c => ?_, p3, p4, p5, p6⟩
      obtain ⟨y1, y2, y3, y4⟩ := p2 c
      refine ⟨y1, y2, y3, ?_⟩
      rw [k124 _ c (fun hl0 => (l4 hl0).2.2.2.2.2 w h0 h1)]
      exact y4
  · have hf := i2 f h0 h1
    unfold rd_form at hf ⊢
    simp only [e129, e130, e146, alts]
    exact hf
  · unfold rd_alt
    rw [h126]
    by_cases c : g 151 (rd_k z).toNat = 0 ∧ g 149 (rd_k z).toNat < 0 ∧ a.toNat = (g 147 (rd_k z).toNat).toNat
    · rw [if_pos c]
      have ea : a = g 147 (rd_k z).toNat := by have := c.2.2; omega
      rw [ea, how]
      exact Or.inr ⟨u1, u2⟩
    · rw [if_neg c]
      exact i3 a h0 h1
  · obtain ⟨⟨t0, t1, t2, t3⟩, r2, r3, r4, r5, r6⟩ := i4 i h0 h1
    have etop : rd_top g' Y z i = rd_top g Y z i := by
      unfold rd_top
      rw [e148]
    unfold rd_lev
    simp only [e129, e130, e146, e147, e148, etop, alts]
    by_cases hik : i = rd_k z
    · subst hik
      refine ⟨⟨t0, t1, t2, t3⟩, r2, r3, fun c => ?_, fun c => ?_, ?_⟩
      · by_cases cs : g 151 (rd_k z).toNat = 0
        · have e : g' 149 (rd_k z).toNat = u := by rw [h149, if_pos ⟨cs, rfl⟩]
          have ku4 : g' 124 u.toNat = g 124 u.toNat := by rw [h124, if_neg (fun z => z.1 cs)]
          rw [e, top, k125 u u0 (fun p => by have := lu p; omega), ku4]
          refine ⟨u1, u2, u3, u5, fun z => by omega, fun w x0 x1 => ?_⟩
          rw [h124, if_neg (fun z => z.1 cs)]
          exact u6 w x0 x1
        · have e : g' 149 (rd_k z).toNat = g 149 (rd_k z).toNat := by rw [h149, if_neg (fun z => cs z.1)]
          rw [e] at c ⊢
          obtain ⟨x1, x2, x3, x4, x5, x6⟩ := l4 c
          have em : g' 124 (g 149 (rd_k z).toNat).toNat = u := by rw [h124, if_pos ⟨cs, rfl⟩]
          have en : g' 125 (g 149 (rd_k z).toNat).toNat = g 125 (g 149 (rd_k z).toNat).toNat := by rw [h125, if_neg (fun z => cs z.1)]
          rw [em, en, top]
          rw [top] at x3
          refine ⟨x1, x2, x3, x4, fun _ => u3, fun w y0 y1 => ?_⟩
          rcases v124 w with e2 | e2
          · rw [e2]
            have := lu c
            omega
          · rw [e2]
            exact x6 w y0 y1
      · rw [h151, if_pos rfl] at c
        exact absurd rfl c
      · rw [h150, if_pos rfl]
        exact u1
    · have ei : ¬ i.toNat = (rd_k z).toNat := by omega
      have hne := dis i h0 h1 hik
      have e149 : g' 149 i.toNat = g 149 i.toNat := by rw [h149, if_neg (fun z => ei z.2)]
      rw [e149, h150, if_neg ei, h151, if_neg ei]
      have off : 0 ≤ g 149 i.toNat → 0 ≤ g 149 (rd_k z).toNat → g 149 i.toNat ≠ g 149 (rd_k z).toNat := fun a b e => by
        have x := (r4 a).2.1
        rw [e, (l4 b).2.1] at x
        exact hne x.symm
      refine ⟨⟨t0, t1, t2, t3⟩, r2, r3, fun c => ?_, fun c => ?_, r6⟩
      · obtain ⟨x1, x2, x3, x4, x5, x6⟩ := r4 c
        rw [k124 _ c (off c), k125 _ c (off c)]
        refine ⟨x1, x2, x3, x4, x5, fun w y0 y1 => ?_⟩
        rcases v124 w with e2 | e2
        · rw [e2]
          intro e
          rw [← e, u2] at x2
          exact hne x2.symm
        · rw [e2]
          exact x6 w y0 y1
      · obtain ⟨x1, x2⟩ := r5 c
        rw [k124 _ x1 (off x1)]
        exact ⟨x1, x2⟩
  · obtain ⟨x1, x2, x3, x4, x5, x6, x7, x8, x9, x10⟩ := i5 i h0 h1
    have hne := dis (i - 1) (by omega) (by omega) (by omega)
    have off : 0 ≤ g 149 (rd_k z).toNat → g 148 i.toNat ≠ g 149 (rd_k z).toNat := fun b e => by
      rw [e, (l4 b).2.1] at x3
      exact hne x3.symm
    unfold rd_grp
    simp only [e119, e120, e146, e148]
    rw [k124 _ x1 off, k125 _ x1 off]
    refine ⟨x1, x2, x3, x4, x5, x6, x7, x8, x9, fun w y0 y1 => ?_⟩
    rcases v124 w with e2 | e2
    · rw [e2]
      intro e
      rw [← e, u2] at x3
      exact hne x3.symm
    · rw [e2]
      exact x10 w y0 y1
end RDP
/-! reading: a plain unit comes -/
section RDN
variable {g g' : wk_g} {Y : wk_Y} {z : rd_Z} {m : Int}
def rd_yp (g : wk_g) (Y : wk_Y) (z : rd_Z) : wk_Y := (fun w => if w = wk_u Y then wk_u Y + 1 else wk_e Y w, fun w => if w = wk_u Y then g 146 (rd_k z).toNat else wk_c Y w, fun f => wk_b Y f, fun f => wk_x Y f, fun f => wk_d Y f, wk_u Y + 1, wk_f Y)
theorem rd_plain (hI : rd_I g Y z m) (hk : 0 ≤ rd_k z) (hU : wk_u Y < 60)
    (s : ∀ j, j ∈ [126, 128, 129, 130, 146, 147, 148, 149, 150, 151] → ∀ i, g' j i = g j i)
    (s119 : ∀ i : Nat, i ≠ (wk_u Y).toNat → g' 119 i = g 119 i) (s120 : ∀ i : Nat, i ≠ (wk_u Y).toNat → g' 120 i = g 120 i)
    (h124 : ∀ i : Nat, g' 124 i = if i = (wk_u Y).toNat then -1 else g 124 i) (h125 : ∀ i : Nat, g' 125 i = if i = (wk_u Y).toNat then -1 else g 125 i)
    (n10 : g' 119 (wk_u Y).toNat ≠ 10) (n9 : g' 119 (wk_u Y).toNat = 9 → 0 ≤ g' 120 (wk_u Y).toNat ∧ g' 120 (wk_u Y).toNat < 26) (n8 : g' 119 (wk_u Y).toNat = 8 → 0 ≤ g' 120 (wk_u Y).toNat ∧ g' 120 (wk_u Y).toNat < 20)
    (hb : wk_b Y (g 146 (rd_k z).toNat) < wk_u Y) : rd_I g' (rd_yp g Y z) z m ∧ rd_loose g' (rd_yp g Y z) z (wk_u Y) := by
  obtain ⟨⟨n1, n2, n3, n4, n5, n6, n7⟩, i1, i2, i3, i4, i5⟩ := hI
  have e126 := s 126 (by decide)
  have e128 := s 128 (by decide)
  have e129 := s 129 (by decide)
  have e130 := s 130 (by decide)
  have e146 := s 146 (by decide)
  have e147 := s 147 (by decide)
  have e148 := s 148 (by decide)
  have e149 := s 149 (by decide)
  have e150 := s 150 (by decide)
  have e151 := s 151 (by decide)
  obtain ⟨⟨f0, f1, f2, f3⟩, l2, l3, l4, l5, l6⟩ := i4 (rd_k z) hk (Int.le_refl _)
  have yu : wk_u (rd_yp g Y z) = wk_u Y + 1 := rfl
  have yf : wk_f (rd_yp g Y z) = wk_f Y := rfl
  have yb : ∀ f, wk_b (rd_yp g Y z) f = wk_b Y f := fun _ => rfl
  have yx : ∀ f, wk_x (rd_yp g Y z) f = wk_x Y f := fun _ => rfl
  have yd : ∀ f, wk_d (rd_yp g Y z) f = wk_d Y f := fun _ => rfl
  have ye : ∀ w, w < wk_u Y → wk_e (rd_yp g Y z) w = wk_e Y w := fun w h => if_neg (show ¬ w = wk_u Y by omega)
  have yc : ∀ w, w < wk_u Y → wk_c (rd_yp g Y z) w = wk_c Y w := fun w h => if_neg (show ¬ w = wk_u Y by omega)
  have yeU : wk_e (rd_yp g Y z) (wk_u Y) = wk_u Y + 1 := if_pos rfl
  have ycU : wk_c (rd_yp g Y z) (wk_u Y) = g 146 (rd_k z).toNat := if_pos rfl
  have k124 : ∀ w, 0 ≤ w → w < wk_u Y → g' 124 w.toNat = g 124 w.toNat := fun w a b => by rw [h124, if_neg (by omega)]
  have k125 : ∀ w, 0 ≤ w → w < wk_u Y → g' 125 w.toNat = g 125 w.toNat := fun w a b => by rw [h125, if_neg (by omega)]
  have U124 : g' 124 (wk_u Y).toNat = -1 := by rw [h124, if_pos rfl]
  have U125 : g' 125 (wk_u Y).toNat = -1 := by rw [h125, if_pos rfl]
  have alts : ∀ n a, wk_alt g' n a = wk_alt g n a := by
    intro n
    induction n with
    | zero => intro a; rfl
    | succ n ih =>
      intro a
      show wk_alt g' n (g' 128 a.toNat) = wk_alt g n (g 128 a.toNat)
      rw [e128, ih]
  have tops : ∀ i, i ≤ rd_k z → rd_top g Y z i ≤ rd_top g' (rd_yp g Y z) z i ∧ (i < rd_k z → rd_top g' (rd_yp g Y z) z i = rd_top g Y z i) := fun i h => by
    unfold rd_top
    rw [e148, yu]
    by_cases c : i < rd_k z
    · rw [if_pos c, if_pos c]
      exact ⟨Int.le_refl _, fun _ => rfl⟩
    · rw [if_neg c, if_neg c]
      exact ⟨by omega, fun x => absurd x c⟩
  have m124 : ∀ (v : Int), 0 ≤ v → (∀ w, 0 ≤ w → w < wk_u Y → g 124 w.toNat ≠ v) → ∀ w, 0 ≤ w → w < wk_u Y + 1 → g' 124 w.toNat ≠ v := fun v v0 hv w w0 w1 => by
    by_cases c : w = wk_u Y
    · rw [c, U124]
      omega
    · rw [k124 w w0 (by omega)]
      exact hv w w0 (by omega)
  refine ⟨⟨⟨by rw [yu]; omega, by rw [yu]; omega, n3, n4, n5, n6, n7⟩, fun w h0 h1 => ?_, fun f h0 h1 => ?_, fun a h0 h1 => ?_, fun i h0 h1 => ?_, fun i h0 h1 => ?_⟩, ?_⟩
  · rw [yu] at h1
    unfold rd_unit
    by_cases c : w = wk_u Y
    · subst c
      rw [U124, U125, yeU, ycU, yx, yb, f3, yf]
      exact ⟨⟨by omega, by omega, hb, f0, f1⟩, fun x => absurd x (by decide), fun x => absurd x (by decide), n9, fun x => absurd x n10, n8⟩
    · have hw : w < wk_u Y := by omega
      obtain ⟨p1, p2, p3, p4, p5, p6⟩ := i1 w h0 hw
      rw [k124 w h0 hw, k125 w h0 hw, s119 w.toNat (by omega), s120 w.toNat (by omega), ye w hw, yc w hw, yx, yb, yf]
      refine ⟨p1, fun x => ?_, fun x => ?_, p4, fun x => ?_, p6⟩
      · obtain ⟨y1, y2, y3, y4⟩ := p2 x
        rw [yu, yc _ y1, k124 _ x y1]
        exact ⟨by omega, y2, y3, y4⟩
      · obtain ⟨y1, y2, y3, y4⟩ := p3 x
        rw [yu, yc _ y1]
        refine ⟨by omega, y2, y3, fun q => ?_⟩
        rw [ye _ (p2 q).1]
        exact y4 q
      · rw [yx, yb, yd, yd]
        exact p5 x
  · have hf := i2 f h0 h1
    unfold rd_form at hf ⊢
    simp only [e129, e130, e146, alts, yd, yb, yx]
    exact hf
  · unfold rd_alt
    rw [e126, yu]
    by_cases c : g 126 a.toNat < 0
    · exact Or.inl c
    · rcases i3 a h0 h1 with x | x
      · exact absurd x c
      · rw [yc _ x.1]
        exact Or.inr ⟨by omega, x.2⟩
  · obtain ⟨⟨t0, t1, t2, t3⟩, r2, r3, r4, r5, r6⟩ := i4 i h0 h1
    obtain ⟨tp1, tp2⟩ := tops i h1
    unfold rd_lev
    simp only [e129, e130, e146, e147, e148, e149, e150, e151, alts, yd, yx, yf]
    refine ⟨⟨t0, t1, t2, t3⟩, r2, fun w w0 w1 wc => ?_, fun c => ?_, fun c => ?_, by rw [yu]; omega⟩
    · rw [yu] at w1
      by_cases c : w = wk_u Y
      · subst c
        rw [ycU] at wc
        have ei : i = rd_k z := by
          rw [← wc, f2] at t2
          exact t2.symm
        subst ei
        refine Or.inl ?_
        rw [yeU]
        unfold rd_top
        rw [if_neg (Int.lt_irrefl _), yu]
        exact Int.le_refl _
      · have hw : w < wk_u Y := by omega
        rw [yc w hw] at wc
        rw [ye w hw]
        rcases r3 w w0 hw wc with x | x
        · exact Or.inl (by omega)
        · exact Or.inr x
    · obtain ⟨x1, x2, x3, x4, x5, x6⟩ := r4 c
      rw [k124 _ c x1, k125 _ c x1, yu, yc _ x1, ye _ x1]
      refine ⟨by omega, x2, by omega, x4, fun q => ?_, m124 _ c x6⟩
      obtain ⟨y1, -⟩ := (i1 _ c x1).2.1 q
      rw [ye _ y1]
      have := x5 q
      omega
    · obtain ⟨x1, x2⟩ := r5 c
      rw [k124 _ x1 (r4 x1).1]
      exact ⟨x1, x2⟩
  · obtain ⟨x1, x2, x3, x4, x5, x6, x7, x8, x9, x10⟩ := i5 i h0 h1
    unfold rd_grp
    simp only [e146, e148, yb]
    rw [k124 _ x1 x2, k125 _ x1 x2, s119 _ (by omega), s120 _ (by omega), yc _ x2, ye _ x2, yu]
    exact ⟨x1, by omega, x3, x4, x5, x6, x7, x8, x9, m124 _ x1 x10⟩
  · unfold rd_loose
    rw [yu, ycU, yeU, e146, e149, U124, U125]
    refine ⟨n1, by omega, rfl, Int.le_refl _, by decide, by decide, fun w w0 w1 => ?_, fun c => ?_⟩
    · by_cases cw : w = wk_u Y
      · rw [cw, U124]
        omega
      · rw [k124 w w0 (by omega)]
        intro e
        have := ((i1 w w0 (by omega)).2.1 (by omega)).1
        omega
    · obtain ⟨x1, x2, x3, x4, x5, x6⟩ := l4 c
      have top : rd_top g Y z (rd_k z) = wk_u Y := if_neg (Int.lt_irrefl _)
      rw [top] at x3 x5
      rw [ye _ x1, k124 _ c x1]
      refine ⟨x3, fun q => ?_⟩
      rw [ye _ ((i1 _ c x1).2.1 q).1]
      exact x5 q
end RDN
/-! reading: a group is closed -/
section RDK
variable {g : wk_g} {Y : wk_Y} {z : rd_Z}
def rd_yk (g : wk_g) (Y : wk_Y) (z : rd_Z) : wk_Y := (fun w => if w = g 148 (rd_k z).toNat then wk_u Y else wk_e Y w, fun w => wk_c Y w, fun f => wk_b Y f, fun f => if f = g 146 (rd_k z).toNat then wk_u Y else wk_x Y f, fun f => wk_d Y f, wk_u Y, wk_f Y)
def rd_zk (z : rd_Z) : rd_Z := (fun a => rd_ow z a, fun a => rd_ix z a, rd_a z, rd_k z - 1)
theorem rd_close (hI : rd_I g Y z 1) (hk : 1 ≤ rd_k z) : rd_I g (rd_yk g Y z) (rd_zk z) 1 ∧ rd_loose g (rd_yk g Y z) (rd_zk z) (g 148 (rd_k z).toNat) := by
  obtain ⟨⟨n1, n2, n3, n4, n5, n6, n7⟩, i1, i2, i3, i4, i5⟩ := hI
  obtain ⟨⟨f0, f1, f2, f3⟩, l2, l3, l4, l5, l6⟩ := i4 (rd_k z) (by omega) (Int.le_refl _)
  obtain ⟨⟨c0, c1, c2, c3⟩, m2, m3, m4, m5, m6⟩ := i4 (rd_k z - 1) (by omega) (by omega)
  obtain ⟨x1, x2, x3, x4, x5, x6, x7, x8, x9, x10⟩ := i5 (rd_k z) hk (Int.le_refl _)
  have top : rd_top g Y z (rd_k z) = wk_u Y := if_neg (Int.lt_irrefl _)
  have top1 : rd_top g Y z (rd_k z - 1) = g 148 (rd_k z).toNat := by
    unfold rd_top
    rw [if_pos (by omega), show rd_k z - 1 + 1 = rd_k z from by omega]
  have yu : wk_u (rd_yk g Y z) = wk_u Y := rfl
  have yf : wk_f (rd_yk g Y z) = wk_f Y := rfl
  have yb : ∀ f, wk_b (rd_yk g Y z) f = wk_b Y f := fun _ => rfl
  have yd : ∀ f, wk_d (rd_yk g Y z) f = wk_d Y f := fun _ => rfl
  have yc : ∀ w, wk_c (rd_yk g Y z) w = wk_c Y w := fun _ => rfl
  have ye : ∀ w, w ≠ g 148 (rd_k z).toNat → wk_e (rd_yk g Y z) w = wk_e Y w := fun w h => if_neg h
  have yeU : wk_e (rd_yk g Y z) (g 148 (rd_k z).toNat) = wk_u Y := if_pos rfl
  have yx : ∀ f, f ≠ g 146 (rd_k z).toNat → wk_x (rd_yk g Y z) f = wk_x Y f := fun f h => if_neg h
  have yxU : wk_x (rd_yk g Y z) (g 146 (rd_k z).toNat) = wk_u Y := if_pos rfl
  have zk : rd_k (rd_zk z) = rd_k z - 1 := rfl
  have za : rd_a (rd_zk z) = rd_a z := rfl
  have zo : ∀ a, rd_ow (rd_zk z) a = rd_ow z a := fun _ => rfl
  have zi : ∀ a, rd_ix (rd_zk z) a = rd_ix z a := fun _ => rfl
  have dis : ∀ i j, 0 ≤ i → i ≤ rd_k z → 0 ≤ j → j ≤ rd_k z → i ≠ j → g 146 i.toNat ≠ g 146 j.toNat := fun i j h0 h1 h2 h3 hne e => by
    obtain ⟨⟨-, -, t2, -⟩, -⟩ := i4 i h0 h1
    obtain ⟨⟨-, -, s2, -⟩, -⟩ := i4 j h2 h3
    rw [e, s2] at t2
    omega
  have hfk : g 146 (rd_k z - 1).toNat ≠ g 146 (rd_k z).toNat := dis _ _ (by omega) (by omega) (by omega) (by omega) (by omega)
  have xle : ∀ f, 0 ≤ f → f < wk_f Y → wk_x (rd_yk g Y z) f ≤ 60 ∧ (f ≠ g 146 (rd_k z).toNat ∨ wk_x Y f = 60) := fun f h0 h1 => by
    by_cases c : f = g 146 (rd_k z).toNat
    · subst c
      rw [yxU]
      exact ⟨n2, Or.inr f3⟩
    · rw [yx f c]
      exact ⟨(i2 f h0 h1).2.2.2.2.2.2.1, Or.inl c⟩
  refine ⟨⟨⟨n1, n2, n3, n4, n5, n6, by rw [zk]; omega⟩, fun w h0 h1 => ?_, fun f h0 h1 => ?_, fun a h0 h1 => i3 a h0 h1, fun i h0 h1 => ?_, fun i h0 h1 => ?_⟩, ?_⟩
  · rw [yu] at h1
    obtain ⟨⟨p1, p1b, p1c, p1d, p1e⟩, p2, p3, p4, p5, p6⟩ := i1 w h0 h1
    unfold rd_unit
    simp only [yc, yu, yf, yb, yd]
    have x5' : g 119 w.toNat = 10 → wk_x (rd_yk g Y z) (g 120 w.toNat) ≤ wk_x Y (g 120 w.toNat) := fun c => by
      obtain ⟨q1, q2, -⟩ := p5 c
      by_cases e : g 120 w.toNat = g 146 (rd_k z).toNat
      · rw [e, yxU, f3]
        exact n2
      · rw [yx _ e]
        exact Int.le_refl _
    by_cases c : w = g 148 (rd_k z).toNat
    · subst c
      rw [yeU, x3, yx _ hfk, c3]
      rw [x3] at p1c p1d p1e
      refine ⟨⟨x2, n2, p1c, p1d, p1e⟩, fun q => by omega, fun q => by omega, p4, fun q => ?_, p6⟩
      obtain ⟨q1, q2, q3, q4⟩ := p5 q
      rw [x3] at q4
      refine ⟨q1, q2, ?_, q4⟩
      rw [x5, yxU, x7]
      exact Int.le_refl _
    · rw [ye w c]
      refine ⟨⟨p1, ?_, p1c, p1d, p1e⟩, p2, fun q => ?_, p4, fun q => ?_, p6⟩
      · by_cases e : wk_c Y w = g 146 (rd_k z).toNat
        · rw [e, yxU]
          rcases l3 w h0 h1 e with y | y
          · rw [top] at y
            exact y
          · exfalso; omega
        · rw [yx _ e]
          exact p1b
      · obtain ⟨q1, q2, q3, q4⟩ := p3 q
        refine ⟨q1, q2, q3, fun r => ?_⟩
        rw [ye _ (x10 w h0 h1)]
        exact q4 r
      · obtain ⟨q1, q2, q3, q4⟩ := p5 q
        have := x5' q
        exact ⟨q1, q2, by omega, q4⟩
  · have hf := i2 f h0 h1
    rw [show (if 0 ≤ rd_k z ∧ f = g 146 (rd_k z).toNat then (1 : Int) else 1) = 1 from by split <;> rfl] at hf
    rw [show (if 0 ≤ rd_k (rd_zk z) ∧ f = g 146 (rd_k (rd_zk z)).toNat then (1 : Int) else 1) = 1 from by split <;> rfl]
    obtain ⟨p1, p2, p3, p4, p5, p6, p7, p8⟩ := hf
    refine ⟨p1, p2, p3, p4, p5, ?_, (xle f h0 h1).1, p8⟩
    by_cases c : f = g 146 (rd_k z).toNat
    · subst c
      rw [yxU, yb, x7]
      exact x2
    · rw [yx f c, yb]
      exact p6
  · rw [zk] at h1
    obtain ⟨⟨t0, t1, t2, t3⟩, r2, r3, r4, r5, r6⟩ := i4 i h0 (by omega)
    have hne : g 146 i.toNat ≠ g 146 (rd_k z).toNat := dis _ _ h0 (by omega) (by omega) (by omega) (by omega)
    have tops : rd_top g Y z i ≤ rd_top g (rd_yk g Y z) (rd_zk z) i ∧ (i < rd_k z - 1 → rd_top g (rd_yk g Y z) (rd_zk z) i = rd_top g Y z i) ∧ (i = rd_k z - 1 → rd_top g (rd_yk g Y z) (rd_zk z) i = wk_u Y) := by
      by_cases c : i < rd_k z - 1
      · have e : rd_top g (rd_yk g Y z) (rd_zk z) i = rd_top g Y z i := by
          unfold rd_top
          rw [zk, if_pos c, if_pos (by omega)]
        exact ⟨by omega, fun _ => e, fun q => by omega⟩
      · have ei : i = rd_k z - 1 := by omega
        have e : rd_top g (rd_yk g Y z) (rd_zk z) i = wk_u Y := by
          unfold rd_top
          rw [zk, if_neg c]
          rfl
        refine ⟨?_, fun q => absurd q c, fun _ => e⟩
        rw [e, ei, top1]
        omega
    have nu : ∀ l, 0 ≤ l → l < wk_u Y → wk_c Y l = g 146 i.toNat → wk_e Y l ≤ rd_top g Y z i → l ≠ g 148 (rd_k z).toNat := fun l l0 l1 lc le e => by
      have := (i1 l l0 l1).1.1
      rw [e, x3] at lc
      by_cases c : i = rd_k z - 1
      · subst c
        rw [top1] at le
        omega
      · exact dis _ _ (by omega) (by omega) h0 (by omega) (fun q => c q.symm) lc
    unfold rd_lev
    simp only [yc, yu, yf, yd, za]
    refine ⟨⟨t0, t1, t2, by rw [yx _ hne]; exact t3⟩, r2, fun w w0 w1 wc => ?_, fun c => ?_, r5, r6⟩
    · by_cases e : w = g 148 (rd_k z).toNat
      · subst e
        rw [x3] at wc
        have ei : i = rd_k z - 1 := by
          rw [← wc, c2] at t2
          exact t2.symm
        rw [yeU, tops.2.2 ei]
        exact Or.inl (Int.le_refl _)
      · rw [ye w e]
        rcases r3 w w0 w1 wc with y | y
        · exact Or.inl (by omega)
        · by_cases c : i < rd_k z - 1
          · exact Or.inr ⟨by rw [zk]; exact c, y.2⟩
          · exfalso
            have ei : i + 1 = rd_k z := by omega
            rw [ei] at y
            exact e y.2
    · obtain ⟨y1, y2, y3, y4, y5, y6⟩ := r4 c
      rw [ye _ (nu _ c y1 y2 y3)]
      refine ⟨y1, y2, by omega, y4, fun q => ?_, y6⟩
      rw [ye _ (x10 _ c y1)]
      have := y5 q
      omega
  · rw [zk] at h1
    obtain ⟨y1, y2, y3, y4, y5, y6, y7, y8, y9, y10⟩ := i5 i h0 (by omega)
    have hne : g 148 i.toNat ≠ g 148 (rd_k z).toNat := fun e => by
      rw [e, x3] at y3
      exact dis _ _ (by omega) (by omega) (by omega) (by omega) (by omega) y3
    exact ⟨y1, y2, y3, y4, y5, by rw [ye _ hne]; exact y6, y7, y8, y9, y10⟩
  · unfold rd_loose
    rw [yu, yeU, zk]
    refine ⟨x1, x2, x3, Int.le_refl _, x8, x9, x10, fun c => ?_⟩
    obtain ⟨y1, y2, y3, y4, y5, y6⟩ := m4 c
    rw [top1] at y3 y5
    have hlt := (i1 _ c y1).1.1
    rw [ye _ (by omega)]
    refine ⟨y3, fun q => ?_⟩
    rw [ye _ (x10 _ c y1)]
    exact y5 q
end RDK
/-! reading: a group is opened -/
section RDG
variable {g g' : wk_g} {Y : wk_Y} {z : rd_Z}
def rd_yg (g : wk_g) (Y : wk_Y) (z : rd_Z) : wk_Y := (fun w => if w = wk_u Y then 60 else wk_e Y w, fun w => if w = wk_u Y then g 146 (rd_k z).toNat else wk_c Y w, fun f => if f = wk_f Y then wk_u Y else wk_b Y f, fun f => if f = wk_f Y then 60 else wk_x Y f, fun f => if f = wk_f Y then rd_k z + 1 else wk_d Y f, wk_u Y + 1, wk_f Y + 1)
def rd_zg (z : rd_Z) : rd_Z := (fun a => rd_ow z a, fun a => rd_ix z a, rd_a z, rd_k z + 1)
theorem rd_group (hI : rd_I g Y z 1) (hk : 0 ≤ rd_k z) (hk4 : rd_k z < 4) (hU : wk_u Y < 60) (hF : wk_f Y < 80)
    (s : ∀ j, j ∈ [126, 128, 147, 149, 150, 151] → ∀ i, g' j i = g j i)
    (h119 : ∀ i : Nat, g' 119 i = if i = (wk_u Y).toNat then 10 else g 119 i) (h120 : ∀ i : Nat, g' 120 i = if i = (wk_u Y).toNat then wk_f Y else g 120 i)
    (h124 : ∀ i : Nat, g' 124 i = if i = (wk_u Y).toNat then -1 else g 124 i) (h125 : ∀ i : Nat, g' 125 i = if i = (wk_u Y).toNat then -1 else g 125 i)
    (h129 : ∀ i : Nat, g' 129 i = if i = (wk_f Y).toNat then -1 else g 129 i) (h130 : ∀ i : Nat, g' 130 i = if i = (wk_f Y).toNat then 0 else g 130 i)
    (h146 : ∀ i : Nat, g' 146 i = if i = (rd_k z + 1).toNat then wk_f Y else g 146 i) (h148 : ∀ i : Nat, g' 148 i = if i = (rd_k z + 1).toNat then wk_u Y else g 148 i)
    (hb : wk_b Y (g 146 (rd_k z).toNat) < wk_u Y) : rd_J g' (rd_yg g Y z) (rd_zg z) 0 := by
  obtain ⟨⟨n1, n2, n3, n4, n5, n6, n7⟩, i1, i2, i3, i4, i5⟩ := hI
  have e126 := s 126 (by decide)
  have e128 := s 128 (by decide)
  have e147 := s 147 (by decide)
  have e149 := s 149 (by decide)
  have e150 := s 150 (by decide)
  have e151 := s 151 (by decide)
  obtain ⟨⟨f0, f1, f2, f3⟩, l2, l3, l4, l5, l6⟩ := i4 (rd_k z) hk (Int.le_refl _)
  have yu : wk_u (rd_yg g Y z) = wk_u Y + 1 := rfl
  have yf : wk_f (rd_yg g Y z) = wk_f Y + 1 := rfl
  have yb : ∀ f, f < wk_f Y → wk_b (rd_yg g Y z) f = wk_b Y f := fun f h => if_neg (show ¬ f = wk_f Y by omega)
  have yx : ∀ f, f < wk_f Y → wk_x (rd_yg g Y z) f = wk_x Y f := fun f h => if_neg (show ¬ f = wk_f Y by omega)
  have yd : ∀ f, f < wk_f Y → wk_d (rd_yg g Y z) f = wk_d Y f := fun f h => if_neg (show ¬ f = wk_f Y by omega)
  have ybF : wk_b (rd_yg g Y z) (wk_f Y) = wk_u Y := if_pos rfl
  have yxF : wk_x (rd_yg g Y z) (wk_f Y) = 60 := if_pos rfl
  have ydF : wk_d (rd_yg g Y z) (wk_f Y) = rd_k z + 1 := if_pos rfl
  have ye : ∀ w, w < wk_u Y → wk_e (rd_yg g Y z) w = wk_e Y w := fun w h => if_neg (show ¬ w = wk_u Y by omega)
  have yc : ∀ w, w < wk_u Y → wk_c (rd_yg g Y z) w = wk_c Y w := fun w h => if_neg (show ¬ w = wk_u Y by omega)
  have yeU : wk_e (rd_yg g Y z) (wk_u Y) = 60 := if_pos rfl
  have ycU : wk_c (rd_yg g Y z) (wk_u Y) = g 146 (rd_k z).toNat := if_pos rfl
  have zk : rd_k (rd_zg z) = rd_k z + 1 := rfl
  have za : rd_a (rd_zg z) = rd_a z := rfl
  have k119 : ∀ w, 0 ≤ w → w < wk_u Y → g' 119 w.toNat = g 119 w.toNat := fun w a b => by rw [h119, if_neg (by omega)]
  have k120 : ∀ w, 0 ≤ w → w < wk_u Y → g' 120 w.toNat = g 120 w.toNat := fun w a b => by rw [h120, if_neg (by omega)]
  have k124 : ∀ w, 0 ≤ w → w < wk_u Y → g' 124 w.toNat = g 124 w.toNat := fun w a b => by rw [h124, if_neg (by omega)]
  have k125 : ∀ w, 0 ≤ w → w < wk_u Y → g' 125 w.toNat = g 125 w.toNat := fun w a b => by rw [h125, if_neg (by omega)]
  have k129 : ∀ f, 0 ≤ f → f < wk_f Y → g' 129 f.toNat = g 129 f.toNat := fun w a b => by rw [h129, if_neg (by omega)]
  have k130 : ∀ f, 0 ≤ f → f < wk_f Y → g' 130 f.toNat = g 130 f.toNat := fun w a b => by rw [h130, if_neg (by omega)]
  have k146 : ∀ i, 0 ≤ i → i ≤ rd_k z → g' 146 i.toNat = g 146 i.toNat := fun w a b => by rw [h146, if_neg (by omega)]
  have k148 : ∀ i, 0 ≤ i → i ≤ rd_k z → g' 148 i.toNat = g 148 i.toNat := fun w a b => by rw [h148, if_neg (by omega)]
  have U119 : g' 119 (wk_u Y).toNat = 10 := by rw [h119, if_pos rfl]
  have U120 : g' 120 (wk_u Y).toNat = wk_f Y := by rw [h120, if_pos rfl]
  have U124 : g' 124 (wk_u Y).toNat = -1 := by rw [h124, if_pos rfl]
  have U125 : g' 125 (wk_u Y).toNat = -1 := by rw [h125, if_pos rfl]
  have F146 : g' 146 (rd_k z + 1).toNat = wk_f Y := by rw [h146, if_pos rfl]
  have F148 : g' 148 (rd_k z + 1).toNat = wk_u Y := by rw [h148, if_pos rfl]
  have alts : ∀ n a, wk_alt g' n a = wk_alt g n a := by
    intro n
    induction n with
    | zero => intro a; rfl
    | succ n ih =>
      intro a
      show wk_alt g' n (g' 128 a.toNat) = wk_alt g n (g 128 a.toNat)
      rw [e128, ih]
  have tops : ∀ i, 0 ≤ i → i ≤ rd_k z → rd_top g' (rd_yg g Y z) (rd_zg z) i = rd_top g Y z i := fun i h0 h1 => by
    unfold rd_top
    rw [zk, if_pos (by omega)]
    by_cases c : i < rd_k z
    · rw [if_pos c, k148 (i + 1) (by omega) (by omega)]
    · have e : i = rd_k z := by omega
      subst e
      rw [if_neg c, F148]
  have m124 : ∀ (v : Int), 0 ≤ v → (∀ w, 0 ≤ w → w < wk_u Y → g 124 w.toNat ≠ v) → ∀ w, 0 ≤ w → w < wk_u Y + 1 → g' 124 w.toNat ≠ v := fun v v0 hv w w0 w1 => by
    by_cases c : w = wk_u Y
    · rw [c, U124]
      omega
    · rw [k124 w w0 (by omega)]
      exact hv w w0 (by omega)
  have lev0 : ∀ i, 0 ≤ i → i ≤ rd_k z → rd_lev0 g' (rd_yg g Y z) (rd_zg z) i := fun i h0 h1 => by
    obtain ⟨⟨t0, t1, t2, t3⟩, r2, r3, -⟩ := i4 i h0 h1
    unfold rd_lev0
    simp only [k146 i h0 h1, tops i h0 h1, k130 _ t0 t1, k129 _ t0 t1, yd _ t1, yx _ t1, e147, alts, yf, za]
    refine ⟨⟨t0, by omega, t2, t3⟩, r2, fun w w0 w1 wc => ?_⟩
    rw [yu] at w1
    by_cases c : w = wk_u Y
    · subst c
      rw [ycU] at wc
      have ei : i = rd_k z := by
        rw [← wc, f2] at t2
        exact t2.symm
      subst ei
      exact Or.inr ⟨by rw [zk]; omega, F148.symm⟩
    · have hw : w < wk_u Y := by omega
      rw [yc w hw] at wc
      rw [ye w hw]
      rcases r3 w w0 hw wc with x | x
      · exact Or.inl x
      · exact Or.inr ⟨by rw [zk]; omega, by rw [k148 (i + 1) (by omega) (by omega)]; exact x.2⟩
  refine ⟨⟨by rw [yu]; omega, by rw [yu]; omega, by rw [yf]; omega, by rw [yf]; omega, n5, n6, by rw [zk]; omega⟩, fun w h0 h1 => ?_, fun f h0 h1 => ?_, fun a h0 h1 => ?_, fun i h0 h1 => ?_, fun i h0 h1 => ?_, fun i h0 h1 => ?_⟩
  · rw [yu] at h1
    unfold rd_unit
    by_cases c : w = wk_u Y
    · subst c
      rw [U119, U120, U124, U125, yeU, ycU, yx _ f1, yb _ f1, yd _ f1, f2, f3, yf, ybF, yxF, ydF]
      exact ⟨⟨hU, Int.le_refl _, hb, f0, by omega⟩, fun x => absurd x (by decide), fun x => absurd x (by decide), fun x => absurd x (by decide), fun _ => ⟨n3, by omega, Int.le_refl _, rfl⟩, fun x => absurd x (by decide)⟩
    · have hw : w < wk_u Y := by omega
      obtain ⟨p1, p2, p3, p4, p5, p6⟩ := i1 w h0 hw
      obtain ⟨q1, q2, q3, q4, q5⟩ := p1
      rw [k119 w h0 hw, k120 w h0 hw, k124 w h0 hw, k125 w h0 hw, ye w hw, yc w hw, yx _ q5, yb _ q5, yd _ q5, yf]
      refine ⟨⟨q1, q2, q3, q4, by omega⟩, fun x => ?_, fun x => ?_, p4, fun x => ?_, p6⟩
      · obtain ⟨y1, y2, y3, y4⟩ := p2 x
        rw [yu, yc _ y1, k124 _ x y1]
        exact ⟨by omega, y2, y3, y4⟩
      · obtain ⟨y1, y2, y3, y4⟩ := p3 x
        rw [yu, yc _ y1]
        refine ⟨by omega, y2, y3, fun q => ?_⟩
        rw [ye _ (p2 q).1]
        exact y4 q
      · obtain ⟨y1, y2, y3, y4⟩ := p5 x
        rw [yx _ y2, yb _ y2, yd _ y2]
        exact ⟨y1, by omega, y3, y4⟩
  · rw [yf] at h1
    rw [zk, F146]
    by_cases c : f = wk_f Y
    · subst c
      have c130 : g' 130 (wk_f Y).toNat = 0 := by rw [h130, if_pos rfl]
      have c129 : g' 129 (wk_f Y).toNat = -1 := by rw [h129, if_pos rfl]
      rw [if_pos ⟨by omega, rfl⟩]
      unfold rd_form
      rw [c130, c129, ydF, ybF, yxF]
      exact ⟨by omega, by omega, Int.le_refl _, Int.le_refl _, (show (-1 : Int) < 0 from by decide), hU, Int.le_refl _, fun j hj => by exfalso; omega⟩
    · have hf : f < wk_f Y := by omega
      have hh := i2 f h0 hf
      rw [show (if 0 ≤ rd_k z ∧ f = g 146 (rd_k z).toNat then (1 : Int) else 1) = 1 from by split <;> rfl] at hh
      rw [if_neg (fun x => c x.2)]
      unfold rd_form at hh ⊢
      simp only [k129 f h0 hf, k130 f h0 hf, alts, yd f hf, yb f hf, yx f hf]
      exact hh
  · unfold rd_alt
    rw [e126, yu]
    by_cases c : g 126 a.toNat < 0
    · exact Or.inl c
    · rcases i3 a h0 h1 with x | x
      · exact absurd x c
      · rw [yc _ x.1]
        exact Or.inr ⟨by omega, x.2⟩
  · rw [zk] at h1
    by_cases c : i ≤ rd_k z
    · exact lev0 i h0 c
    · have ei : i = rd_k z + 1 := by omega
      subst ei
      unfold rd_lev0
      rw [F146, ydF, yxF, yf]
      refine ⟨⟨n3, by omega, rfl, rfl⟩, fun x => ?_, fun w w0 w1 wc => ?_⟩
      · exfalso
        rw [h130, if_pos rfl] at x
        omega
      · exfalso
        rw [yu] at w1
        by_cases c2 : w = wk_u Y
        · rw [c2, ycU] at wc
          omega
        · rw [yc w (by omega)] at wc
          have := (i1 w w0 (by omega)).1.2.2.2.2
          omega
  · rw [zk] at h1
    have hik : i ≤ rd_k z := by omega
    obtain ⟨a1, a2, a3⟩ := lev0 i h0 hik
    obtain ⟨-, -, -, r4, r5, r6⟩ := i4 i h0 hik
    refine ⟨a1, a2, a3, fun c => ?_, fun c => ?_, ?_⟩
    · rw [e149] at c ⊢
      obtain ⟨x1, x2, x3, x4, x5, x6⟩ := r4 c
      rw [k124 _ c x1, k125 _ c x1, yu, yc _ x1, ye _ x1, k146 i h0 hik, tops i h0 hik]
      refine ⟨by omega, x2, x3, x4, fun q => ?_, m124 _ c x6⟩
      rw [ye _ ((i1 _ c x1).2.1 q).1]
      exact x5 q
    · rw [e151] at c
      rw [e149]
      obtain ⟨x1, x2⟩ := r5 c
      rw [k124 _ x1 (r4 x1).1]
      exact ⟨x1, x2⟩
    · rw [e150, yu]
      omega
  · rw [zk] at h1
    unfold rd_grp
    by_cases c : i ≤ rd_k z
    · obtain ⟨x1, x2, x3, x4, x5, x6, x7, x8, x9, x10⟩ := i5 i h0 c
      obtain ⟨⟨t0, t1, -, -⟩, -⟩ := i4 i (by omega) c
      rw [k148 i (by omega) c, k146 i (by omega) c, k146 (i - 1) (by omega) (by omega), k119 _ x1 x2, k120 _ x1 x2, k124 _ x1 x2, k125 _ x1 x2, yc _ x2, ye _ x2, yb _ t1, yu]
      exact ⟨x1, by omega, x3, x4, x5, x6, x7, x8, x9, m124 _ x1 x10⟩
    · have ei : i = rd_k z + 1 := by omega
      subst ei
      rw [F148, F146, show rd_k z + 1 - 1 = rd_k z from by omega, k146 _ hk (Int.le_refl _), U119, U120, U124, U125, ycU, yeU, ybF, yu]
      refine ⟨n1, by omega, rfl, rfl, rfl, rfl, rfl, by decide, by decide, m124 _ n1 (fun w w0 w1 e => ?_)⟩
      have := ((i1 w w0 w1).2.1 (by omega)).1
      omega
end RDG
/-! reading: a pair is announced -/
section RDW
variable {g g' : wk_g} {Y : wk_Y} {z : rd_Z} {m : Int}
theorem rd_swap (hI : rd_I g Y z m) (s : ∀ j, j ∈ [119, 120, 124, 125, 126, 128, 129, 130, 146, 147, 148, 149, 150] → ∀ i, g' j i = g j i) (h151 : ∀ i : Nat, i ≠ (rd_k z).toNat → g' 151 i = g 151 i) (hl : 0 ≤ g 149 (rd_k z).toNat) (hm : g 124 (g 149 (rd_k z).toNat).toNat < 0) : rd_I g' Y z m := by
  obtain ⟨nn, i1, i2, i3, i4, i5⟩ := hI
  have e119 := s 119 (by decide)
  have e120 := s 120 (by decide)
  have e124 := s 124 (by decide)
  have e125 := s 125 (by decide)
  have e126 := s 126 (by decide)
  have e128 := s 128 (by decide)
  have e129 := s 129 (by decide)
  have e130 := s 130 (by decide)
  have e146 := s 146 (by decide)
  have e147 := s 147 (by decide)
  have e148 := s 148 (by decide)
  have e149 := s 149 (by decide)
  have e150 := s 150 (by decide)
  have alts : ∀ n a, wk_alt g' n a = wk_alt g n a := by
    intro n
    induction n with
    | zero => intro a; rfl
    | succ n ih =>
      intro a
      show wk_alt g' n (g' 128 a.toNat) = wk_alt g n (g 128 a.toNat)
      rw [e128, ih]
  refine ⟨nn, fun w h0 h1 => ?_, fun f h0 h1 => ?_, fun a h0 h1 => ?_, fun i h0 h1 => ?_, fun i h0 h1 => ?_⟩
  · have := i1 w h0 h1
    unfold rd_unit at this ⊢
    simp only [e119, e120, e124, e125]
    exact this
  · have := i2 f h0 h1
    unfold rd_form at this ⊢
    simp only [e129, e130, e146, alts]
    exact this
  · have := i3 a h0 h1
    unfold rd_alt at this ⊢
    rw [e126]
    exact this
  · obtain ⟨t, r2, r3, r4, r5, r6⟩ := i4 i h0 h1
    have etop : rd_top g' Y z i = rd_top g Y z i := by
      unfold rd_top
      rw [e148]
    unfold rd_lev
    simp only [e124, e125, e129, e130, e146, e147, e148, e149, e150, etop, alts]
    refine ⟨t, r2, r3, r4, fun c => ?_, r6⟩
    by_cases hik : i = rd_k z
    · subst hik
      exact ⟨hl, hm⟩
    · rw [h151 _ (by omega)] at c
      exact r5 c
  · have := i5 i h0 h1
    unfold rd_grp at this ⊢
    simp only [e119, e120, e124, e125, e146, e148]
    exact this
end RDW
/-! reading: a rule begins; the levels of before are forgotten -/
section RDR
variable {g g' : wk_g} {Y : wk_Y} {z : rd_Z} {m : Int}
def rd_yr (Y : wk_Y) : wk_Y := (fun w => wk_e Y w, fun w => wk_c Y w, fun f => if f = wk_f Y then wk_u Y - 1 else wk_b Y f, fun f => if f = wk_f Y then 60 else wk_x Y f, fun f => if f = wk_f Y then 0 else wk_d Y f, wk_u Y, wk_f Y + 1)
def rd_zr (z : rd_Z) : rd_Z := (fun a => rd_ow z a, fun a => rd_ix z a, rd_a z, 0)
theorem rd_rule (hI : rd_I g Y z 1) (hF : wk_f Y < 80)
    (s : ∀ j, j ∈ [119, 120, 124, 125, 126, 128] → ∀ i, g' j i = g j i)
    (h129 : ∀ i : Nat, g' 129 i = if i = (wk_f Y).toNat then -1 else g 129 i) (h130 : ∀ i : Nat, g' 130 i = if i = (wk_f Y).toNat then 0 else g 130 i)
    (h146 : g' 146 0 = wk_f Y) : rd_J g' (rd_yr Y) (rd_zr z) 0 ∧ wk_Lrule (rd_yr Y) (wk_f Y) := by
  obtain ⟨⟨n1, n2, n3, n4, n5, n6, n7⟩, i1, i2, i3, -, -⟩ := hI
  have e119 := s 119 (by decide)
  have e120 := s 120 (by decide)
  have e124 := s 124 (by decide)
  have e125 := s 125 (by decide)
  have e126 := s 126 (by decide)
  have e128 := s 128 (by decide)
  have yf : wk_f (rd_yr Y) = wk_f Y + 1 := rfl
  have yu : wk_u (rd_yr Y) = wk_u Y := rfl
  have ye : ∀ w, wk_e (rd_yr Y) w = wk_e Y w := fun _ => rfl
  have yc : ∀ w, wk_c (rd_yr Y) w = wk_c Y w := fun _ => rfl
  have yb : ∀ f, f < wk_f Y → wk_b (rd_yr Y) f = wk_b Y f := fun f h => if_neg (show ¬ f = wk_f Y by omega)
  have yx : ∀ f, f < wk_f Y → wk_x (rd_yr Y) f = wk_x Y f := fun f h => if_neg (show ¬ f = wk_f Y by omega)
  have yd : ∀ f, f < wk_f Y → wk_d (rd_yr Y) f = wk_d Y f := fun f h => if_neg (show ¬ f = wk_f Y by omega)
  have ybF : wk_b (rd_yr Y) (wk_f Y) = wk_u Y - 1 := if_pos rfl
  have yxF : wk_x (rd_yr Y) (wk_f Y) = 60 := if_pos rfl
  have ydF : wk_d (rd_yr Y) (wk_f Y) = 0 := if_pos rfl
  have zk : rd_k (rd_zr z) = 0 := rfl
  have za : rd_a (rd_zr z) = rd_a z := rfl
  have k129 : ∀ f, 0 ≤ f → f < wk_f Y → g' 129 f.toNat = g 129 f.toNat := fun w a b => by rw [h129, if_neg (by omega)]
  have k130 : ∀ f, 0 ≤ f → f < wk_f Y → g' 130 f.toNat = g 130 f.toNat := fun w a b => by rw [h130, if_neg (by omega)]
  have F146 : g' 146 (rd_k (rd_zr z)).toNat = wk_f Y := h146
  have alts : ∀ n a, wk_alt g' n a = wk_alt g n a := by
    intro n
    induction n with
    | zero => intro a; rfl
    | succ n ih =>
      intro a
      show wk_alt g' n (g' 128 a.toNat) = wk_alt g n (g 128 a.toNat)
      rw [e128, ih]
  refine ⟨⟨⟨n1, n2, by rw [yf]; omega, by rw [yf]; omega, n5, n6, by rw [zk]; decide⟩, fun w h0 h1 => ?_, fun f h0 h1 => ?_, fun a h0 h1 => ?_, fun i h0 h1 => ?_, fun i h0 h1 => ?_, fun i h0 h1 => ?_⟩, ?_⟩
  · obtain ⟨⟨q1, q2, q3, q4, q5⟩, p2, p3, p4, p5, p6⟩ := i1 w h0 h1
    unfold rd_unit
    simp only [e119, e120, e124, e125, ye, yc, yu, yf]
    rw [yx _ q5, yb _ q5, yd _ q5]
    refine ⟨⟨q1, q2, q3, q4, by omega⟩, p2, p3, p4, fun x => ?_, p6⟩
    obtain ⟨y1, y2, y3, y4⟩ := p5 x
    rw [yx _ y2, yb _ y2, yd _ y2]
    exact ⟨y1, by omega, y3, y4⟩
  · rw [yf] at h1
    rw [F146]
    by_cases c : f = wk_f Y
    · subst c
      have c130 : g' 130 (wk_f Y).toNat = 0 := by rw [h130, if_pos rfl]
      have c129 : g' 129 (wk_f Y).toNat = -1 := by rw [h129, if_pos rfl]
      rw [if_pos ⟨by rw [zk]; decide, rfl⟩]
      unfold rd_form
      rw [c130, c129, ydF, ybF, yxF]
      exact ⟨by decide, by decide, Int.le_refl _, Int.le_refl _, (show (-1 : Int) < 0 from by decide), by omega, Int.le_refl _, fun j hj => by exfalso; omega⟩
    · have hf : f < wk_f Y := by omega
      have hh := i2 f h0 hf
      rw [show (if 0 ≤ rd_k z ∧ f = g 146 (rd_k z).toNat then (1 : Int) else 1) = 1 from by split <;> rfl] at hh
      rw [if_neg (fun x => c x.2)]
      unfold rd_form at hh ⊢
      simp only [k129 f h0 hf, k130 f h0 hf, alts, yd f hf, yb f hf, yx f hf]
      exact hh
  · have := i3 a h0 h1
    unfold rd_alt at this ⊢
    rw [e126]
    exact this
  · rw [zk] at h1
    have ei : i = 0 := by omega
    subst ei
    unfold rd_lev0
    rw [show g' 146 (Int.toNat 0) = wk_f Y from h146, ydF, yxF, yf]
    refine ⟨⟨n3, by omega, rfl, rfl⟩, fun x => ?_, fun w w0 w1 wc => ?_⟩
    · exfalso
      rw [h130, if_pos rfl] at x
      omega
    · exfalso
      have wc : wk_c Y w = wk_f Y := wc
      have := (i1 w w0 w1).1.2.2.2.2
      omega
  · rw [zk] at h1
    exfalso; omega
  · rw [zk] at h1
    exfalso; omega
  · refine ⟨n3, by rw [yf]; omega, ?_⟩
    rw [yxF, ybF]
    omega
end RDR
/-! READING, the program: what holds while a rule is read -/
section RSC
variable {g g' : wk_g} {Y : wk_Y} {z : rd_Z} {m : Int}
/-- nothing that the invariant speaks of has changed -/
theorem rd_cg (hI : rd_I g Y z m) (s : ∀ j, j ∈ [119, 120, 124, 125, 126, 128, 129, 130, 146, 147, 148, 149, 150, 151] → ∀ i, g' j i = g j i) : rd_I g' Y z m := by
  obtain ⟨nn, i1, i2, i3, i4, i5⟩ := hI
  have e119 := s 119 (by decide)
  have e120 := s 120 (by decide)
  have e124 := s 124 (by decide)
  have e125 := s 125 (by decide)
  have e126 := s 126 (by decide)
  have e128 := s 128 (by decide)
  have e129 := s 129 (by decide)
  have e130 := s 130 (by decide)
  have e146 := s 146 (by decide)
  have e147 := s 147 (by decide)
  have e148 := s 148 (by decide)
  have e149 := s 149 (by decide)
  have e150 := s 150 (by decide)
  have e151 := s 151 (by decide)
  have alts : ∀ n a, wk_alt g' n a = wk_alt g n a := by
    intro n
    induction n with
    | zero => intro a; rfl
    | succ n ih =>
      intro a
      show wk_alt g' n (g' 128 a.toNat) = wk_alt g n (g 128 a.toNat)
      rw [e128, ih]
  refine ⟨nn, fun w h0 h1 => ?_, fun f h0 h1 => ?_, fun a h0 h1 => ?_, fun i h0 h1 => ?_, fun i h0 h1 => ?_⟩
  · have := i1 w h0 h1
    unfold rd_unit at this ⊢
    simp only [e119, e120, e124, e125]
    exact this
  · have := i2 f h0 h1
    unfold rd_form at this ⊢
    simp only [e129, e130, e146, alts]
    exact this
  · have := i3 a h0 h1
    unfold rd_alt at this ⊢
    rw [e126]
    exact this
  · have := i4 i h0 h1
    have etop : rd_top g' Y z i = rd_top g Y z i := by
      unfold rd_top
      rw [e148]
    unfold rd_lev at this ⊢
    simp only [e124, e125, e129, e130, e146, e147, e148, e149, e150, e151, etop, alts]
    exact this
  · have := i5 i h0 h1
    unfold rd_grp at this ⊢
    simp only [e119, e120, e124, e125, e146, e148]
    exact this
/-- a unit's word changes, where nothing speaks of it -/
theorem rd_word {U : Int} (hI : rd_I g Y z m) (s : ∀ j, j ∈ [119, 124, 125, 126, 128, 129, 130, 146, 147, 148, 149, 150, 151] → ∀ i, g' j i = g j i) (h120 : ∀ i : Nat, i ≠ U.toNat → g' 120 i = g 120 i) (n8 : g 119 U.toNat ≠ 8) (n9 : g 119 U.toNat ≠ 9) (n10 : g 119 U.toNat ≠ 10) : rd_I g' Y z m := by
  obtain ⟨nn, i1, i2, i3, i4, i5⟩ := hI
  have e119 := s 119 (by decide)
  have e124 := s 124 (by decide)
  have e125 := s 125 (by decide)
  have e126 := s 126 (by decide)
  have e128 := s 128 (by decide)
  have e129 := s 129 (by decide)
  have e130 := s 130 (by decide)
  have e146 := s 146 (by decide)
  have e147 := s 147 (by decide)
  have e148 := s 148 (by decide)
  have e149 := s 149 (by decide)
  have e150 := s 150 (by decide)
  have e151 := s 151 (by decide)
  have alts : ∀ n a, wk_alt g' n a = wk_alt g n a := by
    intro n
    induction n with
    | zero => intro a; rfl
    | succ n ih =>
      intro a
      show wk_alt g' n (g' 128 a.toNat) = wk_alt g n (g 128 a.toNat)
      rw [e128, ih]
  refine ⟨nn, fun w h0 h1 => ?_, fun f h0 h1 => ?_, fun a h0 h1 => ?_, fun i h0 h1 => ?_, fun i h0 h1 => ?_⟩
  · obtain ⟨u1, u2, u3, u4, u5, u6⟩ := i1 w h0 h1
    unfold rd_unit
    simp only [e119, e124, e125]
    by_cases c : w.toNat = U.toNat
    · refine ⟨u1, u2, u3, fun x => ?_, fun x => ?_, fun x => ?_⟩
      · rw [c] at x; exact absurd x n9
      · rw [c] at x; exact absurd x n10
      · rw [c] at x; exact absurd x n8
    · rw [h120 _ c]
      exact ⟨u1, u2, u3, u4, u5, u6⟩
  · have := i2 f h0 h1
    unfold rd_form at this ⊢
    simp only [e129, e130, e146, alts]
    exact this
  · have := i3 a h0 h1
    unfold rd_alt at this ⊢
    rw [e126]
    exact this
  · have := i4 i h0 h1
    have etop : rd_top g' Y z i = rd_top g Y z i := by
      unfold rd_top
      rw [e148]
    unfold rd_lev at this ⊢
    simp only [e124, e125, e129, e130, e146, e147, e148, e149, e150, e151, etop, alts]
    exact this
  · obtain ⟨x1, x2, x3, x4, x5, x6⟩ := i5 i h0 h1
    have c : (g 148 i.toNat).toNat ≠ U.toNat := fun e => by rw [e] at x4; exact n10 x4
    unfold rd_grp
    simp only [e119, e124, e125, e146, e148]
    rw [h120 _ c]
    exact ⟨x1, x2, x3, x4, x5, x6⟩
end RSC
/-- the rules that are there -/
def rs_P (h : sm_H) : Prop := ∀ u, 0 ≤ u → u < mi_f h 13963 → 0 ≤ mi_a h 121 u.toNat ∧ mi_a h 121 u.toNat ≤ 241
def rs_R (h : sm_H) (Y : wk_Y) : Prop := (∀ r, 0 ≤ r → r < mi_f h 13961 → wk_Lrule Y (mi_a h 114 r.toNat)) ∧ (∀ n : Nat, n < 26 → mi_a h 115 n < mi_f h 13961) ∧ rs_P h
/-- between rules; q: how many alternatives may still come before a part -/
def rs_B (h : sm_H) (Y : wk_Y) (z : rd_Z) (q : Int) : Prop :=
  rd_I (mi_a h) Y z 1 ∧ wk_u Y = mi_f h 13963 ∧ wk_f Y = mi_f h 13965 ∧ rd_a z = mi_f h 13964 ∧ mi_f h 13964 + q ≤ mi_f h 13963 + mi_f h 13961 ∧ mi_f h 13965 ≤ mi_f h 13963 + mi_f h 13961 ∧ rs_R h Y ∧ ∀ f, 0 ≤ f → f < mi_f h 13965 → mi_a h 130 f.toNat ≤ 6
/-- within a rule -/
def rs_I (h : sm_H) (Y : wk_Y) (z : rd_Z) (q : Int) : Prop := rs_B h Y z q ∧ rd_k z = mi_f h 14003 ∧ wk_b Y (mi_a h 146 0) < wk_u Y
def rs_c : List Nat := [13961, 13963, 13964, 13965, 14003, 14592, 14720, 15232, 15360, 15488, 15872, 16000, 16128, 16384, 16512, 16640, 18688, 18816, 18944, 19072, 19200, 19328]
section RSF
variable {h h' : sm_H} {Y : wk_Y} {z : rd_Z} {q : Int} {wr : List (Nat × Nat)}
theorem rs_fr (hI : rs_I h Y z q) (hS : ab_Sh sx_sk h) (hF : ab_Fr wr h h') (hw : rs_c.all (fun c => !ab_in wr c) = true) : rs_I h' Y z q := by
  have n : ∀ c, c ∈ rs_c → ab_in wr c = false := fun c hc => by
    have := List.all_eq_true.mp hw c hc
    rwa [Bool.not_eq_true'] at this
  obtain ⟨⟨i1, i2, i3, i4, i5, i6, ⟨i7, i8, i8p⟩, i9⟩, i10, i11⟩ := hI
  have f61 : mi_f h' 13961 = mi_f h 13961 := me_f hF hS rfl (n _ (by decide))
  have f63 : mi_f h' 13963 = mi_f h 13963 := me_f hF hS rfl (n _ (by decide))
  have f64 : mi_f h' 13964 = mi_f h 13964 := me_f hF hS rfl (n _ (by decide))
  have f65 : mi_f h' 13965 = mi_f h 13965 := me_f hF hS rfl (n _ (by decide))
  have f3 : mi_f h' 14003 = mi_f h 14003 := me_f hF hS rfl (n _ (by decide))
  have a114 : ∀ i, mi_a h' 114 i = mi_a h 114 i := fun i => me_a hF hS rfl (n _ (by decide))
  have a115 : ∀ i, mi_a h' 115 i = mi_a h 115 i := fun i => me_a hF hS rfl (n _ (by decide))
  have a119 : ∀ i, mi_a h' 119 i = mi_a h 119 i := fun i => me_a hF hS rfl (n _ (by decide))
  have a120 : ∀ i, mi_a h' 120 i = mi_a h 120 i := fun i => me_a hF hS rfl (n _ (by decide))
  have a121 : ∀ i, mi_a h' 121 i = mi_a h 121 i := fun i => me_a hF hS rfl (n _ (by decide))
  have a124 : ∀ i, mi_a h' 124 i = mi_a h 124 i := fun i => me_a hF hS rfl (n _ (by decide))
  have a125 : ∀ i, mi_a h' 125 i = mi_a h 125 i := fun i => me_a hF hS rfl (n _ (by decide))
  have a126 : ∀ i, mi_a h' 126 i = mi_a h 126 i := fun i => me_a hF hS rfl (n _ (by decide))
  have a128 : ∀ i, mi_a h' 128 i = mi_a h 128 i := fun i => me_a hF hS rfl (n _ (by decide))
  have a129 : ∀ i, mi_a h' 129 i = mi_a h 129 i := fun i => me_a hF hS rfl (n _ (by decide))
  have a130 : ∀ i, mi_a h' 130 i = mi_a h 130 i := fun i => me_a hF hS rfl (n _ (by decide))
  have a146 : ∀ i, mi_a h' 146 i = mi_a h 146 i := fun i => me_a hF hS rfl (n _ (by decide))
  have a147 : ∀ i, mi_a h' 147 i = mi_a h 147 i := fun i => me_a hF hS rfl (n _ (by decide))
  have a148 : ∀ i, mi_a h' 148 i = mi_a h 148 i := fun i => me_a hF hS rfl (n _ (by decide))
  have a149 : ∀ i, mi_a h' 149 i = mi_a h 149 i := fun i => me_a hF hS rfl (n _ (by decide))
  have a150 : ∀ i, mi_a h' 150 i = mi_a h 150 i := fun i => me_a hF hS rfl (n _ (by decide))
  have a151 : ∀ i, mi_a h' 151 i = mi_a h 151 i := fun i => me_a hF hS rfl (n _ (by decide))
  unfold rs_I rs_B rs_R rs_P
  simp only [f61, f63, f64, f65, f3, a114, a115, a121, a130, a146]
  refine ⟨⟨rd_cg i1 (fun j hj i => ?_), i2, i3, i4, i5, i6, ⟨i7, i8, i8p⟩, i9⟩, i10, i11⟩
  simp only [List.mem_cons, List.not_mem_nil, or_false] at hj
  rcases hj with rfl | rfl | rfl | rfl | rfl | rfl | rfl | rfl | rfl | rfl | rfl | rfl | rfl | rfl
  · exact a119 i
  · exact a120 i
  · exact a124 i
  · exact a125 i
  · exact a126 i
  · exact a128 i
  · exact a129 i
  · exact a130 i
  · exact a146 i
  · exact a147 i
  · exact a148 i
  · exact a149 i
  · exact a150 i
  · exact a151 i
/-- what the top level gives -/
theorem rs_lev (hI : rs_I h Y z q) (hS : ab_Sh sx_sk h) : (0 ≤ mi_f h 14003 ∧ mi_f h 14003 ≤ 4) ∧ (0 ≤ mi_a h 146 (mi_f h 14003).toNat ∧ mi_a h 146 (mi_f h 14003).toNat < 80 ∧ mi_a h 146 (mi_f h 14003).toNat < mi_f h 13965) ∧ 1 ≤ mi_a h 130 (mi_a h 146 (mi_f h 14003).toNat).toNat ∧ (0 ≤ mi_a h 147 (mi_f h 14003).toNat ∧ mi_a h 147 (mi_f h 14003).toNat < 80) ∧ (mi_a h 151 (mi_f h 14003).toNat ≠ 0 → 0 ≤ mi_a h 149 (mi_f h 14003).toNat) ∧ mi_a h 149 (mi_f h 14003).toNat < 60 ∧ mi_a h 150 (mi_f h 14003).toNat < 60 ∧ wk_b Y (mi_a h 146 (mi_f h 14003).toNat) < wk_u Y := by
  obtain ⟨⟨⟨nn, i1, i2, i3, i4, i5⟩, e1, e2, e3, e4, e5, e6, e7⟩, e8, e9⟩ := hI
  have b3 := me_fb (c := 14003) hS rfl
  obtain ⟨n1, n2, n3, n4, n5, n6, n7⟩ := nn
  obtain ⟨⟨t1, t2, t3, t4⟩, r2, r3, r4, r5, r6⟩ := i4 (rd_k z) (by omega) (Int.le_refl _)
  have ff := i2 _ t1 t2
  rw [if_pos ⟨by omega, rfl⟩] at ff
  have c1 := ff.2.2.1
  obtain ⟨r21, r22, -⟩ := r2 (by omega)
  rw [e8] at t1 t2 c1 r21 r22 r4 r5 r6
  refine ⟨⟨by omega, by omega⟩, ⟨t1, by omega, by omega⟩, c1, ⟨r21, by omega⟩, fun c => (r5 c).1, ?_, by omega, ?_⟩
  · by_cases c : 0 ≤ mi_a h 149 (mi_f h 14003).toNat
    · have := (r4 c).1
      omega
    · omega
  · by_cases c : mi_f h 14003 = 0
    · rw [c]
      exact e9
    · obtain ⟨x1, x2, x3, x4, x5, x6, x7, x8⟩ := i5 (mi_f h 14003) (by omega) (by omega)
      rw [x7]
      exact x2
end RSF
section RSS
variable {h : sm_H} {d : Nat}
theorem me_nvi {c : Nat} {lo hi : Int} (hv : ab_nv (1, lo, hi, []) (ab_fld h c)) : lo ≤ mi_f h c ∧ mi_f h c ≤ hi := by
  obtain ⟨x, e, l, u, -⟩ := hv
  have : mi_f h c = x.toInt := by
    unfold mi_f mx_i
    rw [e]
  rw [this]
  exact ⟨l, u⟩
theorem me_nvl {c : Nat} {lo hi : Int} (hv : ab_nv (2, lo, hi, []) (ab_fld h c)) : lo ≤ (mx_l h c).toInt ∧ (mx_l h c).toInt ≤ hi := by
  obtain ⟨x, e, l, u⟩ := hv
  have : mx_l h c = x := by
    unfold mx_l
    rw [e]
  rw [this]
  exact ⟨l, u⟩
def sn_W : List (Nat × Nat) := [(14000, 14003), (14004, 14005)]
/-- a token has been scanned -/
def sn_R (h : sm_H) : Prop := (0 ≤ mi_f h 14002 ∧ mi_f h 14002 ≤ 241) ∧ (mi_f h 14001 ≠ 0 → mi_f h 14001 ≠ 6 → mi_f h 14000 ≤ 241) ∧ (mi_f h 14001 = 2 → 0 ≤ (mx_l h 14004).toInt32.toInt ∧ (mx_l h 14004).toInt32.toInt < 26) ∧ 0 ≤ mi_f h 14001 ∧ mi_f h 14001 ≤ 126
theorem me_scan (hS : ab_Sh sx_sk h) (ha : mi_f h 14000 ≤ 241) : me_E (d + 2) 177 0 [some (.inr (.inr 109)), none, none, none] [] h (fun w h' => w = none ∧ ab_Sh sx_sk h' ∧ ab_Fr sn_W h h' ∧ sn_R h') := by
  have b0 := me_fb (c := 14000) hS rfl
  have := me_abs (M := (4, 0, sb_177)) (as := [.inr (.inr 109)]) xo_v_scan rfl hS ⟨rfl, trivial⟩ (fun e he => by
    rw [List.mem_singleton.mp he]
    exact me_nvf (c := 14000) hS rfl b0.1 ha) (by decide)
  refine (me_E.deep (d' := d + 2) this (Nat.le_add_left _ _)).imp (fun w h' hq => ?_)
  obtain ⟨q1, q2, p, pm, pr, pH⟩ := hq
  have ew : w = none := by
    unfold mi_res at pr
    rwa [if_pos rfl] at pr
  refine ⟨ew, q1, q2, ?_⟩
  have four : ∀ {a b c e : ab_V} {u : ab_V}, p = (u, [(14000, a), (14001, b), (14002, c), (14004, e)]) → ab_nv a (ab_fld h' 14000) ∧ ab_nv b (ab_fld h' 14001) ∧ ab_nv c (ab_fld h' 14002) ∧ ab_nv e (ab_fld h' 14004) := fun {a b c e u} hp => by
    subst hp
    exact ⟨pH (14000, a) (by simp), pH (14001, b) (by simp), pH (14002, c) (by simp), pH (14004, e) (by simp)⟩
  have conv : ∀ {b : Int}, 0 ≤ (mx_l h' 14004).toInt → (mx_l h' 14004).toInt ≤ b → b ≤ 25 → 0 ≤ (mx_l h' 14004).toInt32.toInt ∧ (mx_l h' 14004).toInt32.toInt < 26 := fun {b} c0 c1 c2 => by
    rw [Int64.toInt_toInt32, Int.bmod_eq_of_le (by omega) (by omega)]
    omega
  unfold sn_R
  simp only [xc_v_scan, List.mem_cons, List.not_mem_nil, or_false] at pm
  rcases pm with e | e | e | e | e | e
  all_goals
    obtain ⟨x1, x2, x3, x4⟩ := four e
    have y1 := me_nvi x1
    have y2 := me_nvi x2
    have y3 := me_nvi x3
    have y4 := me_nvl x4
    refine ⟨⟨y3.1, by omega⟩, fun _ _ => by omega, fun c => ?_, by omega, by omega⟩
    first
      | exact conv y4.1 y4.2 (by omega)
      | (exfalso; omega)
theorem me_sortOf {x : Int64} (hS : ab_Sh sx_sk h) : me_E d 189 0 [some (.inr (.inl x)), none] [] h (fun w h' => h' = h ∧ ∃ z, w = some (.inl z) ∧ -1 ≤ z ∧ z ≤ 7) := by
  have := me_abs (M := (2, 1, sb_189)) (as := [.inr (.inl x)]) xo_v_sortOf rfl hS ⟨me_nvL x, trivial⟩ (fun e he => by cases he) (by decide)
  refine (me_E.deep (d' := d) this (Nat.zero_le _)).imp (fun w h' hq => ?_)
  obtain ⟨q1, q2, p, hp, q3, -⟩ := hq
  refine ⟨me_nil q2, ?_⟩
  rcases List.mem_cons.mp hp with rfl | hp
  · exact me_resI q3 (by decide) rfl
  · cases hp
def lt_W : List (Nat × Nat) := [(13962, 13963), (14976, 14977), (15104, 15105)]
theorem me_literal (hS : ab_Sh sx_sk h) : me_E d 191 0 [some (.inr (.inr 109)), none] [] h (fun w h' => ab_Sh sx_sk h' ∧ ab_Fr lt_W h h' ∧ ∃ z, w = some (.inl z) ∧ 0 ≤ z ∧ z ≤ 20) := by
  have := me_abs (M := (2, 1, sb_191)) (as := [.inr (.inr 109)]) xo_v_literal rfl hS ⟨rfl, trivial⟩ (fun e he => by cases he) (by decide)
  refine (me_E.deep (d' := d) this (Nat.zero_le _)).imp (fun w h' hq => ?_)
  obtain ⟨q1, q2, p, hp, q3, -⟩ := hq
  refine ⟨q1, q2, ?_⟩
  rcases List.mem_cons.mp hp with rfl | hp
  · exact me_resI q3 (by decide) rfl
  · cases hp
def xc_v_isPart0 : ab_C := (188, [(3, 109, 0, [])], [(14001, (1, 0, 0, []))], [((1, 0, 0, []), [])], [], 1)
theorem xo_v_isPart0 : ab_Ok sc_P sx_sk xc_v_isPart0 := ab_good_ok (env := []) (heads := []) (fuel := 61) (by decide +kernel) (fun _ h => absurd h List.not_mem_nil)
def xc_v_isPart6 : ab_C := (188, [(3, 109, 0, [])], [(14001, (1, 6, 6, []))], [((1, 0, 0, []), [])], [], 1)
theorem xo_v_isPart6 : ab_Ok sc_P sx_sk xc_v_isPart6 := ab_good_ok (env := []) (heads := []) (fuel := 61) (by decide +kernel) (fun _ h => absurd h List.not_mem_nil)
theorem me_isPart (hS : ab_Sh sx_sk h) : me_E (d + 1) 188 0 [some (.inr (.inr 109))] [] h (fun w h' => h' = h ∧ ∃ z, w = some (.inl z) ∧ 0 ≤ z ∧ z ≤ 1 ∧ (z ≠ 0 → mi_f h 14001 ≠ 0 ∧ mi_f h 14001 ≠ 6)) := by
  by_cases c0 : mi_f h 14001 = 0
  · have := me_abs (M := (1, 4, sb_188)) (as := [.inr (.inr 109)]) xo_v_isPart0 rfl hS ⟨rfl, trivial⟩ (fun e he => by
      rw [List.mem_singleton.mp he]
      exact me_nvf (c := 14001) hS rfl (by omega) (by omega)) (by decide)
    refine (me_E.deep (d' := d + 1) this (Nat.le_add_left _ _)).imp (fun w h' hq => ?_)
    obtain ⟨q1, q2, p, hp, q3, -⟩ := hq
    refine ⟨me_nil q2, ?_⟩
    rcases List.mem_cons.mp hp with rfl | hp
    · obtain ⟨z, e, z0, z1⟩ := me_resI q3 (by decide) rfl
      have z0 : (0 : Int) ≤ z := z0
      have z1 : z ≤ 0 := z1
      exact ⟨z, e, z0, by omega, fun c => by omega⟩
    · cases hp
  by_cases c6 : mi_f h 14001 = 6
  · have := me_abs (M := (1, 4, sb_188)) (as := [.inr (.inr 109)]) xo_v_isPart6 rfl hS ⟨rfl, trivial⟩ (fun e he => by
      rw [List.mem_singleton.mp he]
      exact me_nvf (c := 14001) hS rfl (by omega) (by omega)) (by decide)
    refine (me_E.deep (d' := d + 1) this (Nat.le_add_left _ _)).imp (fun w h' hq => ?_)
    obtain ⟨q1, q2, p, hp, q3, -⟩ := hq
    refine ⟨me_nil q2, ?_⟩
    rcases List.mem_cons.mp hp with rfl | hp
    · obtain ⟨z, e, z0, z1⟩ := me_resI q3 (by decide) rfl
      have z0 : (0 : Int) ≤ z := z0
      have z1 : z ≤ 0 := z1
      exact ⟨z, e, z0, by omega, fun c => by omega⟩
    · cases hp
  have := me_abs (M := (1, 4, sb_188)) (as := [.inr (.inr 109)]) xo_v_isPart rfl hS ⟨rfl, trivial⟩ (fun e he => by cases he) (by decide)
  refine (me_E.deep (d' := d + 1) this (Nat.le_add_left _ _)).imp (fun w h' hq => ?_)
  obtain ⟨q1, q2, p, hp, q3, -⟩ := hq
  refine ⟨me_nil q2, ?_⟩
  rcases List.mem_cons.mp hp with rfl | hp
  · obtain ⟨z, e, z0, z1⟩ := me_resI q3 (by decide) rfl
    exact ⟨z, e, z0, z1, fun _ => ⟨c0, c6⟩⟩
  · cases hp
end RSS
