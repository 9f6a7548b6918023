/-! segments: take, parse, grow, print -/
set_option maxRecDepth 20000 in
theorem mp_taA_0 (h : sm_H) (d : Nat) : mi_path [(231, (2, 1, sb_231))] sx_sk h 6 [] (d, 231, 0, [some (.inr (.inr 109)), none], [], [], []) = some ((d, 231, 10, [some (.inr (.inr 109)), some (.inl ((0 : Int)))], [], [.inl (14015, mi_f h 14016)], []), [0 ≤ (mi_f h 14016) ∧ (mi_f h 14016) ≤ 100]) := rfl
theorem mi_tab_taA_0 : ∀ e ∈ ([(231, (2, 1, sb_231))] : mi_T), sc_P e.1 = some e.2 := mi_tb mi_P231 (mi_tb_e)
set_option maxRecDepth 20000 in
theorem ms_taA_0 {h : sm_H} {d : Nat} {Q : Option mi_V → sm_H → Prop} (hS : ab_Sh sx_sk h)  (ho : (0 ≤ (mi_f h 14016) ∧ (mi_f h 14016) ≤ 100)) (kon : ∀ h1, me_W [.inl (14015, mi_f h 14016)] h h1 → me_E (d) 231 10 [some (.inr (.inr 109)), some (.inl ((0 : Int)))] [] h1 Q) : me_E (d) 231 0 [some (.inr (.inr 109)), none] [] h Q := me_seg (mp_taA_0 h d ) (mi_tab_taA_0) hS (mi_okL_c (trivial) (mi_okL_n (mi_okL_e))) (mi_okS_e) (mi_al (ho) (mi_al_e)) (fun h1 W _ hst => kon h1 W)
set_option maxRecDepth 20000 in
theorem mt_taA {h : sm_H} {d : Nat} {Q : Option mi_V → sm_H → Prop} (hS : ab_Sh sx_sk h)  (k0 : (0 ≤ mi_f h 14016 ∧ mi_f h 14016 ≤ 100) → ((0 ≤ (mi_f h 14016) ∧ (mi_f h 14016) ≤ 100)) ∧ (∀ h1, ab_Sh sx_sk h1 → mi_f h1 14015 = mi_f h 14016 → ab_Fr [(14015, 14016)] h h1 → me_E (d) 231 10 [some (.inr (.inr 109)), some (.inl ((0 : Int)))] [] h1 Q)) : me_E (d) 231 0 [some (.inr (.inr 109)), none] [] h Q := ms_taA_0 hS ((k0 (me_fb hS rfl)).1) (fun h1 W => (k0 (me_fb hS rfl)).2 h1 W.1 (W.2.1 14015) (W.2.2.2.2.2 _ rfl))
set_option maxRecDepth 20000 in
theorem mp_taB_0 (h : sm_H) (d : Nat) (zk : Int) : mi_path [(231, (2, 1, sb_231))] sx_sk h 6 [1] (d, 231, 10, [some (.inr (.inr 109)), some (.inl (zk))], [], [], []) = some ((d, 231, 76, [some (.inr (.inr 109)), some (.inl (zk))], [.inl (mi_f h 14015)], [], []), [(mi_f h 14016) ≤ zk]) := rfl
theorem mi_tab_taB_0 : ∀ e ∈ ([(231, (2, 1, sb_231))] : mi_T), sc_P e.1 = some e.2 := mi_tb mi_P231 (mi_tb_e)
set_option maxRecDepth 20000 in
theorem ms_taB_0 {h : sm_H} {d : Nat} {Q : Option mi_V → sm_H → Prop} {zk : Int} (hS : ab_Sh sx_sk h) (ok_zk : mi_in zk) (ho : ((mi_f h 14016) ≤ zk)) (kon : ∀ h1, me_W [] h h1 → Q (some (.inl (mi_f h 14015))) h1) : me_E (d) 231 10 [some (.inr (.inr 109)), some (.inl (zk))] [] h Q := me_seg (mp_taB_0 h d zk) (mi_tab_taB_0) hS (mi_okL_c (trivial) (mi_okL_c (ok_zk) (mi_okL_e))) (mi_okS_e) (mi_al (ho) (mi_al_e)) (fun h1 W _ hst => me_ret (M := (2, 1, sb_231)) rfl rfl rfl hst (mi_al_e) (kon h1 W))
set_option maxRecDepth 20000 in
theorem mp_taB_1 (h : sm_H) (d : Nat) (zk : Int) : mi_path [(231, (2, 1, sb_231))] sx_sk h 38 [0] (d, 231, 10, [some (.inr (.inr 109)), some (.inl (zk))], [], [], []) = some ((d, 231, 10, [some (.inr (.inr 109)), some (.inl (zk + 1))], [], [.inr (.inr (.inl (157, Int.toNat zk, mi_a h 160 (Int.toNat zk)))), .inr (.inr (.inl (156, Int.toNat zk, mi_a h 159 (Int.toNat zk)))), .inr (.inr (.inr (162, Int.toNat zk, mx_b h 163 (Int.toNat zk)))), .inr (.inr (.inl (155, Int.toNat zk, mi_a h 158 (Int.toNat zk))))], []), [zk < (mi_f h 14016), 0 ≤ zk ∧ zk < 100, 0 ≤ zk ∧ zk < 100, 0 ≤ zk ∧ zk < 100, 0 ≤ zk ∧ zk < 100, 0 ≤ zk ∧ zk < 100, 0 ≤ zk ∧ zk < 100, 0 ≤ zk ∧ zk < 100, 0 ≤ zk ∧ zk < 100, 0 ≤ (mi_a h 160 (Int.toNat zk)) ∧ (mi_a h 160 (Int.toNat zk)) ≤ 99, -2147483648 ≤ zk + 1 ∧ zk + 1 ≤ 2147483647]) := rfl
theorem mi_tab_taB_1 : ∀ e ∈ ([(231, (2, 1, sb_231))] : mi_T), sc_P e.1 = some e.2 := mi_tb mi_P231 (mi_tb_e)
set_option maxRecDepth 20000 in
theorem ms_taB_1 {h : sm_H} {d : Nat} {Q : Option mi_V → sm_H → Prop} {zk : Int} (hS : ab_Sh sx_sk h) (ok_zk : mi_in zk) (ho : (zk < (mi_f h 14016)) ∧ (0 ≤ zk ∧ zk < 100) ∧ (0 ≤ zk ∧ zk < 100) ∧ (0 ≤ zk ∧ zk < 100) ∧ (0 ≤ zk ∧ zk < 100) ∧ (0 ≤ zk ∧ zk < 100) ∧ (0 ≤ zk ∧ zk < 100) ∧ (0 ≤ zk ∧ zk < 100) ∧ (0 ≤ zk ∧ zk < 100) ∧ (0 ≤ (mi_a h 160 (Int.toNat zk)) ∧ (mi_a h 160 (Int.toNat zk)) ≤ 99) ∧ (-2147483648 ≤ zk + 1 ∧ zk + 1 ≤ 2147483647)) (kon : ∀ h1, me_W [.inr (.inr (.inl (157, Int.toNat zk, mi_a h 160 (Int.toNat zk)))), .inr (.inr (.inl (156, Int.toNat zk, mi_a h 159 (Int.toNat zk)))), .inr (.inr (.inr (162, Int.toNat zk, mx_b h 163 (Int.toNat zk)))), .inr (.inr (.inl (155, Int.toNat zk, mi_a h 158 (Int.toNat zk))))] h h1 → me_E (d) 231 10 [some (.inr (.inr 109)), some (.inl (zk + 1))] [] h1 Q) : me_E (d) 231 10 [some (.inr (.inr 109)), some (.inl (zk))] [] h Q := me_seg (mp_taB_1 h d zk) (mi_tab_taB_1) hS (mi_okL_c (trivial) (mi_okL_c (ok_zk) (mi_okL_e))) (mi_okS_e) (mi_al (ho.1) (mi_al (ho.2.1) (mi_al (ho.2.2.1) (mi_al (ho.2.2.2.1) (mi_al (ho.2.2.2.2.1) (mi_al (ho.2.2.2.2.2.1) (mi_al (ho.2.2.2.2.2.2.1) (mi_al (ho.2.2.2.2.2.2.2.1) (mi_al (ho.2.2.2.2.2.2.2.2.1) (mi_al (ho.2.2.2.2.2.2.2.2.2.1) (mi_al (ho.2.2.2.2.2.2.2.2.2.2) (mi_al_e)))))))))))) (fun h1 W _ hst => kon h1 W)
set_option maxRecDepth 20000 in
theorem mt_taB {h : sm_H} {d : Nat} {Q : Option mi_V → sm_H → Prop} {zk : Int} (hS : ab_Sh sx_sk h) (ok_zk : mi_in zk) (k0 : (0 ≤ mi_f h 14016 ∧ mi_f h 14016 ≤ 100) → ((mi_f h 14016) ≤ zk) → (∀ h1, ab_Sh sx_sk h1 → ab_Fr [] h h1 → Q (some (.inl (mi_f h 14015))) h1)) (k1 : (0 ≤ mi_f h 14016 ∧ mi_f h 14016 ≤ 100) → (zk < (mi_f h 14016)) → ((0 ≤ zk ∧ zk < 100) ∧ (0 ≤ (mi_a h 160 (Int.toNat zk)) ∧ (mi_a h 160 (Int.toNat zk)) ≤ 99) ∧ (-2147483648 ≤ zk + 1 ∧ zk + 1 ≤ 2147483647)) ∧ (∀ h1, ab_Sh sx_sk h1 → (∀ i, mi_a h1 155 i = if i = Int.toNat zk then mi_a h 158 (Int.toNat zk) else (mi_a h 155 i)) → (∀ i, mi_a h1 156 i = if i = Int.toNat zk then mi_a h 159 (Int.toNat zk) else (mi_a h 156 i)) → (∀ i, mi_a h1 157 i = if i = Int.toNat zk then mi_a h 160 (Int.toNat zk) else (mi_a h 157 i)) → (∀ i, mx_b h1 162 i = if i = Int.toNat zk then mx_b h 163 (Int.toNat zk) else (mx_b h 162 i)) → ab_Fr [(19840, 19841), (19968, 19969), (20096, 20097), (20736, 20737)] h h1 → me_E (d) 231 10 [some (.inr (.inr 109)), some (.inl (zk + 1))] [] h1 Q)) : me_E (d) 231 10 [some (.inr (.inr 109)), some (.inl (zk))] [] h Q := Or.elim (mi_em .ge (zk) ((mi_f h 14016))) (fun c0 => ms_taB_0 hS ok_zk (c0) (fun h1 W => (k0 (me_fb hS rfl) c0) h1 W.1 (W.2.2.2.2.2 _ rfl))) (fun c0 => ms_taB_1 hS ok_zk ⟨c0, (k1 (me_fb hS rfl) c0).1.1, (k1 (me_fb hS rfl) c0).1.1, (k1 (me_fb hS rfl) c0).1.1, (k1 (me_fb hS rfl) c0).1.1, (k1 (me_fb hS rfl) c0).1.1, (k1 (me_fb hS rfl) c0).1.1, (k1 (me_fb hS rfl) c0).1.1, (k1 (me_fb hS rfl) c0).1.1, (k1 (me_fb hS rfl) c0).1.2.1, (k1 (me_fb hS rfl) c0).1.2.2⟩ (fun h1 W => (k1 (me_fb hS rfl) c0).2 h1 W.1 (fun i => W.2.2.1 155 i) (fun i => W.2.2.1 156 i) (fun i => W.2.2.1 157 i) (fun i => W.2.2.2.2.1 162 i) (W.2.2.2.2.2 _ rfl)))
set_option maxRecDepth 20000 in
theorem mp_paA_0 (h : sm_H) (d : Nat) : mi_path [(228, (1, 1, sb_228))] sx_sk h 11 [1, 1] (d + 20, 228, 0, [some (.inr (.inr 109))], [], [], []) = some ((d + 20, 228, 27, [some (.inr (.inr 109))], [.inr (.inr 109)], [.inl (13952, (0 : Int))], []), [((2 : Int)) ≤ (mi_f h 13959), ((0 : Int)) ≤ ((0 : Int))]) := rfl
theorem mi_tab_paA_0 : ∀ e ∈ ([(228, (1, 1, sb_228))] : mi_T), sc_P e.1 = some e.2 := mi_tb mi_P228 (mi_tb_e)
set_option maxRecDepth 20000 in
theorem ms_paA_0 {h : sm_H} {d : Nat} {Q : Option mi_V → sm_H → Prop} (hS : ab_Sh sx_sk h)  (ho : (((2 : Int)) ≤ (mi_f h 13959)) ∧ (((0 : Int)) ≤ ((0 : Int)))) (kon : ∀ h1, me_W [.inl (13952, (0 : Int))] h h1 → ∃ Q1, me_E (d + 19) 229 0 (mi_entry 8 [.inr (.inr 109)]) [] h1 Q1 ∧ ∀ w h2, (∀ x, w = some x → mi_ok x) → Q1 w h2 → me_E (d + 20) 228 30 [some (.inr (.inr 109))] (mi_back w []) h2 Q) : me_E (d + 20) 228 0 [some (.inr (.inr 109))] [] h Q := me_seg (mp_paA_0 h d ) (mi_tab_paA_0) hS (mi_okL_c (trivial) (mi_okL_e)) (mi_okS_e) (mi_al (ho.1) (mi_al (ho.2) (mi_al_e))) (fun h1 W _ hst => let ⟨_, k1, k2⟩ := kon h1 W; me_call (M := (1, 1, sb_228)) (M' := (8, 0, sb_229)) rfl rfl rfl rfl (Nat.le_of_ble_eq_true rfl) (Nat.le_of_ble_eq_true rfl) W.1 k1 k2)
set_option maxRecDepth 20000 in
theorem mp_paA_1 (h : sm_H) (d : Nat) : mi_path [(228, (1, 1, sb_228))] sx_sk h 12 [0, 0] (d + 20, 228, 0, [some (.inr (.inr 109))], [], [], []) = some ((d + 20, 228, 25, [some (.inr (.inr 109))], [.inl ((0 : Int))], [.inl (13952, (1 : Int))], []), [(mi_f h 13959) < ((2 : Int)), ((0 : Int)) < ((1 : Int))]) := rfl
theorem mi_tab_paA_1 : ∀ e ∈ ([(228, (1, 1, sb_228))] : mi_T), sc_P e.1 = some e.2 := mi_tb mi_P228 (mi_tb_e)
set_option maxRecDepth 20000 in
theorem ms_paA_1 {h : sm_H} {d : Nat} {Q : Option mi_V → sm_H → Prop} (hS : ab_Sh sx_sk h)  (ho : ((mi_f h 13959) < ((2 : Int))) ∧ (((0 : Int)) < ((1 : Int)))) (kon : ∀ h1, me_W [.inl (13952, (1 : Int))] h h1 → Q (some (.inl ((0 : Int)))) h1) : me_E (d + 20) 228 0 [some (.inr (.inr 109))] [] h Q := me_seg (mp_paA_1 h d ) (mi_tab_paA_1) hS (mi_okL_c (trivial) (mi_okL_e)) (mi_okS_e) (mi_al (ho.1) (mi_al (ho.2) (mi_al_e))) (fun h1 W _ hst => me_ret (M := (1, 1, sb_228)) rfl rfl rfl hst (mi_al_e) (kon h1 W))
set_option maxRecDepth 20000 in
theorem mt_paA {h : sm_H} {d : Nat} {Q : Option mi_V → sm_H → Prop} (hS : ab_Sh sx_sk h)  (k0 : ((-2147483648) ≤ mi_f h 13959 ∧ mi_f h 13959 ≤ 2147483647) → (((2 : Int)) ≤ (mi_f h 13959)) → (∀ h1, ab_Sh sx_sk h1 → mi_f h1 13952 = (0 : Int) → ab_Fr [(13952, 13953)] h h1 → ∃ Q1, me_E (d + 19) 229 0 (mi_entry 8 [.inr (.inr 109)]) [] h1 Q1 ∧ ∀ w h2, (∀ x, w = some x → mi_ok x) → Q1 w h2 → me_E (d + 20) 228 30 [some (.inr (.inr 109))] (mi_back w []) h2 Q)) (k1 : ((-2147483648) ≤ mi_f h 13959 ∧ mi_f h 13959 ≤ 2147483647) → ((mi_f h 13959) < ((2 : Int))) → (∀ h1, ab_Sh sx_sk h1 → mi_f h1 13952 = (1 : Int) → ab_Fr [(13952, 13953)] h h1 → Q (some (.inl ((0 : Int)))) h1)) : me_E (d + 20) 228 0 [some (.inr (.inr 109))] [] h Q := Or.elim (mi_em .ge ((mi_f h 13959)) (((2 : Int)))) (fun c0 => ms_paA_0 hS ⟨c0, (by decide)⟩ (fun h1 W => (k0 (me_fb hS rfl) c0) h1 W.1 (W.2.1 13952) (W.2.2.2.2.2 _ rfl))) (fun c0 => ms_paA_1 hS ⟨c0, (by decide)⟩ (fun h1 W => (k1 (me_fb hS rfl) c0) h1 W.1 (W.2.1 13952) (W.2.2.2.2.2 _ rfl)))
set_option maxRecDepth 20000 in
theorem mp_paB_0 (h : sm_H) (d : Nat) : mi_path [(228, (1, 1, sb_228))] sx_sk h 2 [] (d + 20, 228, 30, [some (.inr (.inr 109))], [], [], []) = some ((d + 20, 228, 32, [some (.inr (.inr 109))], [.inl ((0 : Int)), .inr (.inr 109)], [], []), []) := rfl
theorem mi_tab_paB_0 : ∀ e ∈ ([(228, (1, 1, sb_228))] : mi_T), sc_P e.1 = some e.2 := mi_tb mi_P228 (mi_tb_e)
set_option maxRecDepth 20000 in
theorem ms_paB_0 {h : sm_H} {d : Nat} {Q : Option mi_V → sm_H → Prop} (hS : ab_Sh sx_sk h)  (kon : ∀ h1, me_W [] h h1 → ∃ Q1, me_E (d + 19) 206 0 (mi_entry 5 [.inr (.inr 109), .inl ((0 : Int))]) [] h1 Q1 ∧ ∀ w h2, (∀ x, w = some x → mi_ok x) → Q1 w h2 → me_E (d + 20) 228 35 [some (.inr (.inr 109))] (mi_back w []) h2 Q) : me_E (d + 20) 228 30 [some (.inr (.inr 109))] [] h Q := me_seg (mp_paB_0 h d ) (mi_tab_paB_0) hS (mi_okL_c (trivial) (mi_okL_e)) (mi_okS_e) (mi_al_e) (fun h1 W _ hst => let ⟨_, k1, k2⟩ := kon h1 W; me_call (M := (1, 1, sb_228)) (M' := (5, 0, sb_206)) rfl rfl rfl rfl (Nat.le_of_ble_eq_true rfl) (Nat.le_of_ble_eq_true rfl) W.1 k1 k2)
set_option maxRecDepth 20000 in
theorem mt_paB {h : sm_H} {d : Nat} {Q : Option mi_V → sm_H → Prop} (hS : ab_Sh sx_sk h)  (k0 : (∀ h1, ab_Sh sx_sk h1 → ab_Fr [] h h1 → ∃ Q1, me_E (d + 19) 206 0 (mi_entry 5 [.inr (.inr 109), .inl ((0 : Int))]) [] h1 Q1 ∧ ∀ w h2, (∀ x, w = some x → mi_ok x) → Q1 w h2 → me_E (d + 20) 228 35 [some (.inr (.inr 109))] (mi_back w []) h2 Q)) : me_E (d + 20) 228 30 [some (.inr (.inr 109))] [] h Q := ms_paB_0 hS (fun h1 W => (k0) h1 W.1 (W.2.2.2.2.2 _ rfl))
set_option maxRecDepth 20000 in
theorem mp_paC_0 (h : sm_H) (d : Nat) : mi_path [(228, (1, 1, sb_228))] sx_sk h 13 [1, 1, 1] (d + 20, 228, 35, [some (.inr (.inr 109))], [], [], []) = some ((d + 20, 228, 77, [some (.inr (.inr 109))], [.inr (.inr 109)], [.inl (13952, (0 : Int))], []), [(mi_f h 14044) = ((0 : Int)), (mi_f h 14044) = ((0 : Int)), (mi_f h 14034) < ((0 : Int))]) := rfl
theorem mi_tab_paC_0 : ∀ e ∈ ([(228, (1, 1, sb_228))] : mi_T), sc_P e.1 = some e.2 := mi_tb mi_P228 (mi_tb_e)
set_option maxRecDepth 20000 in
theorem ms_paC_0 {h : sm_H} {d : Nat} {Q : Option mi_V → sm_H → Prop} (hS : ab_Sh sx_sk h)  (ho : ((mi_f h 14044) = ((0 : Int))) ∧ ((mi_f h 14044) = ((0 : Int))) ∧ ((mi_f h 14034) < ((0 : Int)))) (kon : ∀ h1, me_W [.inl (13952, (0 : Int))] h h1 → ∃ Q1, me_E (d + 19) 231 0 (mi_entry 2 [.inr (.inr 109)]) [] h1 Q1 ∧ ∀ w h2, (∀ x, w = some x → mi_ok x) → Q1 w h2 → me_E (d + 20) 228 80 [some (.inr (.inr 109))] (mi_back w []) h2 Q) : me_E (d + 20) 228 35 [some (.inr (.inr 109))] [] h Q := me_seg (mp_paC_0 h d ) (mi_tab_paC_0) hS (mi_okL_c (trivial) (mi_okL_e)) (mi_okS_e) (mi_al (ho.1) (mi_al (ho.2.1) (mi_al (ho.2.2) (mi_al_e)))) (fun h1 W _ hst => let ⟨_, k1, k2⟩ := kon h1 W; me_call (M := (1, 1, sb_228)) (M' := (2, 1, sb_231)) rfl rfl rfl rfl (Nat.le_of_ble_eq_true rfl) (Nat.le_of_ble_eq_true rfl) W.1 k1 k2)
set_option maxRecDepth 20000 in
theorem mp_paC_1 (h : sm_H) (d : Nat) : mi_path [(228, (1, 1, sb_228))] sx_sk h 17 [1, 1, 0, 8] (d + 20, 228, 35, [some (.inr (.inr 109))], [], [], []) = some ((d + 20, 228, 80, [some (.inr (.inr 109))], [.inl (((-1 : Int)) - (mi_f h 14034))], [.inl (13952, (0 : Int))], []), [(mi_f h 14044) = ((0 : Int)), (mi_f h 14044) = ((0 : Int)), ((0 : Int)) ≤ (mi_f h 14034), -2147483648 ≤ ((-1 : Int)) - (mi_f h 14034) ∧ ((-1 : Int)) - (mi_f h 14034) ≤ 2147483647]) := rfl
theorem mi_tab_paC_1 : ∀ e ∈ ([(228, (1, 1, sb_228))] : mi_T), sc_P e.1 = some e.2 := mi_tb mi_P228 (mi_tb_e)
set_option maxRecDepth 20000 in
theorem ms_paC_1 {h : sm_H} {d : Nat} {Q : Option mi_V → sm_H → Prop} (hS : ab_Sh sx_sk h)  (ho : ((mi_f h 14044) = ((0 : Int))) ∧ ((mi_f h 14044) = ((0 : Int))) ∧ (((0 : Int)) ≤ (mi_f h 14034)) ∧ (-2147483648 ≤ ((-1 : Int)) - (mi_f h 14034) ∧ ((-1 : Int)) - (mi_f h 14034) ≤ 2147483647)) (kon : ∀ h1, me_W [.inl (13952, (0 : Int))] h h1 → Q (some (.inl (((-1 : Int)) - (mi_f h 14034)))) h1) : me_E (d + 20) 228 35 [some (.inr (.inr 109))] [] h Q := me_seg (mp_paC_1 h d ) (mi_tab_paC_1) hS (mi_okL_c (trivial) (mi_okL_e)) (mi_okS_e) (mi_al (ho.1) (mi_al (ho.2.1) (mi_al (ho.2.2.1) (mi_al (ho.2.2.2) (mi_al_e))))) (fun h1 W _ hst => me_ret (M := (1, 1, sb_228)) rfl rfl rfl hst (mi_al_e) (kon h1 W))
set_option maxRecDepth 20000 in
theorem mp_paC_2 (h : sm_H) (d : Nat) : mi_path [(228, (1, 1, sb_228))] sx_sk h 11 [0, 0] (d + 20, 228, 35, [some (.inr (.inr 109))], [], [], []) = some ((d + 20, 228, 59, [some (.inr (.inr 109))], [.inl ((0 : Int))], [.inl (13952, (2 : Int))], []), [(mi_f h 14044) ≠ ((0 : Int)), (mi_f h 14044) ≠ ((0 : Int))]) := rfl
theorem mi_tab_paC_2 : ∀ e ∈ ([(228, (1, 1, sb_228))] : mi_T), sc_P e.1 = some e.2 := mi_tb mi_P228 (mi_tb_e)
set_option maxRecDepth 20000 in
theorem ms_paC_2 {h : sm_H} {d : Nat} {Q : Option mi_V → sm_H → Prop} (hS : ab_Sh sx_sk h)  (ho : ((mi_f h 14044) ≠ ((0 : Int))) ∧ ((mi_f h 14044) ≠ ((0 : Int)))) (kon : ∀ h1, me_W [.inl (13952, (2 : Int))] h h1 → Q (some (.inl ((0 : Int)))) h1) : me_E (d + 20) 228 35 [some (.inr (.inr 109))] [] h Q := me_seg (mp_paC_2 h d ) (mi_tab_paC_2) hS (mi_okL_c (trivial) (mi_okL_e)) (mi_okS_e) (mi_al (ho.1) (mi_al (ho.2) (mi_al_e))) (fun h1 W _ hst => me_ret (M := (1, 1, sb_228)) rfl rfl rfl hst (mi_al_e) (kon h1 W))
set_option maxRecDepth 20000 in
theorem mt_paC {h : sm_H} {d : Nat} {Q : Option mi_V → sm_H → Prop} (hS : ab_Sh sx_sk h)  (k0 : (0 ≤ mi_f h 14044 ∧ mi_f h 14044 ≤ 1) → ((-2147483648) ≤ mi_f h 14034 ∧ mi_f h 14034 ≤ 2147483647) → ((mi_f h 14044) = ((0 : Int))) → ((mi_f h 14034) < ((0 : Int))) → (∀ h1, ab_Sh sx_sk h1 → mi_f h1 13952 = (0 : Int) → ab_Fr [(13952, 13953)] h h1 → ∃ Q1, me_E (d + 19) 231 0 (mi_entry 2 [.inr (.inr 109)]) [] h1 Q1 ∧ ∀ w h2, (∀ x, w = some x → mi_ok x) → Q1 w h2 → me_E (d + 20) 228 80 [some (.inr (.inr 109))] (mi_back w []) h2 Q)) (k1 : (0 ≤ mi_f h 14044 ∧ mi_f h 14044 ≤ 1) → ((-2147483648) ≤ mi_f h 14034 ∧ mi_f h 14034 ≤ 2147483647) → ((mi_f h 14044) = ((0 : Int))) → (((0 : Int)) ≤ (mi_f h 14034)) → ((-2147483648 ≤ ((-1 : Int)) - (mi_f h 14034) ∧ ((-1 : Int)) - (mi_f h 14034) ≤ 2147483647)) ∧ (∀ h1, ab_Sh sx_sk h1 → mi_f h1 13952 = (0 : Int) → ab_Fr [(13952, 13953)] h h1 → Q (some (.inl (((-1 : Int)) - (mi_f h 14034)))) h1)) (k2 : (0 ≤ mi_f h 14044 ∧ mi_f h 14044 ≤ 1) → ((mi_f h 14044) ≠ ((0 : Int))) → (∀ h1, ab_Sh sx_sk h1 → mi_f h1 13952 = (2 : Int) → ab_Fr [(13952, 13953)] h h1 → Q (some (.inl ((0 : Int)))) h1)) : me_E (d + 20) 228 35 [some (.inr (.inr 109))] [] h Q := Or.elim (mi_em .eq ((mi_f h 14044)) (((0 : Int)))) (fun c0 => Or.elim (mi_em .lt ((mi_f h 14034)) (((0 : Int)))) (fun c1 => ms_paC_0 hS ⟨c0, c0, c1⟩ (fun h1 W => (k0 (me_fb hS rfl) (me_fb hS rfl) c0 c1) h1 W.1 (W.2.1 13952) (W.2.2.2.2.2 _ rfl))) (fun c1 => ms_paC_1 hS ⟨c0, c0, c1, (k1 (me_fb hS rfl) (me_fb hS rfl) c0 c1).1⟩ (fun h1 W => (k1 (me_fb hS rfl) (me_fb hS rfl) c0 c1).2 h1 W.1 (W.2.1 13952) (W.2.2.2.2.2 _ rfl)))) (fun c0 => ms_paC_2 hS ⟨c0, c0⟩ (fun h1 W => (k2 (me_fb hS rfl) c0) h1 W.1 (W.2.1 13952) (W.2.2.2.2.2 _ rfl)))
set_option maxRecDepth 20000 in
theorem mp_paD_0 (h : sm_H) (d : Nat) (zz : Int) : mi_path [(228, (1, 1, sb_228))] sx_sk h 0 [] (d + 20, 228, 80, [some (.inr (.inr 109))], [.inl (zz)], [], []) = some ((d + 20, 228, 80, [some (.inr (.inr 109))], [.inl (zz)], [], []), []) := rfl
theorem mi_tab_paD_0 : ∀ e ∈ ([(228, (1, 1, sb_228))] : mi_T), sc_P e.1 = some e.2 := mi_tb mi_P228 (mi_tb_e)
set_option maxRecDepth 20000 in
theorem ms_paD_0 {h : sm_H} {d : Nat} {Q : Option mi_V → sm_H → Prop} {zz : Int} (hS : ab_Sh sx_sk h) (ok_zz : mi_in zz) (kon : ∀ h1, me_W [] h h1 → Q (some (.inl (zz))) h1) : me_E (d + 20) 228 80 [some (.inr (.inr 109))] [.inl (zz)] h Q := me_seg (mp_paD_0 h d zz) (mi_tab_paD_0) hS (mi_okL_c (trivial) (mi_okL_e)) (mi_okS_cons (ok_zz) (mi_okS_e)) (mi_al_e) (fun h1 W _ hst => me_ret (M := (1, 1, sb_228)) rfl rfl rfl hst (mi_al_e) (kon h1 W))
set_option maxRecDepth 20000 in
theorem mt_paD {h : sm_H} {d : Nat} {Q : Option mi_V → sm_H → Prop} {zz : Int} (hS : ab_Sh sx_sk h) (ok_zz : mi_in zz) (k0 : (∀ h1, ab_Sh sx_sk h1 → ab_Fr [] h h1 → Q (some (.inl (zz))) h1)) : me_E (d + 20) 228 80 [some (.inr (.inr 109))] [.inl (zz)] h Q := ms_paD_0 hS ok_zz (fun h1 W => (k0) h1 W.1 (W.2.2.2.2.2 _ rfl))
set_option maxRecDepth 20000 in
theorem mp_groA_0 (h : sm_H) (d : Nat) (zf : Int) (zx : Int64) : mi_path [(232, (4, 1, sb_232))] sx_sk h 10 [1, 0] (d + 20, 232, 0, [some (.inr (.inr 109)), some (.inr (.inl (zx))), none, some (.inl (zf))], [], [], []) = some ((d + 20, 232, 39, [some (.inr (.inr 109)), some (.inr (.inl (zx))), none, some (.inl (zf))], [.inl ((0 : Int))], [.inl (13952, (1 : Int))], []), [zf < ((0 : Int)), ((0 : Int)) < ((1 : Int))]) := rfl
theorem mi_tab_groA_0 : ∀ e ∈ ([(232, (4, 1, sb_232))] : mi_T), sc_P e.1 = some e.2 := mi_tb mi_P232 (mi_tb_e)
set_option maxRecDepth 20000 in
theorem ms_groA_0 {h : sm_H} {d : Nat} {Q : Option mi_V → sm_H → Prop} {zf : Int} {zx : Int64} (hS : ab_Sh sx_sk h) (ok_zf : mi_in zf) (ho : (zf < ((0 : Int))) ∧ (((0 : Int)) < ((1 : Int)))) (kon : ∀ h1, me_W [.inl (13952, (1 : Int))] h h1 → Q (some (.inl ((0 : Int)))) h1) : me_E (d + 20) 232 0 [some (.inr (.inr 109)), some (.inr (.inl (zx))), none, some (.inl (zf))] [] h Q := me_seg (mp_groA_0 h d zf zx) (mi_tab_groA_0) hS (mi_okL_c (trivial) (mi_okL_c (trivial) (mi_okL_n (mi_okL_c (ok_zf) (mi_okL_e))))) (mi_okS_e) (mi_al (ho.1) (mi_al (ho.2) (mi_al_e))) (fun h1 W _ hst => me_ret (M := (4, 1, sb_232)) rfl rfl rfl hst (mi_al_e) (kon h1 W))
set_option maxRecDepth 20000 in
theorem mp_groA_1 (h : sm_H) (d : Nat) (zf : Int) (zx : Int64) : mi_path [(232, (4, 1, sb_232))] sx_sk h 23 [0, 1, 1, 1] (d + 20, 232, 0, [some (.inr (.inr 109)), some (.inr (.inl (zx))), none, some (.inl (zf))], [], [], []) = some ((d + 20, 232, 52, [some (.inr (.inr 109)), some (.inr (.inl (zx))), none, some (.inl (zf))], [.inl ((1 : Int)), .inr (.inr 109)], [.inl (14035, zf), .inr (.inl (14047, zx)), .inl (13952, (0 : Int))], []), [((0 : Int)) ≤ zf, zf ≤ ((20 : Int)), ((2 : Int)) ≤ (mi_f h 13959), ((0 : Int)) ≤ ((0 : Int))]) := rfl
theorem mi_tab_groA_1 : ∀ e ∈ ([(232, (4, 1, sb_232))] : mi_T), sc_P e.1 = some e.2 := mi_tb mi_P232 (mi_tb_e)
set_option maxRecDepth 20000 in
theorem ms_groA_1 {h : sm_H} {d : Nat} {Q : Option mi_V → sm_H → Prop} {zf : Int} {zx : Int64} (hS : ab_Sh sx_sk h) (ok_zf : mi_in zf) (ho : (((0 : Int)) ≤ zf) ∧ (zf ≤ ((20 : Int))) ∧ (((2 : Int)) ≤ (mi_f h 13959)) ∧ (((0 : Int)) ≤ ((0 : Int)))) (kon : ∀ h1, me_W [.inl (14035, zf), .inr (.inl (14047, zx)), .inl (13952, (0 : Int))] h h1 → ∃ Q1, me_E (d + 19) 206 0 (mi_entry 5 [.inr (.inr 109), .inl ((1 : Int))]) [] h1 Q1 ∧ ∀ w h2, (∀ x, w = some x → mi_ok x) → Q1 w h2 → me_E (d + 20) 232 55 [some (.inr (.inr 109)), some (.inr (.inl (zx))), none, some (.inl (zf))] (mi_back w []) h2 Q) : me_E (d + 20) 232 0 [some (.inr (.inr 109)), some (.inr (.inl (zx))), none, some (.inl (zf))] [] h Q := me_seg (mp_groA_1 h d zf zx) (mi_tab_groA_1) hS (mi_okL_c (trivial) (mi_okL_c (trivial) (mi_okL_n (mi_okL_c (ok_zf) (mi_okL_e))))) (mi_okS_e) (mi_al (ho.1) (mi_al (ho.2.1) (mi_al (ho.2.2.1) (mi_al (ho.2.2.2) (mi_al_e))))) (fun h1 W _ hst => let ⟨_, k1, k2⟩ := kon h1 W; me_call (M := (4, 1, sb_232)) (M' := (5, 0, sb_206)) rfl rfl rfl rfl (Nat.le_of_ble_eq_true rfl) (Nat.le_of_ble_eq_true rfl) W.1 k1 k2)
set_option maxRecDepth 20000 in
theorem mp_groA_2 (h : sm_H) (d : Nat) (zf : Int) (zx : Int64) : mi_path [(232, (4, 1, sb_232))] sx_sk h 17 [0, 1, 0, 0] (d + 20, 232, 0, [some (.inr (.inr 109)), some (.inr (.inl (zx))), none, some (.inl (zf))], [], [], []) = some ((d + 20, 232, 39, [some (.inr (.inr 109)), some (.inr (.inl (zx))), none, some (.inl (zf))], [.inl ((0 : Int))], [.inl (13952, (2 : Int))], []), [((0 : Int)) ≤ zf, zf ≤ ((20 : Int)), (mi_f h 13959) < ((2 : Int)), ((0 : Int)) < ((2 : Int))]) := rfl
theorem mi_tab_groA_2 : ∀ e ∈ ([(232, (4, 1, sb_232))] : mi_T), sc_P e.1 = some e.2 := mi_tb mi_P232 (mi_tb_e)
set_option maxRecDepth 20000 in
theorem ms_groA_2 {h : sm_H} {d : Nat} {Q : Option mi_V → sm_H → Prop} {zf : Int} {zx : Int64} (hS : ab_Sh sx_sk h) (ok_zf : mi_in zf) (ho : (((0 : Int)) ≤ zf) ∧ (zf ≤ ((20 : Int))) ∧ ((mi_f h 13959) < ((2 : Int))) ∧ (((0 : Int)) < ((2 : Int)))) (kon : ∀ h1, me_W [.inl (13952, (2 : Int))] h h1 → Q (some (.inl ((0 : Int)))) h1) : me_E (d + 20) 232 0 [some (.inr (.inr 109)), some (.inr (.inl (zx))), none, some (.inl (zf))] [] h Q := me_seg (mp_groA_2 h d zf zx) (mi_tab_groA_2) hS (mi_okL_c (trivial) (mi_okL_c (trivial) (mi_okL_n (mi_okL_c (ok_zf) (mi_okL_e))))) (mi_okS_e) (mi_al (ho.1) (mi_al (ho.2.1) (mi_al (ho.2.2.1) (mi_al (ho.2.2.2) (mi_al_e))))) (fun h1 W _ hst => me_ret (M := (4, 1, sb_232)) rfl rfl rfl hst (mi_al_e) (kon h1 W))
set_option maxRecDepth 20000 in
theorem mp_groA_3 (h : sm_H) (d : Nat) (zf : Int) (zx : Int64) : mi_path [(232, (4, 1, sb_232))] sx_sk h 13 [0, 0, 0] (d + 20, 232, 0, [some (.inr (.inr 109)), some (.inr (.inl (zx))), none, some (.inl (zf))], [], [], []) = some ((d + 20, 232, 39, [some (.inr (.inr 109)), some (.inr (.inl (zx))), none, some (.inl (zf))], [.inl ((0 : Int))], [.inl (13952, (1 : Int))], []), [((0 : Int)) ≤ zf, ((20 : Int)) < zf, ((0 : Int)) < ((1 : Int))]) := rfl
theorem mi_tab_groA_3 : ∀ e ∈ ([(232, (4, 1, sb_232))] : mi_T), sc_P e.1 = some e.2 := mi_tb mi_P232 (mi_tb_e)
set_option maxRecDepth 20000 in
theorem ms_groA_3 {h : sm_H} {d : Nat} {Q : Option mi_V → sm_H → Prop} {zf : Int} {zx : Int64} (hS : ab_Sh sx_sk h) (ok_zf : mi_in zf) (ho : (((0 : Int)) ≤ zf) ∧ (((20 : Int)) < zf) ∧ (((0 : Int)) < ((1 : Int)))) (kon : ∀ h1, me_W [.inl (13952, (1 : Int))] h h1 → Q (some (.inl ((0 : Int)))) h1) : me_E (d + 20) 232 0 [some (.inr (.inr 109)), some (.inr (.inl (zx))), none, some (.inl (zf))] [] h Q := me_seg (mp_groA_3 h d zf zx) (mi_tab_groA_3) hS (mi_okL_c (trivial) (mi_okL_c (trivial) (mi_okL_n (mi_okL_c (ok_zf) (mi_okL_e))))) (mi_okS_e) (mi_al (ho.1) (mi_al (ho.2.1) (mi_al (ho.2.2) (mi_al_e)))) (fun h1 W _ hst => me_ret (M := (4, 1, sb_232)) rfl rfl rfl hst (mi_al_e) (kon h1 W))
set_option maxRecDepth 20000 in
theorem mt_groA {h : sm_H} {d : Nat} {Q : Option mi_V → sm_H → Prop} {zf : Int} {zx : Int64} (hS : ab_Sh sx_sk h) (ok_zf : mi_in zf) (k0 : (zf < ((0 : Int))) → (∀ h1, ab_Sh sx_sk h1 → mi_f h1 13952 = (1 : Int) → ab_Fr [(13952, 13953)] h h1 → Q (some (.inl ((0 : Int)))) h1)) (k1 : ((-2147483648) ≤ mi_f h 13959 ∧ mi_f h 13959 ≤ 2147483647) → (((0 : Int)) ≤ zf) → (zf ≤ ((20 : Int))) → (((2 : Int)) ≤ (mi_f h 13959)) → (∀ h1, ab_Sh sx_sk h1 → mi_f h1 13952 = (0 : Int) → mi_f h1 14035 = zf → mx_l h1 14047 = zx → ab_Fr [(13952, 13953), (14035, 14036), (14047, 14048)] h h1 → ∃ Q1, me_E (d + 19) 206 0 (mi_entry 5 [.inr (.inr 109), .inl ((1 : Int))]) [] h1 Q1 ∧ ∀ w h2, (∀ x, w = some x → mi_ok x) → Q1 w h2 → me_E (d + 20) 232 55 [some (.inr (.inr 109)), some (.inr (.inl (zx))), none, some (.inl (zf))] (mi_back w []) h2 Q)) (k2 : ((-2147483648) ≤ mi_f h 13959 ∧ mi_f h 13959 ≤ 2147483647) → (((0 : Int)) ≤ zf) → (zf ≤ ((20 : Int))) → ((mi_f h 13959) < ((2 : Int))) → (∀ h1, ab_Sh sx_sk h1 → mi_f h1 13952 = (2 : Int) → ab_Fr [(13952, 13953)] h h1 → Q (some (.inl ((0 : Int)))) h1)) (k3 : (((0 : Int)) ≤ zf) → (((20 : Int)) < zf) → (∀ h1, ab_Sh sx_sk h1 → mi_f h1 13952 = (1 : Int) → ab_Fr [(13952, 13953)] h h1 → Q (some (.inl ((0 : Int)))) h1)) : me_E (d + 20) 232 0 [some (.inr (.inr 109)), some (.inr (.inl (zx))), none, some (.inl (zf))] [] h Q := Or.elim (mi_em .lt (zf) (((0 : Int)))) (fun c0 => ms_groA_0 hS ok_zf ⟨c0, (by decide)⟩ (fun h1 W => (k0 c0) h1 W.1 (W.2.1 13952) (W.2.2.2.2.2 _ rfl))) (fun c0 => Or.elim (mi_em .le (zf) (((20 : Int)))) (fun c1 => Or.elim (mi_em .ge ((mi_f h 13959)) (((2 : Int)))) (fun c2 => ms_groA_1 hS ok_zf ⟨c0, c1, c2, (by decide)⟩ (fun h1 W => (k1 (me_fb hS rfl) c0 c1 c2) h1 W.1 (W.2.1 13952) (W.2.1 14035) (W.2.2.2.1 14047) (W.2.2.2.2.2 _ rfl))) (fun c2 => ms_groA_2 hS ok_zf ⟨c0, c1, c2, (by decide)⟩ (fun h1 W => (k2 (me_fb hS rfl) c0 c1 c2) h1 W.1 (W.2.1 13952) (W.2.2.2.2.2 _ rfl)))) (fun c1 => ms_groA_3 hS ok_zf ⟨c0, c1, (by decide)⟩ (fun h1 W => (k3 c0 c1) h1 W.1 (W.2.1 13952) (W.2.2.2.2.2 _ rfl))))
set_option maxRecDepth 20000 in
theorem mp_groB_0 (h : sm_H) (d : Nat) (zf : Int) (zx : Int64) : mi_path [(232, (4, 1, sb_232))] sx_sk h 10 [1, 1] (d + 20, 232, 55, [some (.inr (.inr 109)), some (.inr (.inl (zx))), none, some (.inl (zf))], [], [], []) = some ((d + 20, 232, 83, [some (.inr (.inr 109)), some (.inr (.inl (zx))), none, some (.inl (zf))], [.inr (.inr 109)], [.inl (13952, (0 : Int))], []), [(mi_f h 14044) = ((0 : Int)), (mi_f h 14044) = ((0 : Int))]) := rfl
theorem mi_tab_groB_0 : ∀ e ∈ ([(232, (4, 1, sb_232))] : mi_T), sc_P e.1 = some e.2 := mi_tb mi_P232 (mi_tb_e)
set_option maxRecDepth 20000 in
theorem ms_groB_0 {h : sm_H} {d : Nat} {Q : Option mi_V → sm_H → Prop} {zf : Int} {zx : Int64} (hS : ab_Sh sx_sk h) (ok_zf : mi_in zf) (ho : ((mi_f h 14044) = ((0 : Int))) ∧ ((mi_f h 14044) = ((0 : Int)))) (kon : ∀ h1, me_W [.inl (13952, (0 : Int))] h h1 → ∃ Q1, me_E (d + 19) 231 0 (mi_entry 2 [.inr (.inr 109)]) [] h1 Q1 ∧ ∀ w h2, (∀ x, w = some x → mi_ok x) → Q1 w h2 → me_E (d + 20) 232 86 [some (.inr (.inr 109)), some (.inr (.inl (zx))), none, some (.inl (zf))] (mi_back w []) h2 Q) : me_E (d + 20) 232 55 [some (.inr (.inr 109)), some (.inr (.inl (zx))), none, some (.inl (zf))] [] h Q := me_seg (mp_groB_0 h d zf zx) (mi_tab_groB_0) hS (mi_okL_c (trivial) (mi_okL_c (trivial) (mi_okL_n (mi_okL_c (ok_zf) (mi_okL_e))))) (mi_okS_e) (mi_al (ho.1) (mi_al (ho.2) (mi_al_e))) (fun h1 W _ hst => let ⟨_, k1, k2⟩ := kon h1 W; me_call (M := (4, 1, sb_232)) (M' := (2, 1, sb_231)) rfl rfl rfl rfl (Nat.le_of_ble_eq_true rfl) (Nat.le_of_ble_eq_true rfl) W.1 k1 k2)
set_option maxRecDepth 20000 in
theorem mp_groB_1 (h : sm_H) (d : Nat) (zf : Int) (zx : Int64) : mi_path [(232, (4, 1, sb_232))] sx_sk h 12 [0, 0] (d + 20, 232, 55, [some (.inr (.inr 109)), some (.inr (.inl (zx))), none, some (.inl (zf))], [], [], []) = some ((d + 20, 232, 86, [some (.inr (.inr 109)), some (.inr (.inl (zx))), none, some (.inl (zf))], [.inl ((0 : Int))], [.inl (13952, (3 : Int))], []), [(mi_f h 14044) ≠ ((0 : Int)), (mi_f h 14044) ≠ ((0 : Int))]) := rfl
theorem mi_tab_groB_1 : ∀ e ∈ ([(232, (4, 1, sb_232))] : mi_T), sc_P e.1 = some e.2 := mi_tb mi_P232 (mi_tb_e)
set_option maxRecDepth 20000 in
theorem ms_groB_1 {h : sm_H} {d : Nat} {Q : Option mi_V → sm_H → Prop} {zf : Int} {zx : Int64} (hS : ab_Sh sx_sk h) (ok_zf : mi_in zf) (ho : ((mi_f h 14044) ≠ ((0 : Int))) ∧ ((mi_f h 14044) ≠ ((0 : Int)))) (kon : ∀ h1, me_W [.inl (13952, (3 : Int))] h h1 → Q (some (.inl ((0 : Int)))) h1) : me_E (d + 20) 232 55 [some (.inr (.inr 109)), some (.inr (.inl (zx))), none, some (.inl (zf))] [] h Q := me_seg (mp_groB_1 h d zf zx) (mi_tab_groB_1) hS (mi_okL_c (trivial) (mi_okL_c (trivial) (mi_okL_n (mi_okL_c (ok_zf) (mi_okL_e))))) (mi_okS_e) (mi_al (ho.1) (mi_al (ho.2) (mi_al_e))) (fun h1 W _ hst => me_ret (M := (4, 1, sb_232)) rfl rfl rfl hst (mi_al_e) (kon h1 W))
set_option maxRecDepth 20000 in
theorem mt_groB {h : sm_H} {d : Nat} {Q : Option mi_V → sm_H → Prop} {zf : Int} {zx : Int64} (hS : ab_Sh sx_sk h) (ok_zf : mi_in zf) (k0 : (0 ≤ mi_f h 14044 ∧ mi_f h 14044 ≤ 1) → ((mi_f h 14044) = ((0 : Int))) → (∀ h1, ab_Sh sx_sk h1 → mi_f h1 13952 = (0 : Int) → ab_Fr [(13952, 13953)] h h1 → ∃ Q1, me_E (d + 19) 231 0 (mi_entry 2 [.inr (.inr 109)]) [] h1 Q1 ∧ ∀ w h2, (∀ x, w = some x → mi_ok x) → Q1 w h2 → me_E (d + 20) 232 86 [some (.inr (.inr 109)), some (.inr (.inl (zx))), none, some (.inl (zf))] (mi_back w []) h2 Q)) (k1 : (0 ≤ mi_f h 14044 ∧ mi_f h 14044 ≤ 1) → ((mi_f h 14044) ≠ ((0 : Int))) → (∀ h1, ab_Sh sx_sk h1 → mi_f h1 13952 = (3 : Int) → ab_Fr [(13952, 13953)] h h1 → Q (some (.inl ((0 : Int)))) h1)) : me_E (d + 20) 232 55 [some (.inr (.inr 109)), some (.inr (.inl (zx))), none, some (.inl (zf))] [] h Q := Or.elim (mi_em .eq ((mi_f h 14044)) (((0 : Int)))) (fun c0 => ms_groB_0 hS ok_zf ⟨c0, c0⟩ (fun h1 W => (k0 (me_fb hS rfl) c0) h1 W.1 (W.2.1 13952) (W.2.2.2.2.2 _ rfl))) (fun c0 => ms_groB_1 hS ok_zf ⟨c0, c0⟩ (fun h1 W => (k1 (me_fb hS rfl) c0) h1 W.1 (W.2.1 13952) (W.2.2.2.2.2 _ rfl)))
set_option maxRecDepth 20000 in
theorem mp_groC_0 (h : sm_H) (d : Nat) (zf zz : Int) (zx : Int64) : mi_path [(232, (4, 1, sb_232))] sx_sk h 0 [] (d + 20, 232, 86, [some (.inr (.inr 109)), some (.inr (.inl (zx))), none, some (.inl (zf))], [.inl (zz)], [], []) = some ((d + 20, 232, 86, [some (.inr (.inr 109)), some (.inr (.inl (zx))), none, some (.inl (zf))], [.inl (zz)], [], []), []) := rfl
theorem mi_tab_groC_0 : ∀ e ∈ ([(232, (4, 1, sb_232))] : mi_T), sc_P e.1 = some e.2 := mi_tb mi_P232 (mi_tb_e)
set_option maxRecDepth 20000 in
theorem ms_groC_0 {h : sm_H} {d : Nat} {Q : Option mi_V → sm_H → Prop} {zf zz : Int} {zx : Int64} (hS : ab_Sh sx_sk h) (ok_zf : mi_in zf) (ok_zz : mi_in zz) (kon : ∀ h1, me_W [] h h1 → Q (some (.inl (zz))) h1) : me_E (d + 20) 232 86 [some (.inr (.inr 109)), some (.inr (.inl (zx))), none, some (.inl (zf))] [.inl (zz)] h Q := me_seg (mp_groC_0 h d zf zz zx) (mi_tab_groC_0) hS (mi_okL_c (trivial) (mi_okL_c (trivial) (mi_okL_n (mi_okL_c (ok_zf) (mi_okL_e))))) (mi_okS_cons (ok_zz) (mi_okS_e)) (mi_al_e) (fun h1 W _ hst => me_ret (M := (4, 1, sb_232)) rfl rfl rfl hst (mi_al_e) (kon h1 W))
set_option maxRecDepth 20000 in
theorem mt_groC {h : sm_H} {d : Nat} {Q : Option mi_V → sm_H → Prop} {zf zz : Int} {zx : Int64} (hS : ab_Sh sx_sk h) (ok_zf : mi_in zf) (ok_zz : mi_in zz) (k0 : (∀ h1, ab_Sh sx_sk h1 → ab_Fr [] h h1 → Q (some (.inl (zz))) h1)) : me_E (d + 20) 232 86 [some (.inr (.inr 109)), some (.inr (.inl (zx))), none, some (.inl (zf))] [.inl (zz)] h Q := ms_groC_0 hS ok_zf ok_zz (fun h1 W => (k0) h1 W.1 (W.2.2.2.2.2 _ rfl))
set_option maxRecDepth 20000 in
theorem mp_prA_0 (h : sm_H) (d : Nat) : mi_path [(205, (2, 1, sb_205))] sx_sk h 23 [1, 1] (d + 20, 205, 0, [some (.inr (.inr 109)), none], [], [], []) = some ((d + 20, 205, 47, [some (.inr (.inr 109)), none], [.inl ((2 : Int)), .inr (.inr 109)], [.inl (14045, (0 : Int)), .inl (14046, (0 : Int)), .inl (14037, (0 : Int)), .inl (14036, (0 : Int)), .inl (13952, (0 : Int))], []), [(mi_f h 14015) ≠ ((0 : Int)), ((0 : Int)) ≤ ((0 : Int)), 0 ≤ ((0 : Int)) ∧ ((0 : Int)) ≤ 160, 0 ≤ ((0 : Int)) ∧ ((0 : Int)) ≤ 1, 0 ≤ ((0 : Int)) ∧ ((0 : Int)) ≤ 1, 0 ≤ ((0 : Int)) ∧ ((0 : Int)) ≤ 1, 0 ≤ ((0 : Int)) ∧ ((0 : Int)) ≤ 1]) := rfl
theorem mi_tab_prA_0 : ∀ e ∈ ([(205, (2, 1, sb_205))] : mi_T), sc_P e.1 = some e.2 := mi_tb mi_P205 (mi_tb_e)
set_option maxRecDepth 20000 in
theorem ms_prA_0 {h : sm_H} {d : Nat} {Q : Option mi_V → sm_H → Prop} (hS : ab_Sh sx_sk h)  (ho : ((mi_f h 14015) ≠ ((0 : Int))) ∧ (((0 : Int)) ≤ ((0 : Int))) ∧ (0 ≤ ((0 : Int)) ∧ ((0 : Int)) ≤ 160) ∧ (0 ≤ ((0 : Int)) ∧ ((0 : Int)) ≤ 1) ∧ (0 ≤ ((0 : Int)) ∧ ((0 : Int)) ≤ 1) ∧ (0 ≤ ((0 : Int)) ∧ ((0 : Int)) ≤ 1) ∧ (0 ≤ ((0 : Int)) ∧ ((0 : Int)) ≤ 1)) (kon : ∀ h1, me_W [.inl (14045, (0 : Int)), .inl (14046, (0 : Int)), .inl (14037, (0 : Int)), .inl (14036, (0 : Int)), .inl (13952, (0 : Int))] h h1 → ∃ Q1, me_E (d + 19) 206 0 (mi_entry 5 [.inr (.inr 109), .inl ((2 : Int))]) [] h1 Q1 ∧ ∀ w h2, (∀ x, w = some x → mi_ok x) → Q1 w h2 → me_E (d + 20) 205 50 [some (.inr (.inr 109)), none] (mi_back w []) h2 Q) : me_E (d + 20) 205 0 [some (.inr (.inr 109)), none] [] h Q := me_seg (mp_prA_0 h d ) (mi_tab_prA_0) hS (mi_okL_c (trivial) (mi_okL_n (mi_okL_e))) (mi_okS_e) (mi_al (ho.1) (mi_al (ho.2.1) (mi_al (ho.2.2.1) (mi_al (ho.2.2.2.1) (mi_al (ho.2.2.2.2.1) (mi_al (ho.2.2.2.2.2.1) (mi_al (ho.2.2.2.2.2.2) (mi_al_e)))))))) (fun h1 W _ hst => let ⟨_, k1, k2⟩ := kon h1 W; me_call (M := (2, 1, sb_205)) (M' := (5, 0, sb_206)) rfl rfl rfl rfl (Nat.le_of_ble_eq_true rfl) (Nat.le_of_ble_eq_true rfl) W.1 k1 k2)
set_option maxRecDepth 20000 in
theorem mp_prA_1 (h : sm_H) (d : Nat) : mi_path [(205, (2, 1, sb_205))] sx_sk h 11 [0, 0] (d + 20, 205, 0, [some (.inr (.inr 109)), none], [], [], []) = some ((d + 20, 205, 24, [some (.inr (.inr 109)), none], [.inl ((0 : Int))], [.inl (13952, (1 : Int))], []), [(mi_f h 14015) = ((0 : Int)), ((0 : Int)) < ((1 : Int))]) := rfl
theorem mi_tab_prA_1 : ∀ e ∈ ([(205, (2, 1, sb_205))] : mi_T), sc_P e.1 = some e.2 := mi_tb mi_P205 (mi_tb_e)
set_option maxRecDepth 20000 in
theorem ms_prA_1 {h : sm_H} {d : Nat} {Q : Option mi_V → sm_H → Prop} (hS : ab_Sh sx_sk h)  (ho : ((mi_f h 14015) = ((0 : Int))) ∧ (((0 : Int)) < ((1 : Int)))) (kon : ∀ h1, me_W [.inl (13952, (1 : Int))] h h1 → Q (some (.inl ((0 : Int)))) h1) : me_E (d + 20) 205 0 [some (.inr (.inr 109)), none] [] h Q := me_seg (mp_prA_1 h d ) (mi_tab_prA_1) hS (mi_okL_c (trivial) (mi_okL_n (mi_okL_e))) (mi_okS_e) (mi_al (ho.1) (mi_al (ho.2) (mi_al_e))) (fun h1 W _ hst => me_ret (M := (2, 1, sb_205)) rfl rfl rfl hst (mi_al_e) (kon h1 W))
set_option maxRecDepth 20000 in
theorem mt_prA {h : sm_H} {d : Nat} {Q : Option mi_V → sm_H → Prop} (hS : ab_Sh sx_sk h)  (k0 : (0 ≤ mi_f h 14015 ∧ mi_f h 14015 ≤ 100) → ((mi_f h 14015) ≠ ((0 : Int))) → (∀ h1, ab_Sh sx_sk h1 → mi_f h1 13952 = (0 : Int) → mi_f h1 14036 = (0 : Int) → mi_f h1 14037 = (0 : Int) → mi_f h1 14045 = (0 : Int) → mi_f h1 14046 = (0 : Int) → ab_Fr [(13952, 13953), (14036, 14038), (14045, 14047)] h h1 → ∃ Q1, me_E (d + 19) 206 0 (mi_entry 5 [.inr (.inr 109), .inl ((2 : Int))]) [] h1 Q1 ∧ ∀ w h2, (∀ x, w = some x → mi_ok x) → Q1 w h2 → me_E (d + 20) 205 50 [some (.inr (.inr 109)), none] (mi_back w []) h2 Q)) (k1 : (0 ≤ mi_f h 14015 ∧ mi_f h 14015 ≤ 100) → ((mi_f h 14015) = ((0 : Int))) → (∀ h1, ab_Sh sx_sk h1 → mi_f h1 13952 = (1 : Int) → ab_Fr [(13952, 13953)] h h1 → Q (some (.inl ((0 : Int)))) h1)) : me_E (d + 20) 205 0 [some (.inr (.inr 109)), none] [] h Q := Or.elim (mi_em .ne ((mi_f h 14015)) (((0 : Int)))) (fun c0 => ms_prA_0 hS ⟨c0, (by decide), (by decide), (by decide), (by decide), (by decide), (by decide)⟩ (fun h1 W => (k0 (me_fb hS rfl) c0) h1 W.1 (W.2.1 13952) (W.2.1 14036) (W.2.1 14037) (W.2.1 14045) (W.2.1 14046) (W.2.2.2.2.2 _ rfl))) (fun c0 => ms_prA_1 hS ⟨c0, (by decide)⟩ (fun h1 W => (k1 (me_fb hS rfl) c0) h1 W.1 (W.2.1 13952) (W.2.2.2.2.2 _ rfl)))
set_option maxRecDepth 20000 in
theorem mp_prB_0 (h : sm_H) (d : Nat) : mi_path [(205, (2, 1, sb_205))] sx_sk h 11 [1, 1] (d + 20, 205, 50, [some (.inr (.inr 109)), none], [], [], []) = some ((d + 20, 205, 77, [some (.inr (.inr 109)), some (.inl ((0 : Int)))], [], [.inl (13952, (0 : Int))], []), [(mi_f h 14044) = ((0 : Int)), (mi_f h 14044) = ((0 : Int))]) := rfl
theorem mi_tab_prB_0 : ∀ e ∈ ([(205, (2, 1, sb_205))] : mi_T), sc_P e.1 = some e.2 := mi_tb mi_P205 (mi_tb_e)
set_option maxRecDepth 20000 in
theorem ms_prB_0 {h : sm_H} {d : Nat} {Q : Option mi_V → sm_H → Prop} (hS : ab_Sh sx_sk h)  (ho : ((mi_f h 14044) = ((0 : Int))) ∧ ((mi_f h 14044) = ((0 : Int)))) (kon : ∀ h1, me_W [.inl (13952, (0 : Int))] h h1 → me_E (d + 20) 205 77 [some (.inr (.inr 109)), some (.inl ((0 : Int)))] [] h1 Q) : me_E (d + 20) 205 50 [some (.inr (.inr 109)), none] [] h Q := me_seg (mp_prB_0 h d ) (mi_tab_prB_0) hS (mi_okL_c (trivial) (mi_okL_n (mi_okL_e))) (mi_okS_e) (mi_al (ho.1) (mi_al (ho.2) (mi_al_e))) (fun h1 W _ hst => kon h1 W)
set_option maxRecDepth 20000 in
theorem mp_prB_1 (h : sm_H) (d : Nat) : mi_path [(205, (2, 1, sb_205))] sx_sk h 11 [0, 0] (d + 20, 205, 50, [some (.inr (.inr 109)), none], [], [], []) = some ((d + 20, 205, 74, [some (.inr (.inr 109)), none], [.inl ((0 : Int))], [.inl (13952, (2 : Int))], []), [(mi_f h 14044) ≠ ((0 : Int)), (mi_f h 14044) ≠ ((0 : Int))]) := rfl
theorem mi_tab_prB_1 : ∀ e ∈ ([(205, (2, 1, sb_205))] : mi_T), sc_P e.1 = some e.2 := mi_tb mi_P205 (mi_tb_e)
set_option maxRecDepth 20000 in
theorem ms_prB_1 {h : sm_H} {d : Nat} {Q : Option mi_V → sm_H → Prop} (hS : ab_Sh sx_sk h)  (ho : ((mi_f h 14044) ≠ ((0 : Int))) ∧ ((mi_f h 14044) ≠ ((0 : Int)))) (kon : ∀ h1, me_W [.inl (13952, (2 : Int))] h h1 → Q (some (.inl ((0 : Int)))) h1) : me_E (d + 20) 205 50 [some (.inr (.inr 109)), none] [] h Q := me_seg (mp_prB_1 h d ) (mi_tab_prB_1) hS (mi_okL_c (trivial) (mi_okL_n (mi_okL_e))) (mi_okS_e) (mi_al (ho.1) (mi_al (ho.2) (mi_al_e))) (fun h1 W _ hst => me_ret (M := (2, 1, sb_205)) rfl rfl rfl hst (mi_al_e) (kon h1 W))
set_option maxRecDepth 20000 in
theorem mt_prB {h : sm_H} {d : Nat} {Q : Option mi_V → sm_H → Prop} (hS : ab_Sh sx_sk h)  (k0 : (0 ≤ mi_f h 14044 ∧ mi_f h 14044 ≤ 1) → ((mi_f h 14044) = ((0 : Int))) → (∀ h1, ab_Sh sx_sk h1 → mi_f h1 13952 = (0 : Int) → ab_Fr [(13952, 13953)] h h1 → me_E (d + 20) 205 77 [some (.inr (.inr 109)), some (.inl ((0 : Int)))] [] h1 Q)) (k1 : (0 ≤ mi_f h 14044 ∧ mi_f h 14044 ≤ 1) → ((mi_f h 14044) ≠ ((0 : Int))) → (∀ h1, ab_Sh sx_sk h1 → mi_f h1 13952 = (2 : Int) → ab_Fr [(13952, 13953)] h h1 → Q (some (.inl ((0 : Int)))) h1)) : me_E (d + 20) 205 50 [some (.inr (.inr 109)), none] [] h Q := Or.elim (mi_em .eq ((mi_f h 14044)) (((0 : Int)))) (fun c0 => ms_prB_0 hS ⟨c0, c0⟩ (fun h1 W => (k0 (me_fb hS rfl) c0) h1 W.1 (W.2.1 13952) (W.2.2.2.2.2 _ rfl))) (fun c0 => ms_prB_1 hS ⟨c0, c0⟩ (fun h1 W => (k1 (me_fb hS rfl) c0) h1 W.1 (W.2.1 13952) (W.2.2.2.2.2 _ rfl)))
set_option maxRecDepth 20000 in
theorem mp_prC_0 (h : sm_H) (d : Nat) (zk : Int) : mi_path [(205, (2, 1, sb_205))] sx_sk h 10 [1] (d + 20, 205, 77, [some (.inr (.inr 109)), some (.inl (zk))], [], [], []) = some ((d + 20, 205, 115, [some (.inr (.inr 109)), some (.inl (zk))], [.inl (mi_f h 14037)], [.inl (13955, mi_f h 14037)], []), [(mi_f h 14037) ≤ zk, 0 ≤ (mi_f h 14037) ∧ (mi_f h 14037) ≤ 160]) := rfl
theorem mi_tab_prC_0 : ∀ e ∈ ([(205, (2, 1, sb_205))] : mi_T), sc_P e.1 = some e.2 := mi_tb mi_P205 (mi_tb_e)
set_option maxRecDepth 20000 in
theorem ms_prC_0 {h : sm_H} {d : Nat} {Q : Option mi_V → sm_H → Prop} {zk : Int} (hS : ab_Sh sx_sk h) (ok_zk : mi_in zk) (ho : ((mi_f h 14037) ≤ zk) ∧ (0 ≤ (mi_f h 14037) ∧ (mi_f h 14037) ≤ 160)) (kon : ∀ h1, me_W [.inl (13955, mi_f h 14037)] h h1 → Q (some (.inl (mi_f h 14037))) h1) : me_E (d + 20) 205 77 [some (.inr (.inr 109)), some (.inl (zk))] [] h Q := me_seg (mp_prC_0 h d zk) (mi_tab_prC_0) hS (mi_okL_c (trivial) (mi_okL_c (ok_zk) (mi_okL_e))) (mi_okS_e) (mi_al (ho.1) (mi_al (ho.2) (mi_al_e))) (fun h1 W _ hst => me_ret (M := (2, 1, sb_205)) rfl rfl rfl hst (mi_al_e) (kon h1 W))
set_option maxRecDepth 20000 in
theorem mp_prC_1 (h : sm_H) (d : Nat) (zk : Int) : mi_path [(205, (2, 1, sb_205))] sx_sk h 14 [0] (d + 20, 205, 77, [some (.inr (.inr 109)), some (.inl (zk))], [], [], []) = some ((d + 20, 205, 77, [some (.inr (.inr 109)), some (.inl (zk + 1))], [], [.inr (.inr (.inl (112, Int.toNat zk, mi_a h 170 (Int.toNat zk))))], []), [zk < (mi_f h 14037), 0 ≤ zk ∧ zk < 160, 0 ≤ zk ∧ zk < 160, -2147483648 ≤ zk + 1 ∧ zk + 1 ≤ 2147483647]) := rfl
theorem mi_tab_prC_1 : ∀ e ∈ ([(205, (2, 1, sb_205))] : mi_T), sc_P e.1 = some e.2 := mi_tb mi_P205 (mi_tb_e)
set_option maxRecDepth 20000 in
theorem ms_prC_1 {h : sm_H} {d : Nat} {Q : Option mi_V → sm_H → Prop} {zk : Int} (hS : ab_Sh sx_sk h) (ok_zk : mi_in zk) (ho : (zk < (mi_f h 14037)) ∧ (0 ≤ zk ∧ zk < 160) ∧ (0 ≤ zk ∧ zk < 160) ∧ (-2147483648 ≤ zk + 1 ∧ zk + 1 ≤ 2147483647)) (kon : ∀ h1, me_W [.inr (.inr (.inl (112, Int.toNat zk, mi_a h 170 (Int.toNat zk))))] h h1 → me_E (d + 20) 205 77 [some (.inr (.inr 109)), some (.inl (zk + 1))] [] h1 Q) : me_E (d + 20) 205 77 [some (.inr (.inr 109)), some (.inl (zk))] [] h Q := me_seg (mp_prC_1 h d zk) (mi_tab_prC_1) hS (mi_okL_c (trivial) (mi_okL_c (ok_zk) (mi_okL_e))) (mi_okS_e) (mi_al (ho.1) (mi_al (ho.2.1) (mi_al (ho.2.2.1) (mi_al (ho.2.2.2) (mi_al_e))))) (fun h1 W _ hst => kon h1 W)
set_option maxRecDepth 20000 in
theorem mt_prC {h : sm_H} {d : Nat} {Q : Option mi_V → sm_H → Prop} {zk : Int} (hS : ab_Sh sx_sk h) (ok_zk : mi_in zk) (k0 : (0 ≤ mi_f h 14037 ∧ mi_f h 14037 ≤ 160) → ((mi_f h 14037) ≤ zk) → ((0 ≤ (mi_f h 14037) ∧ (mi_f h 14037) ≤ 160)) ∧ (∀ h1, ab_Sh sx_sk h1 → mi_f h1 13955 = mi_f h 14037 → ab_Fr [(13955, 13956)] h h1 → Q (some (.inl (mi_f h 14037))) h1)) (k1 : (0 ≤ mi_f h 14037 ∧ mi_f h 14037 ≤ 160) → (zk < (mi_f h 14037)) → ((0 ≤ zk ∧ zk < 160) ∧ (-2147483648 ≤ zk + 1 ∧ zk + 1 ≤ 2147483647)) ∧ (∀ h1, ab_Sh sx_sk h1 → (∀ i, mi_a h1 112 i = if i = Int.toNat zk then mi_a h 170 (Int.toNat zk) else (mi_a h 112 i)) → ab_Fr [(14336, 14337)] h h1 → me_E (d + 20) 205 77 [some (.inr (.inr 109)), some (.inl (zk + 1))] [] h1 Q)) : me_E (d + 20) 205 77 [some (.inr (.inr 109)), some (.inl (zk))] [] h Q := Or.elim (mi_em .ge (zk) ((mi_f h 14037))) (fun c0 => ms_prC_0 hS ok_zk ⟨c0, (k0 (me_fb hS rfl) c0).1⟩ (fun h1 W => (k0 (me_fb hS rfl) c0).2 h1 W.1 (W.2.1 13955) (W.2.2.2.2.2 _ rfl))) (fun c0 => ms_prC_1 hS ok_zk ⟨c0, (k1 (me_fb hS rfl) c0).1.1, (k1 (me_fb hS rfl) c0).1.1, (k1 (me_fb hS rfl) c0).1.2⟩ (fun h1 W => (k1 (me_fb hS rfl) c0).2 h1 W.1 (fun i => W.2.2.1 112 i) (W.2.2.2.2.2 _ rfl)))
set_option maxRecDepth 20000 in
theorem mp_seA_0 (h : sm_H) (d : Nat) (zk : Int) (zv : Int64) : mi_path [(235, (6, 4, sb_235))] sx_sk h 10 [1, 0] (d + 20, 235, 0, [some (.inr (.inr 109)), some (.inl (zk)), some (.inr (.inl (zv))), none, none, none], [], [], []) = some ((d + 20, 235, 29, [some (.inr (.inr 109)), some (.inl (zk)), some (.inr (.inl (zv))), none, none, none], [.inl ((0 : Int))], [.inl (13952, (1 : Int))], []), [zk < ((0 : Int)), ((0 : Int)) < ((1 : Int))]) := rfl
theorem mi_tab_seA_0 : ∀ e ∈ ([(235, (6, 4, sb_235))] : mi_T), sc_P e.1 = some e.2 := mi_tb mi_P235 (mi_tb_e)
set_option maxRecDepth 20000 in
theorem ms_seA_0 {h : sm_H} {d : Nat} {Q : Option mi_V → sm_H → Prop} {zk : Int} {zv : Int64} (hS : ab_Sh sx_sk h) (ok_zk : mi_in zk) (ho : (zk < ((0 : Int))) ∧ (((0 : Int)) < ((1 : Int))) ∧ (((0 : Int)) = 0 ∨ ((0 : Int)) = 1)) (kon : ∀ h1, me_W [.inl (13952, (1 : Int))] h h1 → Q (some (.inl ((0 : Int)))) h1) : me_E (d + 20) 235 0 [some (.inr (.inr 109)), some (.inl (zk)), some (.inr (.inl (zv))), none, none, none] [] h Q := me_seg (mp_seA_0 h d zk zv) (mi_tab_seA_0) hS (mi_okL_c (trivial) (mi_okL_c (ok_zk) (mi_okL_c (trivial) (mi_okL_n (mi_okL_n (mi_okL_n (mi_okL_e))))))) (mi_okS_e) (mi_al (ho.1) (mi_al (ho.2.1) (mi_al_e))) (fun h1 W _ hst => me_ret (M := (6, 4, sb_235)) rfl rfl rfl hst (mi_al (ho.2.2) mi_al_e) (kon h1 W))
set_option maxRecDepth 20000 in
theorem mp_seA_1 (h : sm_H) (d : Nat) (zk : Int) (zv : Int64) : mi_path [(235, (6, 4, sb_235))] sx_sk h 34 [0, 1, 1, 1, 1, 1] (d + 20, 235, 0, [some (.inr (.inr 109)), some (.inl (zk)), some (.inr (.inl (zv))), none, none, none], [], [], []) = some ((d + 20, 235, 112, [some (.inr (.inr 109)), some (.inl (zk)), some (.inr (.inl (zv))), none, some (.inl (mi_a h 157 (Int.toNat zk))), some (.inl ((0 : Int)))], [.inl ((0 : Int))], [.inl (13952, (0 : Int))], []), [((0 : Int)) ≤ zk, zk < (mi_f h 14015), ((0 : Int)) ≤ ((0 : Int)), 0 ≤ zk ∧ zk < 100, 0 ≤ (mi_a h 157 (Int.toNat zk)) ∧ (mi_a h 157 (Int.toNat zk)) < 100, (mi_a h 155 (Int.toNat (mi_a h 157 (Int.toNat zk)))) ≠ ((2 : Int)), 0 ≤ (mi_a h 157 (Int.toNat zk)) ∧ (mi_a h 157 (Int.toNat zk)) < 100, (mi_a h 155 (Int.toNat (mi_a h 157 (Int.toNat zk)))) ≠ ((3 : Int)), ((0 : Int)) = ((0 : Int))]) := rfl
theorem mi_tab_seA_1 : ∀ e ∈ ([(235, (6, 4, sb_235))] : mi_T), sc_P e.1 = some e.2 := mi_tb mi_P235 (mi_tb_e)
set_option maxRecDepth 20000 in
theorem ms_seA_1 {h : sm_H} {d : Nat} {Q : Option mi_V → sm_H → Prop} {zk : Int} {zv : Int64} (hS : ab_Sh sx_sk h) (ok_zk : mi_in zk) (ho : (((0 : Int)) ≤ zk) ∧ (zk < (mi_f h 14015)) ∧ (((0 : Int)) ≤ ((0 : Int))) ∧ (0 ≤ zk ∧ zk < 100) ∧ (0 ≤ (mi_a h 157 (Int.toNat zk)) ∧ (mi_a h 157 (Int.toNat zk)) < 100) ∧ ((mi_a h 155 (Int.toNat (mi_a h 157 (Int.toNat zk)))) ≠ ((2 : Int))) ∧ (0 ≤ (mi_a h 157 (Int.toNat zk)) ∧ (mi_a h 157 (Int.toNat zk)) < 100) ∧ ((mi_a h 155 (Int.toNat (mi_a h 157 (Int.toNat zk)))) ≠ ((3 : Int))) ∧ (((0 : Int)) = ((0 : Int))) ∧ (((0 : Int)) = 0 ∨ ((0 : Int)) = 1)) (kon : ∀ h1, me_W [.inl (13952, (0 : Int))] h h1 → Q (some (.inl ((0 : Int)))) h1) : me_E (d + 20) 235 0 [some (.inr (.inr 109)), some (.inl (zk)), some (.inr (.inl (zv))), none, none, none] [] h Q := me_seg (mp_seA_1 h d zk zv) (mi_tab_seA_1) hS (mi_okL_c (trivial) (mi_okL_c (ok_zk) (mi_okL_c (trivial) (mi_okL_n (mi_okL_n (mi_okL_n (mi_okL_e))))))) (mi_okS_e) (mi_al (ho.1) (mi_al (ho.2.1) (mi_al (ho.2.2.1) (mi_al (ho.2.2.2.1) (mi_al (ho.2.2.2.2.1) (mi_al (ho.2.2.2.2.2.1) (mi_al (ho.2.2.2.2.2.2.1) (mi_al (ho.2.2.2.2.2.2.2.1) (mi_al (ho.2.2.2.2.2.2.2.2.1) (mi_al_e)))))))))) (fun h1 W _ hst => me_ret (M := (6, 4, sb_235)) rfl rfl rfl hst (mi_al (ho.2.2.2.2.2.2.2.2.2) mi_al_e) (kon h1 W))
set_option maxRecDepth 20000 in
theorem mp_seA_2 (h : sm_H) (d : Nat) (zk : Int) (zv : Int64) : mi_path [(235, (6, 4, sb_235))] sx_sk h 31 [0, 1, 1, 1, 0] (d + 20, 235, 0, [some (.inr (.inr 109)), some (.inl (zk)), some (.inr (.inl (zv))), none, none, none], [], [], []) = some ((d + 20, 235, 84, [some (.inr (.inr 109)), some (.inl (zk)), some (.inr (.inl (zv))), none, some (.inl (mi_a h 157 (Int.toNat zk))), none], [.inr (.inl (zv)), .inr (.inr 109)], [.inl (13952, (0 : Int))], []), [((0 : Int)) ≤ zk, zk < (mi_f h 14015), ((0 : Int)) ≤ ((0 : Int)), 0 ≤ zk ∧ zk < 100, 0 ≤ (mi_a h 157 (Int.toNat zk)) ∧ (mi_a h 157 (Int.toNat zk)) < 100, (mi_a h 155 (Int.toNat (mi_a h 157 (Int.toNat zk)))) ≠ ((2 : Int)), 0 ≤ (mi_a h 157 (Int.toNat zk)) ∧ (mi_a h 157 (Int.toNat zk)) < 100, (mi_a h 155 (Int.toNat (mi_a h 157 (Int.toNat zk)))) = ((3 : Int))]) := rfl
theorem mi_tab_seA_2 : ∀ e ∈ ([(235, (6, 4, sb_235))] : mi_T), sc_P e.1 = some e.2 := mi_tb mi_P235 (mi_tb_e)
set_option maxRecDepth 20000 in
theorem ms_seA_2 {h : sm_H} {d : Nat} {Q : Option mi_V → sm_H → Prop} {zk : Int} {zv : Int64} (hS : ab_Sh sx_sk h) (ok_zk : mi_in zk) (ho : (((0 : Int)) ≤ zk) ∧ (zk < (mi_f h 14015)) ∧ (((0 : Int)) ≤ ((0 : Int))) ∧ (0 ≤ zk ∧ zk < 100) ∧ (0 ≤ (mi_a h 157 (Int.toNat zk)) ∧ (mi_a h 157 (Int.toNat zk)) < 100) ∧ ((mi_a h 155 (Int.toNat (mi_a h 157 (Int.toNat zk)))) ≠ ((2 : Int))) ∧ (0 ≤ (mi_a h 157 (Int.toNat zk)) ∧ (mi_a h 157 (Int.toNat zk)) < 100) ∧ ((mi_a h 155 (Int.toNat (mi_a h 157 (Int.toNat zk)))) = ((3 : Int)))) (kon : ∀ h1, me_W [.inl (13952, (0 : Int))] h h1 → ∃ Q1, me_E (d + 19) 236 0 (mi_entry 5 [.inr (.inr 109), .inr (.inl (zv))]) [] h1 Q1 ∧ ∀ w h2, (∀ x, w = some x → mi_ok x) → Q1 w h2 → me_E (d + 20) 235 87 [some (.inr (.inr 109)), some (.inl (zk)), some (.inr (.inl (zv))), none, some (.inl (mi_a h 157 (Int.toNat zk))), none] (mi_back w []) h2 Q) : me_E (d + 20) 235 0 [some (.inr (.inr 109)), some (.inl (zk)), some (.inr (.inl (zv))), none, none, none] [] h Q := me_seg (mp_seA_2 h d zk zv) (mi_tab_seA_2) hS (mi_okL_c (trivial) (mi_okL_c (ok_zk) (mi_okL_c (trivial) (mi_okL_n (mi_okL_n (mi_okL_n (mi_okL_e))))))) (mi_okS_e) (mi_al (ho.1) (mi_al (ho.2.1) (mi_al (ho.2.2.1) (mi_al (ho.2.2.2.1) (mi_al (ho.2.2.2.2.1) (mi_al (ho.2.2.2.2.2.1) (mi_al (ho.2.2.2.2.2.2.1) (mi_al (ho.2.2.2.2.2.2.2) (mi_al_e))))))))) (fun h1 W _ hst => let ⟨_, k1, k2⟩ := kon h1 W; me_call (M := (6, 4, sb_235)) (M' := (5, 4, sb_236)) rfl rfl rfl rfl (Nat.le_of_ble_eq_true rfl) (Nat.le_of_ble_eq_true rfl) W.1 k1 k2)
set_option maxRecDepth 20000 in
theorem mp_seA_3 (h : sm_H) (d : Nat) (zk : Int) (zv : Int64) : mi_path [(235, (6, 4, sb_235))] sx_sk h 33 [0, 1, 1, 0, 1, 1] (d + 20, 235, 0, [some (.inr (.inr 109)), some (.inl (zk)), some (.inr (.inl (zv))), none, none, none], [], [], []) = some ((d + 20, 235, 112, [some (.inr (.inr 109)), some (.inl (zk)), some (.inr (.inl (zv))), none, some (.inl (mi_a h 157 (Int.toNat zk))), some (.inl ((0 : Int)))], [.inl ((0 : Int))], [.inl (13952, (0 : Int))], []), [((0 : Int)) ≤ zk, zk < (mi_f h 14015), ((0 : Int)) ≤ ((0 : Int)), 0 ≤ zk ∧ zk < 100, 0 ≤ (mi_a h 157 (Int.toNat zk)) ∧ (mi_a h 157 (Int.toNat zk)) < 100, (mi_a h 155 (Int.toNat (mi_a h 157 (Int.toNat zk)))) = ((2 : Int)), ((lg_cmp zv (Int64.ofNat 0)).toInt) < ((0 : Int)), ((0 : Int)) = ((0 : Int))]) := rfl
theorem mi_tab_seA_3 : ∀ e ∈ ([(235, (6, 4, sb_235))] : mi_T), sc_P e.1 = some e.2 := mi_tb mi_P235 (mi_tb_e)
set_option maxRecDepth 20000 in
theorem ms_seA_3 {h : sm_H} {d : Nat} {Q : Option mi_V → sm_H → Prop} {zk : Int} {zv : Int64} (hS : ab_Sh sx_sk h) (ok_zk : mi_in zk) (ho : (((0 : Int)) ≤ zk) ∧ (zk < (mi_f h 14015)) ∧ (((0 : Int)) ≤ ((0 : Int))) ∧ (0 ≤ zk ∧ zk < 100) ∧ (0 ≤ (mi_a h 157 (Int.toNat zk)) ∧ (mi_a h 157 (Int.toNat zk)) < 100) ∧ ((mi_a h 155 (Int.toNat (mi_a h 157 (Int.toNat zk)))) = ((2 : Int))) ∧ (((lg_cmp zv (Int64.ofNat 0)).toInt) < ((0 : Int))) ∧ (((0 : Int)) = ((0 : Int))) ∧ (((0 : Int)) = 0 ∨ ((0 : Int)) = 1)) (kon : ∀ h1, me_W [.inl (13952, (0 : Int))] h h1 → Q (some (.inl ((0 : Int)))) h1) : me_E (d + 20) 235 0 [some (.inr (.inr 109)), some (.inl (zk)), some (.inr (.inl (zv))), none, none, none] [] h Q := me_seg (mp_seA_3 h d zk zv) (mi_tab_seA_3) hS (mi_okL_c (trivial) (mi_okL_c (ok_zk) (mi_okL_c (trivial) (mi_okL_n (mi_okL_n (mi_okL_n (mi_okL_e))))))) (mi_okS_e) (mi_al (ho.1) (mi_al (ho.2.1) (mi_al (ho.2.2.1) (mi_al (ho.2.2.2.1) (mi_al (ho.2.2.2.2.1) (mi_al (ho.2.2.2.2.2.1) (mi_al (ho.2.2.2.2.2.2.1) (mi_al (ho.2.2.2.2.2.2.2.1) (mi_al_e))))))))) (fun h1 W _ hst => me_ret (M := (6, 4, sb_235)) rfl rfl rfl hst (mi_al (ho.2.2.2.2.2.2.2.2) mi_al_e) (kon h1 W))
set_option maxRecDepth 20000 in
theorem mp_seA_4 (h : sm_H) (d : Nat) (zk : Int) (zv : Int64) : mi_path [(235, (6, 4, sb_235))] sx_sk h 37 [0, 1, 1, 0, 0, 1, 1] (d + 20, 235, 0, [some (.inr (.inr 109)), some (.inl (zk)), some (.inr (.inl (zv))), none, none, none], [], [], []) = some ((d + 20, 235, 112, [some (.inr (.inr 109)), some (.inl (zk)), some (.inr (.inl (zv))), none, some (.inl (mi_a h 157 (Int.toNat zk))), some (.inl ((0 : Int)))], [.inl ((0 : Int))], [.inl (13952, (0 : Int))], []), [((0 : Int)) ≤ zk, zk < (mi_f h 14015), ((0 : Int)) ≤ ((0 : Int)), 0 ≤ zk ∧ zk < 100, 0 ≤ (mi_a h 157 (Int.toNat zk)) ∧ (mi_a h 157 (Int.toNat zk)) < 100, (mi_a h 155 (Int.toNat (mi_a h 157 (Int.toNat zk)))) = ((2 : Int)), ((0 : Int)) ≤ ((lg_cmp zv (Int64.ofNat 0)).toInt), ((0 : Int)) < ((lg_cmp zv (Int64.ofNat 9999)).toInt), ((0 : Int)) = ((0 : Int))]) := rfl
theorem mi_tab_seA_4 : ∀ e ∈ ([(235, (6, 4, sb_235))] : mi_T), sc_P e.1 = some e.2 := mi_tb mi_P235 (mi_tb_e)
set_option maxRecDepth 20000 in
theorem ms_seA_4 {h : sm_H} {d : Nat} {Q : Option mi_V → sm_H → Prop} {zk : Int} {zv : Int64} (hS : ab_Sh sx_sk h) (ok_zk : mi_in zk) (ho : (((0 : Int)) ≤ zk) ∧ (zk < (mi_f h 14015)) ∧ (((0 : Int)) ≤ ((0 : Int))) ∧ (0 ≤ zk ∧ zk < 100) ∧ (0 ≤ (mi_a h 157 (Int.toNat zk)) ∧ (mi_a h 157 (Int.toNat zk)) < 100) ∧ ((mi_a h 155 (Int.toNat (mi_a h 157 (Int.toNat zk)))) = ((2 : Int))) ∧ (((0 : Int)) ≤ ((lg_cmp zv (Int64.ofNat 0)).toInt)) ∧ (((0 : Int)) < ((lg_cmp zv (Int64.ofNat 9999)).toInt)) ∧ (((0 : Int)) = ((0 : Int))) ∧ (((0 : Int)) = 0 ∨ ((0 : Int)) = 1)) (kon : ∀ h1, me_W [.inl (13952, (0 : Int))] h h1 → Q (some (.inl ((0 : Int)))) h1) : me_E (d + 20) 235 0 [some (.inr (.inr 109)), some (.inl (zk)), some (.inr (.inl (zv))), none, none, none] [] h Q := me_seg (mp_seA_4 h d zk zv) (mi_tab_seA_4) hS (mi_okL_c (trivial) (mi_okL_c (ok_zk) (mi_okL_c (trivial) (mi_okL_n (mi_okL_n (mi_okL_n (mi_okL_e))))))) (mi_okS_e) (mi_al (ho.1) (mi_al (ho.2.1) (mi_al (ho.2.2.1) (mi_al (ho.2.2.2.1) (mi_al (ho.2.2.2.2.1) (mi_al (ho.2.2.2.2.2.1) (mi_al (ho.2.2.2.2.2.2.1) (mi_al (ho.2.2.2.2.2.2.2.1) (mi_al (ho.2.2.2.2.2.2.2.2.1) (mi_al_e)))))))))) (fun h1 W _ hst => me_ret (M := (6, 4, sb_235)) rfl rfl rfl hst (mi_al (ho.2.2.2.2.2.2.2.2.2) mi_al_e) (kon h1 W))
set_option maxRecDepth 20000 in
theorem mp_seA_5 (h : sm_H) (d : Nat) (zk : Int) (zv : Int64) : mi_path [(235, (6, 4, sb_235))] sx_sk h 42 [0, 1, 1, 0, 0, 0, 0] (d + 20, 235, 0, [some (.inr (.inr 109)), some (.inl (zk)), some (.inr (.inl (zv))), none, none, none], [], [], []) = some ((d + 20, 235, 112, [some (.inr (.inr 109)), some (.inl (zk)), some (.inr (.inl (zv))), none, some (.inl (mi_a h 157 (Int.toNat zk))), some (.inl ((1 : Int)))], [.inl ((1 : Int))], [.inr (.inr (.inr (162, Int.toNat (mi_a h 157 (Int.toNat zk)), zv))), .inl (13952, (0 : Int))], []), [((0 : Int)) ≤ zk, zk < (mi_f h 14015), ((0 : Int)) ≤ ((0 : Int)), 0 ≤ zk ∧ zk < 100, 0 ≤ (mi_a h 157 (Int.toNat zk)) ∧ (mi_a h 157 (Int.toNat zk)) < 100, (mi_a h 155 (Int.toNat (mi_a h 157 (Int.toNat zk)))) = ((2 : Int)), ((0 : Int)) ≤ ((lg_cmp zv (Int64.ofNat 0)).toInt), ((lg_cmp zv (Int64.ofNat 9999)).toInt) ≤ ((0 : Int)), ((1 : Int)) ≠ ((0 : Int)), 0 ≤ (mi_a h 157 (Int.toNat zk)) ∧ (mi_a h 157 (Int.toNat zk)) < 100]) := rfl
theorem mi_tab_seA_5 : ∀ e ∈ ([(235, (6, 4, sb_235))] : mi_T), sc_P e.1 = some e.2 := mi_tb mi_P235 (mi_tb_e)
set_option maxRecDepth 20000 in
theorem ms_seA_5 {h : sm_H} {d : Nat} {Q : Option mi_V → sm_H → Prop} {zk : Int} {zv : Int64} (hS : ab_Sh sx_sk h) (ok_zk : mi_in zk) (ho : (((0 : Int)) ≤ zk) ∧ (zk < (mi_f h 14015)) ∧ (((0 : Int)) ≤ ((0 : Int))) ∧ (0 ≤ zk ∧ zk < 100) ∧ (0 ≤ (mi_a h 157 (Int.toNat zk)) ∧ (mi_a h 157 (Int.toNat zk)) < 100) ∧ ((mi_a h 155 (Int.toNat (mi_a h 157 (Int.toNat zk)))) = ((2 : Int))) ∧ (((0 : Int)) ≤ ((lg_cmp zv (Int64.ofNat 0)).toInt)) ∧ (((lg_cmp zv (Int64.ofNat 9999)).toInt) ≤ ((0 : Int))) ∧ (((1 : Int)) ≠ ((0 : Int))) ∧ (0 ≤ (mi_a h 157 (Int.toNat zk)) ∧ (mi_a h 157 (Int.toNat zk)) < 100) ∧ (((1 : Int)) = 0 ∨ ((1 : Int)) = 1)) (kon : ∀ h1, me_W [.inr (.inr (.inr (162, Int.toNat (mi_a h 157 (Int.toNat zk)), zv))), .inl (13952, (0 : Int))] h h1 → Q (some (.inl ((1 : Int)))) h1) : me_E (d + 20) 235 0 [some (.inr (.inr 109)), some (.inl (zk)), some (.inr (.inl (zv))), none, none, none] [] h Q := me_seg (mp_seA_5 h d zk zv) (mi_tab_seA_5) hS (mi_okL_c (trivial) (mi_okL_c (ok_zk) (mi_okL_c (trivial) (mi_okL_n (mi_okL_n (mi_okL_n (mi_okL_e))))))) (mi_okS_e) (mi_al (ho.1) (mi_al (ho.2.1) (mi_al (ho.2.2.1) (mi_al (ho.2.2.2.1) (mi_al (ho.2.2.2.2.1) (mi_al (ho.2.2.2.2.2.1) (mi_al (ho.2.2.2.2.2.2.1) (mi_al (ho.2.2.2.2.2.2.2.1) (mi_al (ho.2.2.2.2.2.2.2.2.1) (mi_al (ho.2.2.2.2.2.2.2.2.2.1) (mi_al_e))))))))))) (fun h1 W _ hst => me_ret (M := (6, 4, sb_235)) rfl rfl rfl hst (mi_al (ho.2.2.2.2.2.2.2.2.2.2) mi_al_e) (kon h1 W))
set_option maxRecDepth 20000 in
theorem mp_seA_6 (h : sm_H) (d : Nat) (zk : Int) (zv : Int64) : mi_path [(235, (6, 4, sb_235))] sx_sk h 14 [0, 0, 0] (d + 20, 235, 0, [some (.inr (.inr 109)), some (.inl (zk)), some (.inr (.inl (zv))), none, none, none], [], [], []) = some ((d + 20, 235, 29, [some (.inr (.inr 109)), some (.inl (zk)), some (.inr (.inl (zv))), none, none, none], [.inl ((0 : Int))], [.inl (13952, (1 : Int))], []), [((0 : Int)) ≤ zk, (mi_f h 14015) ≤ zk, ((0 : Int)) < ((1 : Int))]) := rfl
theorem mi_tab_seA_6 : ∀ e ∈ ([(235, (6, 4, sb_235))] : mi_T), sc_P e.1 = some e.2 := mi_tb mi_P235 (mi_tb_e)
set_option maxRecDepth 20000 in
theorem ms_seA_6 {h : sm_H} {d : Nat} {Q : Option mi_V → sm_H → Prop} {zk : Int} {zv : Int64} (hS : ab_Sh sx_sk h) (ok_zk : mi_in zk) (ho : (((0 : Int)) ≤ zk) ∧ ((mi_f h 14015) ≤ zk) ∧ (((0 : Int)) < ((1 : Int))) ∧ (((0 : Int)) = 0 ∨ ((0 : Int)) = 1)) (kon : ∀ h1, me_W [.inl (13952, (1 : Int))] h h1 → Q (some (.inl ((0 : Int)))) h1) : me_E (d + 20) 235 0 [some (.inr (.inr 109)), some (.inl (zk)), some (.inr (.inl (zv))), none, none, none] [] h Q := me_seg (mp_seA_6 h d zk zv) (mi_tab_seA_6) hS (mi_okL_c (trivial) (mi_okL_c (ok_zk) (mi_okL_c (trivial) (mi_okL_n (mi_okL_n (mi_okL_n (mi_okL_e))))))) (mi_okS_e) (mi_al (ho.1) (mi_al (ho.2.1) (mi_al (ho.2.2.1) (mi_al_e)))) (fun h1 W _ hst => me_ret (M := (6, 4, sb_235)) rfl rfl rfl hst (mi_al (ho.2.2.2) mi_al_e) (kon h1 W))
set_option maxRecDepth 20000 in
theorem mt_seA {h : sm_H} {d : Nat} {Q : Option mi_V → sm_H → Prop} {zk : Int} {zv : Int64} (hS : ab_Sh sx_sk h) (ok_zk : mi_in zk) (k0 : (zk < ((0 : Int))) → (∀ h1, ab_Sh sx_sk h1 → mi_f h1 13952 = (1 : Int) → ab_Fr [(13952, 13953)] h h1 → Q (some (.inl ((0 : Int)))) h1)) (k1 : (0 ≤ mi_f h 14015 ∧ mi_f h 14015 ≤ 100) → (((0 : Int)) ≤ zk) → (zk < (mi_f h 14015)) → ((mi_a h 155 (Int.toNat (mi_a h 157 (Int.toNat zk)))) ≠ ((2 : Int))) → ((mi_a h 155 (Int.toNat (mi_a h 157 (Int.toNat zk)))) ≠ ((3 : Int))) → ((0 ≤ zk ∧ zk < 100) ∧ (0 ≤ (mi_a h 157 (Int.toNat zk)) ∧ (mi_a h 157 (Int.toNat zk)) < 100)) ∧ (∀ h1, ab_Sh sx_sk h1 → mi_f h1 13952 = (0 : Int) → ab_Fr [(13952, 13953)] h h1 → Q (some (.inl ((0 : Int)))) h1)) (k2 : (0 ≤ mi_f h 14015 ∧ mi_f h 14015 ≤ 100) → (((0 : Int)) ≤ zk) → (zk < (mi_f h 14015)) → ((mi_a h 155 (Int.toNat (mi_a h 157 (Int.toNat zk)))) ≠ ((2 : Int))) → ((mi_a h 155 (Int.toNat (mi_a h 157 (Int.toNat zk)))) = ((3 : Int))) → ((0 ≤ zk ∧ zk < 100) ∧ (0 ≤ (mi_a h 157 (Int.toNat zk)) ∧ (mi_a h 157 (Int.toNat zk)) < 100)) ∧ (∀ h1, ab_Sh sx_sk h1 → mi_f h1 13952 = (0 : Int) → ab_Fr [(13952, 13953)] h h1 → ∃ Q1, me_E (d + 19) 236 0 (mi_entry 5 [.inr (.inr 109), .inr (.inl (zv))]) [] h1 Q1 ∧ ∀ w h2, (∀ x, w = some x → mi_ok x) → Q1 w h2 → me_E (d + 20) 235 87 [some (.inr (.inr 109)), some (.inl (zk)), some (.inr (.inl (zv))), none, some (.inl (mi_a h 157 (Int.toNat zk))), none] (mi_back w []) h2 Q)) (k3 : (0 ≤ mi_f h 14015 ∧ mi_f h 14015 ≤ 100) → (((0 : Int)) ≤ zk) → (zk < (mi_f h 14015)) → ((mi_a h 155 (Int.toNat (mi_a h 157 (Int.toNat zk)))) = ((2 : Int))) → (((lg_cmp zv (Int64.ofNat 0)).toInt) < ((0 : Int))) → ((0 ≤ zk ∧ zk < 100) ∧ (0 ≤ (mi_a h 157 (Int.toNat zk)) ∧ (mi_a h 157 (Int.toNat zk)) < 100)) ∧ (∀ h1, ab_Sh sx_sk h1 → mi_f h1 13952 = (0 : Int) → ab_Fr [(13952, 13953)] h h1 → Q (some (.inl ((0 : Int)))) h1)) (k4 : (0 ≤ mi_f h 14015 ∧ mi_f h 14015 ≤ 100) → (((0 : Int)) ≤ zk) → (zk < (mi_f h 14015)) → ((mi_a h 155 (Int.toNat (mi_a h 157 (Int.toNat zk)))) = ((2 : Int))) → (((0 : Int)) ≤ ((lg_cmp zv (Int64.ofNat 0)).toInt)) → (((0 : Int)) < ((lg_cmp zv (Int64.ofNat 9999)).toInt)) → ((0 ≤ zk ∧ zk < 100) ∧ (0 ≤ (mi_a h 157 (Int.toNat zk)) ∧ (mi_a h 157 (Int.toNat zk)) < 100)) ∧ (∀ h1, ab_Sh sx_sk h1 → mi_f h1 13952 = (0 : Int) → ab_Fr [(13952, 13953)] h h1 → Q (some (.inl ((0 : Int)))) h1)) (k5 : (0 ≤ mi_f h 14015 ∧ mi_f h 14015 ≤ 100) → (((0 : Int)) ≤ zk) → (zk < (mi_f h 14015)) → ((mi_a h 155 (Int.toNat (mi_a h 157 (Int.toNat zk)))) = ((2 : Int))) → (((0 : Int)) ≤ ((lg_cmp zv (Int64.ofNat 0)).toInt)) → (((lg_cmp zv (Int64.ofNat 9999)).toInt) ≤ ((0 : Int))) → ((0 ≤ zk ∧ zk < 100) ∧ (0 ≤ (mi_a h 157 (Int.toNat zk)) ∧ (mi_a h 157 (Int.toNat zk)) < 100)) ∧ (∀ h1, ab_Sh sx_sk h1 → mi_f h1 13952 = (0 : Int) → (∀ i, mx_b h1 162 i = if i = Int.toNat (mi_a h 157 (Int.toNat zk)) then zv else (mx_b h 162 i)) → ab_Fr [(13952, 13953), (20736, 20737)] h h1 → Q (some (.inl ((1 : Int)))) h1)) (k6 : (0 ≤ mi_f h 14015 ∧ mi_f h 14015 ≤ 100) → (((0 : Int)) ≤ zk) → ((mi_f h 14015) ≤ zk) → (∀ h1, ab_Sh sx_sk h1 → mi_f h1 13952 = (1 : Int) → ab_Fr [(13952, 13953)] h h1 → Q (some (.inl ((0 : Int)))) h1)) : me_E (d + 20) 235 0 [some (.inr (.inr 109)), some (.inl (zk)), some (.inr (.inl (zv))), none, none, none] [] h Q := Or.elim (mi_em .lt (zk) (((0 : Int)))) (fun c0 => ms_seA_0 hS ok_zk ⟨c0, (by decide), (by decide)⟩ (fun h1 W => (k0 c0) h1 W.1 (W.2.1 13952) (W.2.2.2.2.2 _ rfl))) (fun c0 => Or.elim (mi_em .lt (zk) ((mi_f h 14015))) (fun c1 => Or.elim (mi_em .ne ((mi_a h 155 (Int.toNat (mi_a h 157 (Int.toNat zk))))) (((2 : Int)))) (fun c2 => Or.elim (mi_em .ne ((mi_a h 155 (Int.toNat (mi_a h 157 (Int.toNat zk))))) (((3 : Int)))) (fun c3 => ms_seA_1 hS ok_zk ⟨c0, c1, (by decide), (k1 (me_fb hS rfl) c0 c1 c2 c3).1.1, (k1 (me_fb hS rfl) c0 c1 c2 c3).1.2, c2, (k1 (me_fb hS rfl) c0 c1 c2 c3).1.2, c3, (by decide), (by decide)⟩ (fun h1 W => (k1 (me_fb hS rfl) c0 c1 c2 c3).2 h1 W.1 (W.2.1 13952) (W.2.2.2.2.2 _ rfl))) (fun c3 => ms_seA_2 hS ok_zk ⟨c0, c1, (by decide), (k2 (me_fb hS rfl) c0 c1 c2 c3).1.1, (k2 (me_fb hS rfl) c0 c1 c2 c3).1.2, c2, (k2 (me_fb hS rfl) c0 c1 c2 c3).1.2, c3⟩ (fun h1 W => (k2 (me_fb hS rfl) c0 c1 c2 c3).2 h1 W.1 (W.2.1 13952) (W.2.2.2.2.2 _ rfl)))) (fun c2 => Or.elim (mi_em .lt (((lg_cmp zv (Int64.ofNat 0)).toInt)) (((0 : Int)))) (fun c3 => ms_seA_3 hS ok_zk ⟨c0, c1, (by decide), (k3 (me_fb hS rfl) c0 c1 c2 c3).1.1, (k3 (me_fb hS rfl) c0 c1 c2 c3).1.2, c2, c3, (by decide), (by decide)⟩ (fun h1 W => (k3 (me_fb hS rfl) c0 c1 c2 c3).2 h1 W.1 (W.2.1 13952) (W.2.2.2.2.2 _ rfl))) (fun c3 => Or.elim (mi_em .gt (((lg_cmp zv (Int64.ofNat 9999)).toInt)) (((0 : Int)))) (fun c4 => ms_seA_4 hS ok_zk ⟨c0, c1, (by decide), (k4 (me_fb hS rfl) c0 c1 c2 c3 c4).1.1, (k4 (me_fb hS rfl) c0 c1 c2 c3 c4).1.2, c2, c3, c4, (by decide), (by decide)⟩ (fun h1 W => (k4 (me_fb hS rfl) c0 c1 c2 c3 c4).2 h1 W.1 (W.2.1 13952) (W.2.2.2.2.2 _ rfl))) (fun c4 => ms_seA_5 hS ok_zk ⟨c0, c1, (by decide), (k5 (me_fb hS rfl) c0 c1 c2 c3 c4).1.1, (k5 (me_fb hS rfl) c0 c1 c2 c3 c4).1.2, c2, c3, c4, (by decide), (k5 (me_fb hS rfl) c0 c1 c2 c3 c4).1.2, (by decide)⟩ (fun h1 W => (k5 (me_fb hS rfl) c0 c1 c2 c3 c4).2 h1 W.1 (W.2.1 13952) (fun i => W.2.2.2.2.1 162 i) (W.2.2.2.2.2 _ rfl)))))) (fun c1 => ms_seA_6 hS ok_zk ⟨c0, c1, (by decide), (by decide)⟩ (fun h1 W => (k6 (me_fb hS rfl) c0 c1) h1 W.1 (W.2.1 13952) (W.2.2.2.2.2 _ rfl))))
set_option maxRecDepth 20000 in
theorem mp_seB_0 (h : sm_H) (d : Nat) (zk zt zz : Int) (zv : Int64) : mi_path [(235, (6, 4, sb_235))] sx_sk h 6 [1, 1] (d + 20, 235, 87, [some (.inr (.inr 109)), some (.inl (zk)), some (.inr (.inl (zv))), none, some (.inl (zt)), none], [.inl (zz)], [], []) = some ((d + 20, 235, 112, [some (.inr (.inr 109)), some (.inl (zk)), some (.inr (.inl (zv))), none, some (.inl (zt)), some (.inl ((0 : Int)))], [.inl ((0 : Int))], [], []), [zz = ((0 : Int)), ((0 : Int)) = ((0 : Int))]) := rfl
theorem mi_tab_seB_0 : ∀ e ∈ ([(235, (6, 4, sb_235))] : mi_T), sc_P e.1 = some e.2 := mi_tb mi_P235 (mi_tb_e)
set_option maxRecDepth 20000 in
theorem ms_seB_0 {h : sm_H} {d : Nat} {Q : Option mi_V → sm_H → Prop} {zk zt zz : Int} {zv : Int64} (hS : ab_Sh sx_sk h) (ok_zk : mi_in zk) (ok_zt : mi_in zt) (ok_zz : mi_in zz) (ho : (zz = ((0 : Int))) ∧ (((0 : Int)) = ((0 : Int))) ∧ (((0 : Int)) = 0 ∨ ((0 : Int)) = 1)) (kon : ∀ h1, me_W [] h h1 → Q (some (.inl ((0 : Int)))) h1) : me_E (d + 20) 235 87 [some (.inr (.inr 109)), some (.inl (zk)), some (.inr (.inl (zv))), none, some (.inl (zt)), none] [.inl (zz)] h Q := me_seg (mp_seB_0 h d zk zt zz zv) (mi_tab_seB_0) hS (mi_okL_c (trivial) (mi_okL_c (ok_zk) (mi_okL_c (trivial) (mi_okL_n (mi_okL_c (ok_zt) (mi_okL_n (mi_okL_e))))))) (mi_okS_cons (ok_zz) (mi_okS_e)) (mi_al (ho.1) (mi_al (ho.2.1) (mi_al_e))) (fun h1 W _ hst => me_ret (M := (6, 4, sb_235)) rfl rfl rfl hst (mi_al (ho.2.2) mi_al_e) (kon h1 W))
set_option maxRecDepth 20000 in
theorem mp_seB_1 (h : sm_H) (d : Nat) (zk zt zz : Int) (zv : Int64) : mi_path [(235, (6, 4, sb_235))] sx_sk h 12 [0, 0] (d + 20, 235, 87, [some (.inr (.inr 109)), some (.inl (zk)), some (.inr (.inl (zv))), none, some (.inl (zt)), none], [.inl (zz)], [], []) = some ((d + 20, 235, 112, [some (.inr (.inr 109)), some (.inl (zk)), some (.inr (.inl (zv))), none, some (.inl (zt)), some (.inl ((1 : Int)))], [.inl ((1 : Int))], [.inr (.inr (.inr (162, Int.toNat zt, zv)))], []), [zz ≠ ((0 : Int)), ((1 : Int)) ≠ ((0 : Int)), 0 ≤ zt ∧ zt < 100]) := rfl
theorem mi_tab_seB_1 : ∀ e ∈ ([(235, (6, 4, sb_235))] : mi_T), sc_P e.1 = some e.2 := mi_tb mi_P235 (mi_tb_e)
set_option maxRecDepth 20000 in
theorem ms_seB_1 {h : sm_H} {d : Nat} {Q : Option mi_V → sm_H → Prop} {zk zt zz : Int} {zv : Int64} (hS : ab_Sh sx_sk h) (ok_zk : mi_in zk) (ok_zt : mi_in zt) (ok_zz : mi_in zz) (ho : (zz ≠ ((0 : Int))) ∧ (((1 : Int)) ≠ ((0 : Int))) ∧ (0 ≤ zt ∧ zt < 100) ∧ (((1 : Int)) = 0 ∨ ((1 : Int)) = 1)) (kon : ∀ h1, me_W [.inr (.inr (.inr (162, Int.toNat zt, zv)))] h h1 → Q (some (.inl ((1 : Int)))) h1) : me_E (d + 20) 235 87 [some (.inr (.inr 109)), some (.inl (zk)), some (.inr (.inl (zv))), none, some (.inl (zt)), none] [.inl (zz)] h Q := me_seg (mp_seB_1 h d zk zt zz zv) (mi_tab_seB_1) hS (mi_okL_c (trivial) (mi_okL_c (ok_zk) (mi_okL_c (trivial) (mi_okL_n (mi_okL_c (ok_zt) (mi_okL_n (mi_okL_e))))))) (mi_okS_cons (ok_zz) (mi_okS_e)) (mi_al (ho.1) (mi_al (ho.2.1) (mi_al (ho.2.2.1) (mi_al_e)))) (fun h1 W _ hst => me_ret (M := (6, 4, sb_235)) rfl rfl rfl hst (mi_al (ho.2.2.2) mi_al_e) (kon h1 W))
set_option maxRecDepth 20000 in
theorem mt_seB {h : sm_H} {d : Nat} {Q : Option mi_V → sm_H → Prop} {zk zt zz : Int} {zv : Int64} (hS : ab_Sh sx_sk h) (ok_zk : mi_in zk) (ok_zt : mi_in zt) (ok_zz : mi_in zz) (k0 : (zz = ((0 : Int))) → (∀ h1, ab_Sh sx_sk h1 → ab_Fr [] h h1 → Q (some (.inl ((0 : Int)))) h1)) (k1 : (zz ≠ ((0 : Int))) → ((0 ≤ zt ∧ zt < 100)) ∧ (∀ h1, ab_Sh sx_sk h1 → (∀ i, mx_b h1 162 i = if i = Int.toNat zt then zv else (mx_b h 162 i)) → ab_Fr [(20736, 20737)] h h1 → Q (some (.inl ((1 : Int)))) h1)) : me_E (d + 20) 235 87 [some (.inr (.inr 109)), some (.inl (zk)), some (.inr (.inl (zv))), none, some (.inl (zt)), none] [.inl (zz)] h Q := Or.elim (mi_em .eq (zz) (((0 : Int)))) (fun c0 => ms_seB_0 hS ok_zk ok_zt ok_zz ⟨c0, (by decide), (by decide)⟩ (fun h1 W => (k0 c0) h1 W.1 (W.2.2.2.2.2 _ rfl))) (fun c0 => ms_seB_1 hS ok_zk ok_zt ok_zz ⟨c0, (by decide), (k1 c0).1, (by decide)⟩ (fun h1 W => (k1 c0).2 h1 W.1 (fun i => W.2.2.2.2.1 162 i) (W.2.2.2.2.2 _ rfl)))
set_option maxRecDepth 20000 in
theorem mp_inA_0 (h : sm_H) (d : Nat) (zv : Int64) : mi_path [(236, (5, 4, sb_236))] sx_sk h 5 [1] (d + 2, 236, 0, [some (.inr (.inr 109)), some (.inr (.inl (zv))), none, none, none], [], [], []) = some ((d + 2, 236, 15, [some (.inr (.inr 109)), some (.inr (.inl (zv))), none, none, none], [.inl ((0 : Int))], [], []), [((lg_cmp zv (Int64.ofNat 1)).toInt) < ((0 : Int))]) := rfl
theorem mi_tab_inA_0 : ∀ e ∈ ([(236, (5, 4, sb_236))] : mi_T), sc_P e.1 = some e.2 := mi_tb mi_P236 (mi_tb_e)
set_option maxRecDepth 20000 in
theorem ms_inA_0 {h : sm_H} {d : Nat} {Q : Option mi_V → sm_H → Prop} {zv : Int64} (hS : ab_Sh sx_sk h)  (ho : (((lg_cmp zv (Int64.ofNat 1)).toInt) < ((0 : Int))) ∧ (((0 : Int)) = 0 ∨ ((0 : Int)) = 1)) (kon : ∀ h1, me_W [] h h1 → Q (some (.inl ((0 : Int)))) h1) : me_E (d + 2) 236 0 [some (.inr (.inr 109)), some (.inr (.inl (zv))), none, none, none] [] h Q := me_seg (mp_inA_0 h d zv) (mi_tab_inA_0) hS (mi_okL_c (trivial) (mi_okL_c (trivial) (mi_okL_n (mi_okL_n (mi_okL_n (mi_okL_e)))))) (mi_okS_e) (mi_al (ho.1) (mi_al_e)) (fun h1 W _ hst => me_ret (M := (5, 4, sb_236)) rfl rfl rfl hst (mi_al (ho.2) mi_al_e) (kon h1 W))
set_option maxRecDepth 20000 in
theorem mp_inA_1 (h : sm_H) (d : Nat) (zv : Int64) : mi_path [(236, (5, 4, sb_236))] sx_sk h 10 [0, 1] (d + 2, 236, 0, [some (.inr (.inr 109)), some (.inr (.inl (zv))), none, none, none], [], [], []) = some ((d + 2, 236, 18, [some (.inr (.inr 109)), some (.inr (.inl (zv))), none, some (.inr (.inl (zv))), none], [], [], []), [((0 : Int)) ≤ ((lg_cmp zv (Int64.ofNat 1)).toInt), ((lg_cmp zv (Int64.ofNat 1073741824)).toInt) < ((0 : Int))]) := rfl
theorem mi_tab_inA_1 : ∀ e ∈ ([(236, (5, 4, sb_236))] : mi_T), sc_P e.1 = some e.2 := mi_tb mi_P236 (mi_tb_e)
set_option maxRecDepth 20000 in
theorem ms_inA_1 {h : sm_H} {d : Nat} {Q : Option mi_V → sm_H → Prop} {zv : Int64} (hS : ab_Sh sx_sk h)  (ho : (((0 : Int)) ≤ ((lg_cmp zv (Int64.ofNat 1)).toInt)) ∧ (((lg_cmp zv (Int64.ofNat 1073741824)).toInt) < ((0 : Int)))) (kon : ∀ h1, me_W [] h h1 → me_E (d + 2) 236 18 [some (.inr (.inr 109)), some (.inr (.inl (zv))), none, some (.inr (.inl (zv))), none] [] h1 Q) : me_E (d + 2) 236 0 [some (.inr (.inr 109)), some (.inr (.inl (zv))), none, none, none] [] h Q := me_seg (mp_inA_1 h d zv) (mi_tab_inA_1) hS (mi_okL_c (trivial) (mi_okL_c (trivial) (mi_okL_n (mi_okL_n (mi_okL_n (mi_okL_e)))))) (mi_okS_e) (mi_al (ho.1) (mi_al (ho.2) (mi_al_e))) (fun h1 W _ hst => kon h1 W)
set_option maxRecDepth 20000 in
theorem mp_inA_2 (h : sm_H) (d : Nat) (zv : Int64) : mi_path [(236, (5, 4, sb_236))] sx_sk h 9 [0, 0] (d + 2, 236, 0, [some (.inr (.inr 109)), some (.inr (.inl (zv))), none, none, none], [], [], []) = some ((d + 2, 236, 15, [some (.inr (.inr 109)), some (.inr (.inl (zv))), none, none, none], [.inl ((0 : Int))], [], []), [((0 : Int)) ≤ ((lg_cmp zv (Int64.ofNat 1)).toInt), ((0 : Int)) ≤ ((lg_cmp zv (Int64.ofNat 1073741824)).toInt)]) := rfl
theorem mi_tab_inA_2 : ∀ e ∈ ([(236, (5, 4, sb_236))] : mi_T), sc_P e.1 = some e.2 := mi_tb mi_P236 (mi_tb_e)
set_option maxRecDepth 20000 in
theorem ms_inA_2 {h : sm_H} {d : Nat} {Q : Option mi_V → sm_H → Prop} {zv : Int64} (hS : ab_Sh sx_sk h)  (ho : (((0 : Int)) ≤ ((lg_cmp zv (Int64.ofNat 1)).toInt)) ∧ (((0 : Int)) ≤ ((lg_cmp zv (Int64.ofNat 1073741824)).toInt)) ∧ (((0 : Int)) = 0 ∨ ((0 : Int)) = 1)) (kon : ∀ h1, me_W [] h h1 → Q (some (.inl ((0 : Int)))) h1) : me_E (d + 2) 236 0 [some (.inr (.inr 109)), some (.inr (.inl (zv))), none, none, none] [] h Q := me_seg (mp_inA_2 h d zv) (mi_tab_inA_2) hS (mi_okL_c (trivial) (mi_okL_c (trivial) (mi_okL_n (mi_okL_n (mi_okL_n (mi_okL_e)))))) (mi_okS_e) (mi_al (ho.1) (mi_al (ho.2.1) (mi_al_e))) (fun h1 W _ hst => me_ret (M := (5, 4, sb_236)) rfl rfl rfl hst (mi_al (ho.2.2) mi_al_e) (kon h1 W))
set_option maxRecDepth 20000 in
theorem mt_inA {h : sm_H} {d : Nat} {Q : Option mi_V → sm_H → Prop} {zv : Int64} (hS : ab_Sh sx_sk h)  (k0 : (((lg_cmp zv (Int64.ofNat 1)).toInt) < ((0 : Int))) → (∀ h1, ab_Sh sx_sk h1 → ab_Fr [] h h1 → Q (some (.inl ((0 : Int)))) h1)) (k1 : (((0 : Int)) ≤ ((lg_cmp zv (Int64.ofNat 1)).toInt)) → (((lg_cmp zv (Int64.ofNat 1073741824)).toInt) < ((0 : Int))) → (∀ h1, ab_Sh sx_sk h1 → ab_Fr [] h h1 → me_E (d + 2) 236 18 [some (.inr (.inr 109)), some (.inr (.inl (zv))), none, some (.inr (.inl (zv))), none] [] h1 Q)) (k2 : (((0 : Int)) ≤ ((lg_cmp zv (Int64.ofNat 1)).toInt)) → (((0 : Int)) ≤ ((lg_cmp zv (Int64.ofNat 1073741824)).toInt)) → (∀ h1, ab_Sh sx_sk h1 → ab_Fr [] h h1 → Q (some (.inl ((0 : Int)))) h1)) : me_E (d + 2) 236 0 [some (.inr (.inr 109)), some (.inr (.inl (zv))), none, none, none] [] h Q := Or.elim (mi_em .lt (((lg_cmp zv (Int64.ofNat 1)).toInt)) (((0 : Int)))) (fun c0 => ms_inA_0 hS ⟨c0, (by decide)⟩ (fun h1 W => (k0 c0) h1 W.1 (W.2.2.2.2.2 _ rfl))) (fun c0 => Or.elim (mi_em .lt (((lg_cmp zv (Int64.ofNat 1073741824)).toInt)) (((0 : Int)))) (fun c1 => ms_inA_1 hS ⟨c0, c1⟩ (fun h1 W => (k1 c0 c1) h1 W.1 (W.2.2.2.2.2 _ rfl))) (fun c1 => ms_inA_2 hS ⟨c0, c1, (by decide)⟩ (fun h1 W => (k2 c0 c1) h1 W.1 (W.2.2.2.2.2 _ rfl))))
set_option maxRecDepth 20000 in
theorem mp_inB_0 (h : sm_H) (d : Nat) (zv zw : Int64) : mi_path [(236, (5, 4, sb_236))] sx_sk h 6 [1] (d + 2, 236, 18, [some (.inr (.inr 109)), some (.inr (.inl (zv))), none, some (.inr (.inl (zw))), none], [], [], []) = some ((d + 2, 236, 57, [some (.inr (.inr 109)), some (.inr (.inl (zv))), none, some (.inr (.inl (zw))), none], [.inr (.inl (zv)), .inr (.inr 109)], [], []), [((lg_cmp zw (Int64.ofNat 0)).toInt) ≤ ((0 : Int))]) := rfl
theorem mi_tab_inB_0 : ∀ e ∈ ([(236, (5, 4, sb_236))] : mi_T), sc_P e.1 = some e.2 := mi_tb mi_P236 (mi_tb_e)
set_option maxRecDepth 20000 in
theorem ms_inB_0 {h : sm_H} {d : Nat} {Q : Option mi_V → sm_H → Prop} {zv zw : Int64} (hS : ab_Sh sx_sk h)  (ho : (((lg_cmp zw (Int64.ofNat 0)).toInt) ≤ ((0 : Int)))) (kon : ∀ h1, me_W [] h h1 → ∃ Q1, me_E (d + 1) 216 0 (mi_entry 4 [.inr (.inr 109), .inr (.inl (zv))]) [] h1 Q1 ∧ ∀ w h2, (∀ x, w = some x → mi_ok x) → Q1 w h2 → me_E (d + 2) 236 60 [some (.inr (.inr 109)), some (.inr (.inl (zv))), none, some (.inr (.inl (zw))), none] (mi_back w []) h2 Q) : me_E (d + 2) 236 18 [some (.inr (.inr 109)), some (.inr (.inl (zv))), none, some (.inr (.inl (zw))), none] [] h Q := me_seg (mp_inB_0 h d zv zw) (mi_tab_inB_0) hS (mi_okL_c (trivial) (mi_okL_c (trivial) (mi_okL_n (mi_okL_c (trivial) (mi_okL_n (mi_okL_e)))))) (mi_okS_e) (mi_al (ho) (mi_al_e)) (fun h1 W _ hst => let ⟨_, k1, k2⟩ := kon h1 W; me_call (M := (5, 4, sb_236)) (M' := (4, 1, sb_216)) rfl rfl rfl rfl (Nat.le_of_ble_eq_true rfl) (Nat.le_of_ble_eq_true rfl) W.1 k1 k2)
set_option maxRecDepth 20000 in
theorem mp_inB_1 (h : sm_H) (d : Nat) (zv zw : Int64) : mi_path [(236, (5, 4, sb_236))] sx_sk h 11 [0, 1] (d + 2, 236, 18, [some (.inr (.inr 109)), some (.inr (.inl (zv))), none, some (.inr (.inl (zw))), none], [], [], []) = some ((d + 2, 236, 47, [some (.inr (.inr 109)), some (.inr (.inl (zv))), none, some (.inr (.inl (zw))), none], [.inl ((0 : Int))], [], []), [((0 : Int)) < ((lg_cmp zw (Int64.ofNat 0)).toInt), ((lg_cmp (zw &&& (Int64.ofNat 31)) (Int64.ofNat 1)).toInt) < ((0 : Int))]) := rfl
theorem mi_tab_inB_1 : ∀ e ∈ ([(236, (5, 4, sb_236))] : mi_T), sc_P e.1 = some e.2 := mi_tb mi_P236 (mi_tb_e)
set_option maxRecDepth 20000 in
theorem ms_inB_1 {h : sm_H} {d : Nat} {Q : Option mi_V → sm_H → Prop} {zv zw : Int64} (hS : ab_Sh sx_sk h)  (ho : (((0 : Int)) < ((lg_cmp zw (Int64.ofNat 0)).toInt)) ∧ (((lg_cmp (zw &&& (Int64.ofNat 31)) (Int64.ofNat 1)).toInt) < ((0 : Int))) ∧ (((0 : Int)) = 0 ∨ ((0 : Int)) = 1)) (kon : ∀ h1, me_W [] h h1 → Q (some (.inl ((0 : Int)))) h1) : me_E (d + 2) 236 18 [some (.inr (.inr 109)), some (.inr (.inl (zv))), none, some (.inr (.inl (zw))), none] [] h Q := me_seg (mp_inB_1 h d zv zw) (mi_tab_inB_1) hS (mi_okL_c (trivial) (mi_okL_c (trivial) (mi_okL_n (mi_okL_c (trivial) (mi_okL_n (mi_okL_e)))))) (mi_okS_e) (mi_al (ho.1) (mi_al (ho.2.1) (mi_al_e))) (fun h1 W _ hst => me_ret (M := (5, 4, sb_236)) rfl rfl rfl hst (mi_al (ho.2.2) mi_al_e) (kon h1 W))
set_option maxRecDepth 20000 in
theorem mp_inB_2 (h : sm_H) (d : Nat) (zv zw : Int64) : mi_path [(236, (5, 4, sb_236))] sx_sk h 21 [0, 0, 1] (d + 2, 236, 18, [some (.inr (.inr 109)), some (.inr (.inl (zv))), none, some (.inr (.inl (zw))), none], [], [], []) = some ((d + 2, 236, 18, [some (.inr (.inr 109)), some (.inr (.inl (zv))), none, some (.inr (.inl (zw >>> ((Int32.ofInt ((5 : Int))).toInt64 &&& 63)))), none], [], [], []), [((0 : Int)) < ((lg_cmp zw (Int64.ofNat 0)).toInt), ((0 : Int)) ≤ ((lg_cmp (zw &&& (Int64.ofNat 31)) (Int64.ofNat 1)).toInt), ((lg_cmp (zw &&& (Int64.ofNat 31)) (Int64.ofNat 26)).toInt) ≤ ((0 : Int))]) := rfl
theorem mi_tab_inB_2 : ∀ e ∈ ([(236, (5, 4, sb_236))] : mi_T), sc_P e.1 = some e.2 := mi_tb mi_P236 (mi_tb_e)
set_option maxRecDepth 20000 in
theorem ms_inB_2 {h : sm_H} {d : Nat} {Q : Option mi_V → sm_H → Prop} {zv zw : Int64} (hS : ab_Sh sx_sk h)  (ho : (((0 : Int)) < ((lg_cmp zw (Int64.ofNat 0)).toInt)) ∧ (((0 : Int)) ≤ ((lg_cmp (zw &&& (Int64.ofNat 31)) (Int64.ofNat 1)).toInt)) ∧ (((lg_cmp (zw &&& (Int64.ofNat 31)) (Int64.ofNat 26)).toInt) ≤ ((0 : Int)))) (kon : ∀ h1, me_W [] h h1 → me_E (d + 2) 236 18 [some (.inr (.inr 109)), some (.inr (.inl (zv))), none, some (.inr (.inl (zw >>> ((Int32.ofInt ((5 : Int))).toInt64 &&& 63)))), none] [] h1 Q) : me_E (d + 2) 236 18 [some (.inr (.inr 109)), some (.inr (.inl (zv))), none, some (.inr (.inl (zw))), none] [] h Q := me_seg (mp_inB_2 h d zv zw) (mi_tab_inB_2) hS (mi_okL_c (trivial) (mi_okL_c (trivial) (mi_okL_n (mi_okL_c (trivial) (mi_okL_n (mi_okL_e)))))) (mi_okS_e) (mi_al (ho.1) (mi_al (ho.2.1) (mi_al (ho.2.2) (mi_al_e)))) (fun h1 W _ hst => kon h1 W)
set_option maxRecDepth 20000 in
theorem mp_inB_3 (h : sm_H) (d : Nat) (zv zw : Int64) : mi_path [(236, (5, 4, sb_236))] sx_sk h 17 [0, 0, 0] (d + 2, 236, 18, [some (.inr (.inr 109)), some (.inr (.inl (zv))), none, some (.inr (.inl (zw))), none], [], [], []) = some ((d + 2, 236, 47, [some (.inr (.inr 109)), some (.inr (.inl (zv))), none, some (.inr (.inl (zw))), none], [.inl ((0 : Int))], [], []), [((0 : Int)) < ((lg_cmp zw (Int64.ofNat 0)).toInt), ((0 : Int)) ≤ ((lg_cmp (zw &&& (Int64.ofNat 31)) (Int64.ofNat 1)).toInt), ((0 : Int)) < ((lg_cmp (zw &&& (Int64.ofNat 31)) (Int64.ofNat 26)).toInt)]) := rfl
theorem mi_tab_inB_3 : ∀ e ∈ ([(236, (5, 4, sb_236))] : mi_T), sc_P e.1 = some e.2 := mi_tb mi_P236 (mi_tb_e)
set_option maxRecDepth 20000 in
theorem ms_inB_3 {h : sm_H} {d : Nat} {Q : Option mi_V → sm_H → Prop} {zv zw : Int64} (hS : ab_Sh sx_sk h)  (ho : (((0 : Int)) < ((lg_cmp zw (Int64.ofNat 0)).toInt)) ∧ (((0 : Int)) ≤ ((lg_cmp (zw &&& (Int64.ofNat 31)) (Int64.ofNat 1)).toInt)) ∧ (((0 : Int)) < ((lg_cmp (zw &&& (Int64.ofNat 31)) (Int64.ofNat 26)).toInt)) ∧ (((0 : Int)) = 0 ∨ ((0 : Int)) = 1)) (kon : ∀ h1, me_W [] h h1 → Q (some (.inl ((0 : Int)))) h1) : me_E (d + 2) 236 18 [some (.inr (.inr 109)), some (.inr (.inl (zv))), none, some (.inr (.inl (zw))), none] [] h Q := me_seg (mp_inB_3 h d zv zw) (mi_tab_inB_3) hS (mi_okL_c (trivial) (mi_okL_c (trivial) (mi_okL_n (mi_okL_c (trivial) (mi_okL_n (mi_okL_e)))))) (mi_okS_e) (mi_al (ho.1) (mi_al (ho.2.1) (mi_al (ho.2.2.1) (mi_al_e)))) (fun h1 W _ hst => me_ret (M := (5, 4, sb_236)) rfl rfl rfl hst (mi_al (ho.2.2.2) mi_al_e) (kon h1 W))
set_option maxRecDepth 20000 in
theorem mt_inB {h : sm_H} {d : Nat} {Q : Option mi_V → sm_H → Prop} {zv zw : Int64} (hS : ab_Sh sx_sk h)  (k0 : (((lg_cmp zw (Int64.ofNat 0)).toInt) ≤ ((0 : Int))) → (∀ h1, ab_Sh sx_sk h1 → ab_Fr [] h h1 → ∃ Q1, me_E (d + 1) 216 0 (mi_entry 4 [.inr (.inr 109), .inr (.inl (zv))]) [] h1 Q1 ∧ ∀ w h2, (∀ x, w = some x → mi_ok x) → Q1 w h2 → me_E (d + 2) 236 60 [some (.inr (.inr 109)), some (.inr (.inl (zv))), none, some (.inr (.inl (zw))), none] (mi_back w []) h2 Q)) (k1 : (((0 : Int)) < ((lg_cmp zw (Int64.ofNat 0)).toInt)) → (((lg_cmp (zw &&& (Int64.ofNat 31)) (Int64.ofNat 1)).toInt) < ((0 : Int))) → (∀ h1, ab_Sh sx_sk h1 → ab_Fr [] h h1 → Q (some (.inl ((0 : Int)))) h1)) (k2 : (((0 : Int)) < ((lg_cmp zw (Int64.ofNat 0)).toInt)) → (((0 : Int)) ≤ ((lg_cmp (zw &&& (Int64.ofNat 31)) (Int64.ofNat 1)).toInt)) → (((lg_cmp (zw &&& (Int64.ofNat 31)) (Int64.ofNat 26)).toInt) ≤ ((0 : Int))) → (∀ h1, ab_Sh sx_sk h1 → ab_Fr [] h h1 → me_E (d + 2) 236 18 [some (.inr (.inr 109)), some (.inr (.inl (zv))), none, some (.inr (.inl (zw >>> ((Int32.ofInt ((5 : Int))).toInt64 &&& 63)))), none] [] h1 Q)) (k3 : (((0 : Int)) < ((lg_cmp zw (Int64.ofNat 0)).toInt)) → (((0 : Int)) ≤ ((lg_cmp (zw &&& (Int64.ofNat 31)) (Int64.ofNat 1)).toInt)) → (((0 : Int)) < ((lg_cmp (zw &&& (Int64.ofNat 31)) (Int64.ofNat 26)).toInt)) → (∀ h1, ab_Sh sx_sk h1 → ab_Fr [] h h1 → Q (some (.inl ((0 : Int)))) h1)) : me_E (d + 2) 236 18 [some (.inr (.inr 109)), some (.inr (.inl (zv))), none, some (.inr (.inl (zw))), none] [] h Q := Or.elim (mi_em .le (((lg_cmp zw (Int64.ofNat 0)).toInt)) (((0 : Int)))) (fun c0 => ms_inB_0 hS (c0) (fun h1 W => (k0 c0) h1 W.1 (W.2.2.2.2.2 _ rfl))) (fun c0 => Or.elim (mi_em .lt (((lg_cmp (zw &&& (Int64.ofNat 31)) (Int64.ofNat 1)).toInt)) (((0 : Int)))) (fun c1 => ms_inB_1 hS ⟨c0, c1, (by decide)⟩ (fun h1 W => (k1 c0 c1) h1 W.1 (W.2.2.2.2.2 _ rfl))) (fun c1 => Or.elim (mi_em .le (((lg_cmp (zw &&& (Int64.ofNat 31)) (Int64.ofNat 26)).toInt)) (((0 : Int)))) (fun c2 => ms_inB_2 hS ⟨c0, c1, c2⟩ (fun h1 W => (k2 c0 c1 c2) h1 W.1 (W.2.2.2.2.2 _ rfl))) (fun c2 => ms_inB_3 hS ⟨c0, c1, c2, (by decide)⟩ (fun h1 W => (k3 c0 c1 c2) h1 W.1 (W.2.2.2.2.2 _ rfl)))))
set_option maxRecDepth 20000 in
theorem mp_inC_0 (h : sm_H) (d : Nat) (zz : Int) (zv zw : Int64) : mi_path [(236, (5, 4, sb_236))] sx_sk h 2 [1] (d + 2, 236, 60, [some (.inr (.inr 109)), some (.inr (.inl (zv))), none, some (.inr (.inl (zw))), none], [.inl (zz)], [], []) = some ((d + 2, 236, 68, [some (.inr (.inr 109)), some (.inr (.inl (zv))), none, some (.inr (.inl (zw))), none], [.inl ((0 : Int))], [], []), [((0 : Int)) ≤ zz]) := rfl
theorem mi_tab_inC_0 : ∀ e ∈ ([(236, (5, 4, sb_236))] : mi_T), sc_P e.1 = some e.2 := mi_tb mi_P236 (mi_tb_e)
set_option maxRecDepth 20000 in
theorem ms_inC_0 {h : sm_H} {d : Nat} {Q : Option mi_V → sm_H → Prop} {zz : Int} {zv zw : Int64} (hS : ab_Sh sx_sk h) (ok_zz : mi_in zz) (ho : (((0 : Int)) ≤ zz) ∧ (((0 : Int)) = 0 ∨ ((0 : Int)) = 1)) (kon : ∀ h1, me_W [] h h1 → Q (some (.inl ((0 : Int)))) h1) : me_E (d + 2) 236 60 [some (.inr (.inr 109)), some (.inr (.inl (zv))), none, some (.inr (.inl (zw))), none] [.inl (zz)] h Q := me_seg (mp_inC_0 h d zz zv zw) (mi_tab_inC_0) hS (mi_okL_c (trivial) (mi_okL_c (trivial) (mi_okL_n (mi_okL_c (trivial) (mi_okL_n (mi_okL_e)))))) (mi_okS_cons (ok_zz) (mi_okS_e)) (mi_al (ho.1) (mi_al_e)) (fun h1 W _ hst => me_ret (M := (5, 4, sb_236)) rfl rfl rfl hst (mi_al (ho.2) mi_al_e) (kon h1 W))
set_option maxRecDepth 20000 in
theorem mp_inC_1 (h : sm_H) (d : Nat) (zz : Int) (zv zw : Int64) : mi_path [(236, (5, 4, sb_236))] sx_sk h 3 [0] (d + 2, 236, 60, [some (.inr (.inr 109)), some (.inr (.inl (zv))), none, some (.inr (.inl (zw))), none], [.inl (zz)], [], []) = some ((d + 2, 236, 68, [some (.inr (.inr 109)), some (.inr (.inl (zv))), none, some (.inr (.inl (zw))), none], [.inl ((1 : Int))], [], []), [zz < ((0 : Int))]) := rfl
theorem mi_tab_inC_1 : ∀ e ∈ ([(236, (5, 4, sb_236))] : mi_T), sc_P e.1 = some e.2 := mi_tb mi_P236 (mi_tb_e)
set_option maxRecDepth 20000 in
theorem ms_inC_1 {h : sm_H} {d : Nat} {Q : Option mi_V → sm_H → Prop} {zz : Int} {zv zw : Int64} (hS : ab_Sh sx_sk h) (ok_zz : mi_in zz) (ho : (zz < ((0 : Int))) ∧ (((1 : Int)) = 0 ∨ ((1 : Int)) = 1)) (kon : ∀ h1, me_W [] h h1 → Q (some (.inl ((1 : Int)))) h1) : me_E (d + 2) 236 60 [some (.inr (.inr 109)), some (.inr (.inl (zv))), none, some (.inr (.inl (zw))), none] [.inl (zz)] h Q := me_seg (mp_inC_1 h d zz zv zw) (mi_tab_inC_1) hS (mi_okL_c (trivial) (mi_okL_c (trivial) (mi_okL_n (mi_okL_c (trivial) (mi_okL_n (mi_okL_e)))))) (mi_okS_cons (ok_zz) (mi_okS_e)) (mi_al (ho.1) (mi_al_e)) (fun h1 W _ hst => me_ret (M := (5, 4, sb_236)) rfl rfl rfl hst (mi_al (ho.2) mi_al_e) (kon h1 W))
set_option maxRecDepth 20000 in
theorem mt_inC {h : sm_H} {d : Nat} {Q : Option mi_V → sm_H → Prop} {zz : Int} {zv zw : Int64} (hS : ab_Sh sx_sk h) (ok_zz : mi_in zz) (k0 : (((0 : Int)) ≤ zz) → (∀ h1, ab_Sh sx_sk h1 → ab_Fr [] h h1 → Q (some (.inl ((0 : Int)))) h1)) (k1 : (zz < ((0 : Int))) → (∀ h1, ab_Sh sx_sk h1 → ab_Fr [] h h1 → Q (some (.inl ((1 : Int)))) h1)) : me_E (d + 2) 236 60 [some (.inr (.inr 109)), some (.inr (.inl (zv))), none, some (.inr (.inl (zw))), none] [.inl (zz)] h Q := Or.elim (mi_em .ge (zz) (((0 : Int)))) (fun c0 => ms_inC_0 hS ok_zz ⟨c0, (by decide)⟩ (fun h1 W => (k0 c0) h1 W.1 (W.2.2.2.2.2 _ rfl))) (fun c0 => ms_inC_1 hS ok_zz ⟨c0, (by decide)⟩ (fun h1 W => (k1 c0) h1 W.1 (W.2.2.2.2.2 _ rfl)))
/-! tokenize -/
theorem me_oi {z : Int} (h : mi_in z) : ∀ v, (some (Sum.inl z : mi_V)) = some v → mi_ok v := fun v e => by
  cases e
  exact h
theorem me_on : ∀ v, (none : Option mi_V) = some v → mi_ok v := fun v e => by cases e
theorem me_resI {k : Nat} {a : ab_V} {w : Option mi_V} (h : mi_res k a w) (hk : k ≠ 0) (ha : a.1 = 1) : ∃ z, w = some (.inl z) ∧ a.2.1 ≤ z ∧ z ≤ a.2.2.1 := by
  unfold mi_res at h
  rw [if_neg hk] at h
  rcases h with h | h | h
  · exact h.2
  · omega
  · omega
section TKP
variable {d : Nat} {h : sm_H} {zc : Int}
theorem me_pred {m : Nat} {b : List (Option sm_I)} (hS : ab_Sh sx_sk h) (oc : mi_in zc) (hok : ab_Ok sc_P sx_sk (m, [ab_top], [], [((1, 0, 1, []), [])], [], 0)) (hM : sc_P m = some (1, 4, b)) : me_E d m 0 [some (.inl zc)] [] h (fun w h' => h' = h ∧ ∃ z, w = some (.inl z) ∧ mi_in z) := by
  have := me_abs (M := (1, 4, b)) (as := [.inl zc]) hok hM hS ⟨me_nv1 oc oc.1 oc.2, trivial⟩ (fun e he => by cases he) rfl
  refine (me_E.deep (d' := d) this (Nat.zero_le _)).imp (fun w h' hq => ?_)
  obtain ⟨q1, q2, p, hp, q3, -⟩ := hq
  refine ⟨me_nil q2, ?_⟩
  rcases List.mem_cons.mp hp with rfl | hp
  · obtain ⟨z, e, z0, z1⟩ := me_resI q3 (show (4 : Nat) ≠ 0 from by decide) rfl
    have z0 : (0 : Int) ≤ z := z0
    have z1 : z ≤ 1 := z1
    exact ⟨z, e, by omega, by omega⟩
  · cases hp
theorem me_isLow (hS : ab_Sh sx_sk h) (oc : mi_in zc) : me_E d 180 0 [some (.inl zc)] [] h (fun w h' => h' = h ∧ ∃ z, w = some (.inl z) ∧ mi_in z) := me_pred (b := sb_180) hS oc xo_v_isLow rfl
theorem me_isDigit (hS : ab_Sh sx_sk h) (oc : mi_in zc) : me_E d 182 0 [some (.inl zc)] [] h (fun w h' => h' = h ∧ ∃ z, w = some (.inl z) ∧ mi_in z) := me_pred (b := sb_182) hS oc xo_v_isDigit rfl
theorem me_isBlank (hS : ab_Sh sx_sk h) (oc : mi_in zc) : me_E d 178 0 [some (.inl zc)] [] h (fun w h' => h' = h ∧ ∃ z, w = some (.inl z) ∧ mi_in z) := me_pred (b := sb_178) hS oc xo_v_isBlank rfl
theorem me_signOf (hS : ab_Sh sx_sk h) (oc : mi_in zc) : me_E d 230 0 [some (.inr (.inr 109)), some (.inl zc), none] [] h (fun w h' => h' = h ∧ ∃ z, w = some (.inl z) ∧ -1 ≤ z ∧ z ≤ 22) := by
  have := me_abs (M := (3, 1, sb_230)) (as := [.inr (.inr 109), .inl zc]) xo_v_signOf rfl hS ⟨rfl, me_nv1 oc oc.1 oc.2, trivial⟩ (fun e he => by cases he) (by decide)
  refine (me_E.deep (d' := d) this (Nat.zero_le _)).imp (fun w h' hq => ?_)
  obtain ⟨q1, q2, p, hp, q3, -⟩ := hq
  refine ⟨me_nil q2, ?_⟩
  rcases List.mem_cons.mp hp with rfl | hp
  · exact me_resI q3 (by decide) rfl
  · cases hp
theorem me_nvL (x : Int64) : ab_nv ab_topL (some (mi_c (.inr (.inl x)))) := ab_mktL x
theorem me_kwOf {x : Int64} (hS : ab_Sh sx_sk h) : me_E d 216 0 [some (.inr (.inr 109)), some (.inr (.inl x)), none, none] [] h (fun w h' => h' = h ∧ ∃ z, w = some (.inl z) ∧ -1 ≤ z ∧ z ≤ 19) := by
  have := me_abs (M := (4, 1, sb_216)) (as := [.inr (.inr 109), .inr (.inl x)]) xo_v_keywordOf rfl hS ⟨rfl, me_nvL x, trivial⟩ (fun e he => by cases he) (by decide)
  refine (me_E.deep (d' := d) this (Nat.zero_le _)).imp (fun w h' hq => ?_)
  obtain ⟨q1, q2, p, hp, q3, -⟩ := hq
  refine ⟨me_nil q2, ?_⟩
  rcases List.mem_cons.mp hp with rfl | hp
  · exact me_resI q3 (by decide) rfl
  · cases hp
end TKP
def tk_W : List (Nat × Nat) := [(14011, 14012), (19456, 19457), (19584, 19585), (19712, 19713)]
def tk_Q (h0 : sm_H) (w : Option mi_V) (h' : sm_H) : Prop := w = none ∧ ab_Sh sx_sk h' ∧ ab_Fr tk_W h0 h' ∧ mi_a h' 152 (mi_f h' 14011).toNat = 0
section TKQ
variable {d : Nat} {h0 : sm_H} {zk : Int}
/-- on from a token's end -/
def tk_C (d : Nat) (h0 : sm_H) (zk : Int) : Prop := ∀ (ze : Int) (q2 q3 q4 q5 q6 q7 : Option mi_V) (h1 : sm_H), zk < ze → ze ≤ mi_f h0 13954 → (∀ v, q2 = some v → mi_ok v) → (∀ v, q3 = some v → mi_ok v) → (∀ v, q4 = some v → mi_ok v) → (∀ v, q5 = some v → mi_ok v) → (∀ v, q6 = some v → mi_ok v) → (∀ v, q7 = some v → mi_ok v) → ab_Sh sx_sk h1 → ab_Fr tk_W h0 h1 → mi_f h1 14011 ≤ ze → me_E (d + 1) 229 7 [some (.inr (.inr 109)), some (.inl ze), q2, q3, q4, q5, q6, q7] [] h1 (tk_Q h0)
theorem tk135 {zc zl zd ze zn : Int} (hC : tk_C d h0 zk) (k0 : 0 ≤ zk) (e0 : zk < ze) (e1 : ze ≤ mi_f h0 13954) (e2 : mi_f h0 13954 ≤ 160) (oc : mi_in zc) (ol : mi_in zl) (od : mi_in zd) (on : mi_in zn) : ∀ (N : Nat) (zj : Int) (h : sm_H), ze - zj < N → zk ≤ zj → zj ≤ ze → ab_Sh sx_sk h → ab_Fr tk_W h0 h → mi_f h 14011 ≤ zk → me_E (d + 1) 229 135 [some (.inr (.inr 109)), some (.inl zk), some (.inl zc), some (.inl zl), some (.inl zd), some (.inl ze), some (.inl zn), some (.inl zj)] [] h (tk_Q h0) := by
  intro N
  induction N with
  | zero => intro zj h hN _ _; exfalso; omega
  | succ N ih =>
    intro zj h hN j0 j1 hS hF ht
    have ok : mi_in zk := ⟨by omega, by omega⟩
    have oe : mi_in ze := ⟨by omega, by omega⟩
    have oj : mi_in zj := ⟨by omega, by omega⟩
    refine mt_tk9 hS ok oc ol od oe on oj ?_ ?_ ?_ ?_
    · intro b c1 c2
      refine ⟨by omega, fun h1 g1 g2 g3 g4 => ?_⟩
      exact hC ze _ _ _ _ _ _ h1 e0 e1 (me_oi oc) (me_oi ol) (me_oi od) (me_oi oe) (me_oi on) (me_oi oj) g1 (hF.trans (g4.wide (fun c hc => ab_swr_ok (by decide) hc))) (by omega)
    · intro b c1 c2
      refine ⟨by omega, fun h1 g1 g2 g3 g4 => ?_⟩
      exact hC ze _ _ _ _ _ _ h1 e0 e1 (me_oi oc) (me_oi ol) (me_oi od) (me_oi oe) (me_oi on) (me_oi oj) g1 (hF.trans (g4.wide (fun c hc => ab_swr_ok (by decide) hc))) (by omega)
    · intro b c1 c2
      refine ⟨by omega, fun h1 g1 g2 g3 g4 => ?_⟩
      exact hC ze _ _ _ _ _ _ h1 e0 e1 (me_oi oc) (me_oi ol) (me_oi od) (me_oi oe) (me_oi on) (me_oi oj) g1 (hF.trans (g4.wide (fun c hc => ab_swr_ok (by decide) hc))) (by omega)
    · intro b c1 c2
      refine ⟨by omega, fun h1 g1 g2 g3 => ?_⟩
      refine ih (zj + 1) h1 (by omega) (by omega) (by omega) g1 (hF.trans (g3.wide (fun c hc => ab_swr_ok (by decide) hc))) ?_
      rw [me_f (c := 14011) g3 hS rfl rfl]
      exact ht
theorem tk222 {zc zl zd ze zn : Int} (hC : tk_C d h0 zk) (k0 : 0 ≤ zk) (e0 : zk < ze) (e1 : ze ≤ mi_f h0 13954) (e2 : mi_f h0 13954 ≤ 160) (oc : mi_in zc) (ol : mi_in zl) (od : mi_in zd) (on : mi_in zn) : ∀ (N : Nat) (zj : Int) (h : sm_H), zj - zk + 1 < N → zk - 1 ≤ zj → zj < ze → ab_Sh sx_sk h → ab_Fr tk_W h0 h → mi_f h 14011 ≤ zk → me_E (d + 1) 229 222 [some (.inr (.inr 109)), some (.inl zk), some (.inl zc), some (.inl zl), some (.inl zd), some (.inl ze), some (.inl zn), some (.inl zj)] [] h (tk_Q h0) := by
  intro N
  induction N with
  | zero => intro zj h hN _ _; exfalso; omega
  | succ N ih =>
    intro zj h hN j0 j1 hS hF ht
    have ok : mi_in zk := ⟨by omega, by omega⟩
    have oe : mi_in ze := ⟨by omega, by omega⟩
    have oj : mi_in zj := ⟨by omega, by omega⟩
    have o1 : mi_in (-1) := ⟨by decide, by decide⟩
    refine mt_tk10 hS ok oc ol od oe on oj ?_ ?_ ?_ ?_ ?_ ?_
    · intro b c1 c2 c3
      exfalso; omega
    · intro b c1 c2 c3
      refine ⟨by omega, fun h1 g1 g2 g3 g4 => ?_⟩
      exact hC ze _ _ _ _ _ _ h1 e0 e1 (me_oi oc) (me_oi ol) (me_oi od) (me_oi oe) (me_oi on) (me_oi o1) g1 (hF.trans (g4.wide (fun c hc => ab_swr_ok (by decide) hc))) (by omega)
    · intro b c1 c2
      refine ⟨by omega, fun h1 g1 g2 => ?_⟩
      have e3 := me_nil g2
      subst e3
      refine ⟨_, me_kwOf g1, fun w h2 ow hq => ?_⟩
      obtain ⟨rfl, z, rfl, z0, z1⟩ := hq
      have oz : mi_in z := ⟨by omega, by omega⟩
      refine mt_tk11 g1 ok oc ol od oe on oj oz ?_ ?_ ?_
      · intro b c3 c4
        refine ⟨by omega, fun h3 r1 r2 r3 r4 => ?_⟩
        exact hC ze _ _ _ _ _ _ h3 e0 e1 (me_oi oc) (me_oi ol) (me_oi od) (me_oi oe) (me_oi on) (me_oi oz) r1 (hF.trans (r4.wide (fun c hc => ab_swr_ok (by decide) hc))) (by omega)
      · intro b c3 c4
        refine ⟨by omega, fun h3 r1 r2 r3 r4 => ?_⟩
        exact hC ze _ _ _ _ _ _ h3 e0 e1 (me_oi oc) (me_oi ol) (me_oi od) (me_oi oe) (me_oi on) (me_oi oz) r1 (hF.trans (r4.wide (fun c hc => ab_swr_ok (by decide) hc))) (by omega)
      · intro b c3
        refine ⟨by omega, fun h3 r1 r2 r3 r4 => ?_⟩
        exact hC ze _ _ _ _ _ _ h3 e0 e1 (me_oi oc) (me_oi ol) (me_oi od) (me_oi oe) (me_oi on) (me_oi oz) r1 (hF.trans (r4.wide (fun c hc => ab_swr_ok (by decide) hc))) (by omega)
    · intro b c1 c2 c3
      exfalso; omega
    · intro b c1 c2 c3
      refine ⟨by omega, fun h1 g1 g2 g3 g4 => ?_⟩
      exact hC ze _ _ _ _ _ _ h1 e0 e1 (me_oi oc) (me_oi ol) (me_oi od) (me_oi oe) (me_oi on) (me_oi o1) g1 (hF.trans (g4.wide (fun c hc => ab_swr_ok (by decide) hc))) (by omega)
    · intro b c1 c2
      refine ⟨by omega, fun h1 g1 g2 g3 => ?_⟩
      refine ih (zj + -1) h1 (by omega) (by omega) (by omega) g1 (hF.trans (g3.wide (fun c hc => ab_swr_ok (by decide) hc))) ?_
      rw [me_f (c := 14011) g3 hS rfl rfl]
      exact ht
theorem tk111 {zc zl zd ze : Int} {q6 q7 : Option mi_V} {h : sm_H} (hC : tk_C d h0 zk) (k0 : 0 ≤ zk) (e0 : zk < ze) (e1 : ze ≤ mi_f h0 13954) (e2 : mi_f h0 13954 ≤ 160) (oc : mi_in zc) (ol : mi_in zl) (od : mi_in zd) (o6 : ∀ v, q6 = some v → mi_ok v) (o7 : ∀ v, q7 = some v → mi_ok v) (hS : ab_Sh sx_sk h) (hF : ab_Fr tk_W h0 h) (ht : mi_f h 14011 ≤ zk) : me_E (d + 1) 229 111 [some (.inr (.inr 109)), some (.inl zk), some (.inl zc), some (.inl zl), some (.inl zd), some (.inl ze), q6, q7] [] h (tk_Q h0) := by
  have ok : mi_in zk := ⟨by omega, by omega⟩
  have oe : mi_in ze := ⟨by omega, by omega⟩
  have on : mi_in (ze - zk) := ⟨by omega, by omega⟩
  refine mt_tk8 hS ok oc ol od oe o6 o7 ?_ ?_ ?_
  · intro b c1 c2
    refine ⟨by omega, fun h1 g1 g2 g3 => ⟨_, me_signOf g1 oc, fun w h2 ow hq => ?_⟩⟩
    obtain ⟨e5, z, rfl, z0, z1⟩ := hq
    subst e5
    have ft : mi_f h2 14011 = mi_f h 14011 := me_f (c := 14011) g3 hS rfl rfl
    refine mt_tk12 g1 ok oc ol od oe on ⟨by omega, by omega⟩ ⟨by omega, by omega⟩ o7 ?_
    intro b2
    refine ⟨by omega, fun h3 r1 r2 r3 r4 => ?_⟩
    exact hC ze _ _ _ _ _ _ h3 e0 e1 (me_oi oc) (me_oi ol) (me_oi od) (me_oi oe) (me_oi on) o7 r1 ((hF.trans (g3.wide (fun c hc => ab_swr_ok (by decide) hc))).trans (r4.wide (fun c hc => ab_swr_ok (by decide) hc))) (by omega)
  · intro b c1 c2
    refine ⟨by omega, fun h1 g1 g2 g3 => ?_⟩
    refine tk222 hC k0 e0 e1 e2 oc ol od on 200 (ze - 1) h1 (by omega) (by omega) (by omega) g1 (hF.trans (g3.wide (fun c hc => ab_swr_ok (by decide) hc))) ?_
    rw [me_f (c := 14011) g3 hS rfl rfl]
    exact ht
  · intro b c1
    refine ⟨by omega, fun h1 g1 g2 g3 => ?_⟩
    refine tk135 hC k0 e0 e1 e2 oc ol od on 200 zk h1 (by omega) (by omega) (by omega) g1 (hF.trans (g3.wide (fun c hc => ab_swr_ok (by decide) hc))) ?_
    rw [me_f (c := 14011) g3 hS rfl rfl]
    exact ht
theorem tk61 {zc zl zd : Int} {q6 q7 : Option mi_V} {h : sm_H} (hC : tk_C d h0 zk) (k0 : 0 ≤ zk) (e2 : mi_f h0 13954 ≤ 160) (oc : mi_in zc) (ol : mi_in zl) (od : mi_in zd) (o6 : ∀ v, q6 = some v → mi_ok v) (o7 : ∀ v, q7 = some v → mi_ok v) (hS : ab_Sh sx_sk h) (hF : ab_Fr tk_W h0 h) (e13 : mi_f h 13954 = mi_f h0 13954) (ht : mi_f h 14011 ≤ zk) : ∀ (N : Nat) (ze : Int), mi_f h0 13954 - ze < N → zk < ze → ze ≤ mi_f h0 13954 → me_E (d + 1) 229 61 [some (.inr (.inr 109)), some (.inl zk), some (.inl zc), some (.inl zl), some (.inl zd), some (.inl ze), q6, q7] [] h (tk_Q h0) := by
  intro N
  induction N with
  | zero => intro ze hN _ _; exfalso; omega
  | succ N ih =>
    intro ze hN e0 e1
    have ok : mi_in zk := ⟨by omega, by omega⟩
    have oe : mi_in ze := ⟨by omega, by omega⟩
    have end_ := tk111 (d := d) (q6 := q6) (q7 := q7) hC k0 e0 e1 e2 oc ol od o6 o7 hS hF ht
    have go102 : ∀ zz, ze < mi_f h 13954 → mi_in zz → me_E (d + 1) 229 102 [some (.inr (.inr 109)), some (.inl zk), some (.inl zc), some (.inl zl), some (.inl zd), some (.inl ze), q6, q7] [.inl zz] h (tk_Q h0) := fun zz hlt oz => by
      refine mt_tk7 hS ok oc ol od oe oz o6 o7 ?_ ?_
      · intro c h1 g1 g2
        have e3 := me_nil g2
        subst e3
        exact end_
      · intro c
        refine ⟨by omega, fun h1 g1 g2 => ?_⟩
        have e3 := me_nil g2
        subst e3
        exact ih (ze + 1) (by omega) (by omega) (by omega)
    refine mt_tk5 hS ok oc ol od oe o6 o7 ?_ ?_ ?_ ?_
    · intro b c1 h1 g1 g2
      have e3 := me_nil g2
      subst e3
      exact end_
    · intro b c1 c2 c3 h1 g1 g2
      have e3 := me_nil g2
      subst e3
      exact end_
    · intro b c1 c2 c3
      refine ⟨by omega, fun h1 g1 g2 => ?_⟩
      have e3 := me_nil g2
      subst e3
      refine ⟨_, me_isDigit g1 (mi_inT _), fun w h2 ow hq => ?_⟩
      obtain ⟨rfl, z, rfl, oz⟩ := hq
      exact go102 z c1 oz
    · intro b c1 c2
      refine ⟨by omega, fun h1 g1 g2 => ?_⟩
      have e3 := me_nil g2
      subst e3
      refine ⟨_, me_isLow g1 (mi_inT _), fun w h2 ow hq => ?_⟩
      obtain ⟨rfl, z, rfl, oz⟩ := hq
      refine mt_tk6 g1 ok oc ol od oe oz o6 o7 ?_ ?_ ?_
      · intro c3
        refine ⟨by omega, fun h3 r1 r2 => ?_⟩
        have e3 := me_nil r2
        subst e3
        exact ih (ze + 1) (by omega) (by omega) (by omega)
      · intro c3 c4 h3 r1 r2
        have e3 := me_nil r2
        subst e3
        exact end_
      · intro c3 c4
        refine ⟨by omega, fun h3 r1 r2 => ?_⟩
        have e3 := me_nil r2
        subst e3
        refine ⟨_, me_isDigit r1 (mi_inT _), fun w h2 ow hq => ?_⟩
        obtain ⟨rfl, z, rfl, oz⟩ := hq
        exact go102 z c1 oz
end TKQ
theorem me_tokenize {d : Nat} {h0 : sm_H} (hS0 : ab_Sh sx_sk h0) : me_E (d + 1) 229 0 [some (.inr (.inr 109)), none, none, none, none, none, none, none] [] h0 (tk_Q h0) := by
  have e2 := (me_fb (c := 13954) hS0 rfl).2
  have main : ∀ (N : Nat) (zk : Int) (q2 q3 q4 q5 q6 q7 : Option mi_V) (h : sm_H), mi_f h0 13954 - zk < N → 0 ≤ zk → zk ≤ mi_f h0 13954 → (∀ v, q2 = some v → mi_ok v) → (∀ v, q3 = some v → mi_ok v) → (∀ v, q4 = some v → mi_ok v) → (∀ v, q5 = some v → mi_ok v) → (∀ v, q6 = some v → mi_ok v) → (∀ v, q7 = some v → mi_ok v) → ab_Sh sx_sk h → ab_Fr tk_W h0 h → mi_f h 14011 ≤ zk → me_E (d + 1) 229 7 [some (.inr (.inr 109)), some (.inl zk), q2, q3, q4, q5, q6, q7] [] h (tk_Q h0) := by
    intro N
    induction N with
    | zero => intro zk q2 q3 q4 q5 q6 q7 h hN _ _; exfalso; omega
    | succ N ih =>
      intro zk q2 q3 q4 q5 q6 q7 h hN k0 k1 o2 o3 o4 o5 o6 o7 hS hF ht
      have ok : mi_in zk := ⟨by omega, by omega⟩
      have e13 : mi_f h 13954 = mi_f h0 13954 := me_f (c := 13954) hF hS0 rfl rfl
      refine mt_tk1 hS ok o2 o3 o4 o5 o6 o7 ?_ ?_
      · intro b1 b2 c
        refine ⟨by omega, fun h1 g1 g2 g3 g4 => ⟨rfl, g1, hF.trans (g4.wide (fun c hc => ab_swr_ok (by decide) hc)), ?_⟩⟩
        rw [me_f (c := 14011) g4 hS rfl rfl, g2, if_pos rfl]
      · intro b c
        refine ⟨by omega, fun h1 g1 g2 => ?_⟩
        have e3 := me_nil g2
        subst e3
        refine ⟨_, me_isBlank g1 (mi_inT _), fun w h2 ow hq => ?_⟩
        obtain ⟨rfl, z, rfl, oz⟩ := hq
        have oc := mi_inT (mx_a h2 111 (Int.toNat zk))
        refine mt_tk2 g1 ok oc oz o3 o4 o5 o6 o7 ?_ ?_
        · intro b2 c2
          refine ⟨by omega, fun h3 r1 r2 r3 => ⟨_, me_isLow r1 oc, fun w h4 ow hq => ?_⟩⟩
          obtain ⟨rfl, z2, rfl, oz2⟩ := hq
          refine mt_tk3 r1 ok oc oz2 o3 o4 o5 o6 o7 ?_
          intro h5 s1 s2
          have e3 := me_nil s2
          subst e3
          refine ⟨_, me_isDigit s1 oc, fun w h6 ow hq => ?_⟩
          obtain ⟨rfl, z3, rfl, oz3⟩ := hq
          refine mt_tk4 s1 ok oc oz2 oz3 o4 o5 o6 o7 ?_
          refine ⟨by omega, fun h7 t1 t2 => ?_⟩
          have e3 := me_nil t2
          subst e3
          have hF3 := hF.trans (r3.wide (wr' := tk_W) (fun c hc => ab_swr_ok (by decide) hc))
          refine tk61 (fun ze p2 p3 p4 p5 p6 p7 h8 x1 x2 y2 y3 y4 y5 y6 y7 x3 x4 x5 => ih ze p2 p3 p4 p5 p6 p7 h8 (by omega) (by omega) x2 y2 y3 y4 y5 y6 y7 x3 x4 x5) k0 e2 oc oz2 oz3 o6 o7 t1 hF3 (me_f (c := 13954) hF3 hS0 rfl rfl) ?_ 200 (zk + 1) (by omega) (by omega) (by omega)
          rw [me_f (c := 14011) r3 hS rfl rfl]
          exact ht
        · intro c2
          refine ⟨by omega, fun h3 r1 r2 => ?_⟩
          have e3 := me_nil r2
          subst e3
          exact ih (zk + 1) _ _ _ _ _ _ _ (by omega) (by omega) (by omega) (me_oi oc) o3 o4 o5 o6 o7 hS hF (by omega)
  refine mt_tk0 hS0 ?_
  intro h1 g1 g2 g3
  exact main 200 0 _ _ _ _ _ _ h1 (by omega) (by decide) (me_fb (c := 13954) hS0 rfl).1 me_on me_on me_on me_on me_on me_on g1 (g3.wide (fun c hc => ab_swr_ok (by decide) hc)) (by omega)
/-! what holds between the reference's calls -/
section MJX
variable {g g' : wk_g}
theorem wk_tr_g (hg : wk_gc g g') (K V : Nat → Int) (s : List wk_E × Nat) : ∀ n, wk_tr g' K V n s = wk_tr g K V n s := by
  intro n
  induction n with
  | zero => rfl
  | succ n ih =>
    unfold wk_tr
    rw [ih]
    exact congrArg _ (funext fun x => wk_pf_g hg K V x)
theorem wk_0_g (hg : wk_gc g g') : wk_0 g' = wk_0 g := by
  unfold wk_0
  rw [hg 114 (by decide)]
theorem tp_N_g {K V : Nat → Int} {n : Nat} (hg : wk_gc g g') (h : tp_N g K V n) : tp_N g' K V n := by
  obtain ⟨Tm, st, a, b, c⟩ := h
  refine ⟨Tm, st, a, ?_, c⟩
  rw [wk_tr_g hg, wk_0_g hg]
  exact b
end MJX
def mj_L (h : sm_H) : Prop := ∃ Y, wk_L (mi_a h) Y ∧ wk_Lrule Y (mi_a h 114 0)
def mj_N (h : sm_H) : Prop := tp_N (mi_a h) (wk_K 2 h) (wk_V 2 h) (mi_f h 14015).toNat
def mj_0 (h : sm_H) : Prop := (2 ≤ mi_f h 13959 → mj_L h) ∧ (mi_f h 14015 ≠ 0 → mj_L h ∧ mj_N h)
def mj_W : List (Nat × Nat) := [(13952, 21889)]
section MJY
variable {h h' : sm_H} {wr : List (Nat × Nat)}
theorem mj_L_g (hg : wk_gc (mi_a h) (mi_a h')) (hL : mj_L h) : mj_L h' := by
  obtain ⟨Y, a, b⟩ := hL
  refine ⟨Y, wk_L_g a hg, ?_⟩
  rw [hg 114 (by decide)]
  exact b
def mj_no (wr : List (Nat × Nat)) : Bool := wk_gk.all (fun k => !ab_in wr (k * 128)) && !ab_in wr 13959 && !ab_in wr 14015 && !ab_in wr 19840 && !ab_in wr 20736
theorem mj_0_fr (hJ : mj_0 h) (hS : ab_Sh sx_sk h) (hF : ab_Fr wr h h') (hw : mj_no wr = true) : mj_0 h' := by
  unfold mj_no at hw
  simp only [Bool.and_eq_true, Bool.not_eq_true'] at hw
  obtain ⟨⟨⟨⟨w1, w2⟩, w3⟩, w4⟩, w5⟩ := hw
  have hg : wk_gc (mi_a h) (mi_a h') := wk_gc_fr hF hS w1
  have hK := wk_KV2 hF hS (by rw [w4, w5]; rfl)
  unfold mj_0 mj_N
  rw [me_f (c := 13959) hF hS rfl w2, me_f (c := 14015) hF hS rfl w3, hK.1, hK.2]
  exact ⟨fun a => mj_L_g hg (hJ.1 a), fun a => ⟨mj_L_g hg (hJ.2 a).1, tp_N_g hg (hJ.2 a).2⟩⟩
end MJY
def ta_W : List (Nat × Nat) := [(14015, 14016), (19840, 19841), (19968, 19969), (20096, 20097), (20736, 20737)]
section TAK
variable {d : Nat} {h : sm_H}
theorem me_take (hS0 : ab_Sh sx_sk h) : me_E d 231 0 [some (.inr (.inr 109)), none] [] h (fun w h' => (∃ z, w = some (.inl z) ∧ mi_in z) ∧ ab_Sh sx_sk h' ∧ ab_Fr ta_W h h' ∧ mi_f h' 14015 = mi_f h 14016 ∧ ∀ i : Nat, (i : Int) < mi_f h 14016 → mi_a h' 155 i = mi_a h 158 i ∧ mx_b h' 162 i = mx_b h 163 i) := by
  have b0 := me_fb (c := 14016) hS0 rfl
  have main : ∀ (N : Nat) (zk : Int) (h1 : sm_H), mi_f h 14016 - zk < N → 0 ≤ zk → zk ≤ mi_f h 14016 → ab_Sh sx_sk h1 → ab_Fr ta_W h h1 → mi_f h1 14015 = mi_f h 14016 → (∀ i : Nat, (i : Int) < zk → mi_a h1 155 i = mi_a h 158 i ∧ mx_b h1 162 i = mx_b h 163 i) → me_E d 231 10 [some (.inr (.inr 109)), some (.inl zk)] [] h1 (fun w h' => (∃ z, w = some (.inl z) ∧ mi_in z) ∧ ab_Sh sx_sk h' ∧ ab_Fr ta_W h h' ∧ mi_f h' 14015 = mi_f h 14016 ∧ ∀ i : Nat, (i : Int) < mi_f h 14016 → mi_a h' 155 i = mi_a h 158 i ∧ mx_b h' 162 i = mx_b h 163 i) := by
    intro N
    induction N with
    | zero => intro zk h1 hN _ _; exfalso; omega
    | succ N ih =>
      intro zk h1 hN k0 k1 hS hF hn hi
      have e16 : mi_f h1 14016 = mi_f h 14016 := me_f (c := 14016) hF hS0 rfl rfl
      refine mt_taB hS ⟨by omega, by omega⟩ ?_ ?_
      · intro b c h2 g1 g2
        have e2 := me_nil g2
        subst e2
        have bn := me_fb (c := 14015) hS rfl
        exact ⟨⟨_, rfl, by omega, by omega⟩, hS, hF, hn, fun i hi2 => hi i (by omega)⟩
      · intro b c
        have bo := me_ab (k := 160) (i := zk.toNat) hS rfl (by decide) (by omega)
        refine ⟨by omega, fun h2 g1 g2 g3 g4 g5 g6 => ?_⟩
        refine ih (zk + 1) h2 (by omega) (by omega) (by omega) g1 (hF.trans (g6.wide (fun c hc => ab_swr_ok (by decide) hc))) ((me_f (c := 14015) g6 hS rfl rfl).trans hn) (fun i hi2 => ?_)
        rw [g2, g5]
        by_cases e : i = zk.toNat
        · rw [if_pos e, if_pos e, me_a (k := 158) hF hS0 rfl rfl, me_b (k := 163) hF hS0 rfl rfl, e]
          exact ⟨rfl, rfl⟩
        · rw [if_neg e, if_neg e]
          exact hi i (by omega)
  refine mt_taA hS0 ?_
  intro b
  refine ⟨by omega, fun h1 g1 g2 g3 => ?_⟩
  exact main 200 0 h1 (by omega) (by decide) (by omega) g1 (g3.wide (fun c hc => ab_swr_ok (by decide) hc)) g2 (fun i hi => by exfalso; omega)
end TAK
/-! parse, grow, print -/
section CLS
variable {d : Nat} {h : sm_H}
/-- what is taken: its trace -/
theorem mj_taken {h3 h4 h5 : sm_H} {μ : Int} (hμ : μ ≠ 2) (h1 : mj_L h5) (hS3 : ab_Sh sx_sk h3) (f4 : ab_Fr [(13952, 13953)] h3 h4) (t2 : mi_f h5 14015 = mi_f h4 14016) (t3 : ∀ i : Nat, (i : Int) < mi_f h4 14016 → mi_a h5 155 i = mi_a h4 158 i ∧ mx_b h5 162 i = mx_b h4 163 i) (hN : ∀ K V : Nat → Int, (∀ i : Nat, (i : Int) < wk_n μ h3 → K i = wk_K μ h3 i ∧ V i = wk_V μ h3 i) → tp_N (mi_a h5) K V (wk_n μ h3).toNat) : mj_0 h5 := by
  have e16 : mi_f h4 14016 = mi_f h3 14016 := me_f (c := 14016) f4 hS3 rfl rfl
  have en : wk_n μ h3 = mi_f h3 14016 := by unfold wk_n; rw [if_neg hμ]
  refine ⟨fun _ => h1, fun _ => ⟨h1, ?_⟩⟩
  unfold mj_N
  rw [t2, e16, ← en]
  refine hN _ _ (fun i hi => ?_)
  obtain ⟨a, b⟩ := t3 i (by omega)
  unfold wk_K wk_V
  rw [if_pos rfl, if_pos rfl, if_neg hμ, if_neg hμ, a, b, me_a (k := 158) f4 hS3 rfl rfl, me_b (k := 163) f4 hS3 rfl rfl]
  exact ⟨rfl, rfl⟩
def pr_W : List (Nat × Nat) := (13952, 13953) :: (13955, 13956) :: (14336, 14337) :: wr_WK
end CLS
/-! set -/
section SET
variable {d : Nat} {h : sm_H}
theorem me_isName {zv : Int64} (hS : ab_Sh sx_sk h) : me_E (d + 2) 236 0 [some (.inr (.inr 109)), some (.inr (.inl zv)), none, none, none] [] h (fun w h' => h' = h ∧ ∃ z, w = some (.inl z) ∧ 0 ≤ z ∧ z ≤ 1) := by
  have lp : ∀ (N : Nat) (zw : Int64), zw.toInt < N → me_E (d + 2) 236 18 [some (.inr (.inr 109)), some (.inr (.inl zv)), none, some (.inr (.inl zw)), none] [] h (fun w h' => h' = h ∧ ∃ z, w = some (.inl z) ∧ 0 ≤ z ∧ z ≤ 1) := by
    intro N
    induction N with
    | zero =>
      intro zw hN
      refine mt_inB hS ?_ ?_ ?_ ?_
      · intro c h1 g1 g2
        have e := me_nil g2
        subst e
        refine ⟨_, me_kwOf g1, fun w h2 ow hq => ?_⟩
        obtain ⟨rfl, z, rfl, z0, z1⟩ := hq
        refine mt_inC g1 ⟨by omega, by omega⟩ ?_ ?_
        · intro c h3 r1 r2
          exact ⟨me_nil r2, _, rfl, by decide, by decide⟩
        · intro c h3 r1 r2
          exact ⟨me_nil r2, _, rfl, by decide, by decide⟩
      · intro c1 c2 h1 g1 g2
        exact ⟨me_nil g2, _, rfl, by decide, by decide⟩
      · intro c1 c2 c3 h1 g1 g2
        exfalso
        have := lg_pos c1
        omega
      · intro c1 c2 c3 h1 g1 g2
        exact ⟨me_nil g2, _, rfl, by decide, by decide⟩
    | succ N ih =>
      intro zw hN
      refine mt_inB hS ?_ ?_ ?_ ?_
      · intro c h1 g1 g2
        have e := me_nil g2
        subst e
        refine ⟨_, me_kwOf g1, fun w h2 ow hq => ?_⟩
        obtain ⟨rfl, z, rfl, z0, z1⟩ := hq
        refine mt_inC g1 ⟨by omega, by omega⟩ ?_ ?_
        · intro c h3 r1 r2
          exact ⟨me_nil r2, _, rfl, by decide, by decide⟩
        · intro c h3 r1 r2
          exact ⟨me_nil r2, _, rfl, by decide, by decide⟩
      · intro c1 c2 h1 g1 g2
        exact ⟨me_nil g2, _, rfl, by decide, by decide⟩
      · intro c1 c2 c3 h1 g1 g2
        have e := me_nil g2
        subst e
        have := lg_pos c1
        refine ih _ ?_
        rw [lg_shr5]
        omega
      · intro c1 c2 c3 h1 g1 g2
        exact ⟨me_nil g2, _, rfl, by decide, by decide⟩
  refine mt_inA hS ?_ ?_ ?_
  · intro c h1 g1 g2
    exact ⟨me_nil g2, _, rfl, by decide, by decide⟩
  · intro c1 c2 h1 g1 g2
    have e := me_nil g2
    subst e
    exact lp (zv.toInt.toNat + 1) zv (by omega)
  · intro c1 c2 h1 g1 g2
    exact ⟨me_nil g2, _, rfl, by decide, by decide⟩
theorem mj_val {h' : sm_H} {t : Nat} {v : Int64} (hJ : mj_0 h) (hS : ab_Sh sx_sk h) (hk : mi_a h 155 t = 2 ∨ mi_a h 155 t = 3) (hF : ab_Fr [(13952, 13953), (20736, 20737)] h h') (hv : ∀ i, mx_b h' 162 i = if i = t then v else mx_b h 162 i) : mj_0 h' := by
  have hg : wk_gc (mi_a h) (mi_a h') := wk_gc_fr hF hS rfl
  have hK : wk_K 2 h' = wk_K 2 h := funext fun k => by
    unfold wk_K
    rw [if_pos rfl, if_pos rfl]
    exact me_a (k := 155) hF hS rfl rfl
  unfold mj_0 mj_N
  rw [me_f (c := 13959) hF hS rfl rfl, me_f (c := 14015) hF hS rfl rfl, hK]
  refine ⟨fun a => mj_L_g hg (hJ.1 a), fun a => ⟨mj_L_g hg (hJ.2 a).1, tp_N_g hg ?_⟩⟩
  obtain ⟨Tm, st, x, y, z⟩ := (hJ.2 a).2
  refine ⟨Tm, st, x, ?_, z⟩
  rw [wk_tr_V (V := wk_V 2 h) (V' := wk_V 2 h') (fun k hk2 => ?_)]
  · exact y
  · have hk2 : mi_a h 155 k = 4 ∨ mi_a h 155 k = 5 ∨ mi_a h 155 k = 6 := hk2
    unfold wk_V
    rw [if_pos rfl, if_pos rfl, hv, if_neg (fun e => by subst e; omega)]
end SET
/-! the reference's calls, as the law asks for them; compile is still asked for -/
def mj_ks : List Nat := wk_gk ++ [155, 162]
def MJ (h : sm_H) : Prop := (∃ x, h[109]? = some (.inr x)) ∧ (∀ k, k ∈ mj_ks → ∃ x, h[k]? = some (.inl x)) ∧ mj_0 h
section MJI
variable {h h' : sm_H} {L : Nat} {xs : Nat → Int32}
theorem mj_0_eq (ha : ∀ k, k ∈ mj_ks → h'[k]? = h[k]?) (f1 : ab_fld h' 13959 = ab_fld h 13959) (f2 : ab_fld h' 14015 = ab_fld h 14015) (hJ : mj_0 h) : mj_0 h' := by
  have hg : wk_gc (mi_a h) (mi_a h') := fun k hk i => by
    unfold mi_a mx_a
    rw [ha k (List.mem_append.mpr (Or.inl hk))]
  have hK : wk_K 2 h' = wk_K 2 h := funext fun k => by
    unfold wk_K
    rw [if_pos rfl, if_pos rfl]
    unfold mi_a mx_a
    rw [ha 155 (by decide)]
  have hV : wk_V 2 h' = wk_V 2 h := funext fun k => by
    unfold wk_V
    rw [if_pos rfl, if_pos rfl]
    unfold mx_b
    rw [ha 162 (by decide)]
  have e1 : mi_f h' 13959 = mi_f h 13959 := by unfold mi_f mx_i; rw [f1]
  have e2 : mi_f h' 14015 = mi_f h 14015 := by unfold mi_f mx_i; rw [f2]
  unfold mj_0 mj_N
  rw [e1, e2, hK, hV]
  exact ⟨fun a => mj_L_g hg (hJ.1 a), fun a => ⟨mj_L_g hg (hJ.2 a).1, tp_N_g hg (hJ.2 a).2⟩⟩
theorem mj_ks_lt : ∀ k, k ∈ mj_ks → k < 172 := by decide
theorem mj_ks_wr : ∀ k, k ∈ mj_ks → ab_in mj_wr (k * 128) = false := by decide
theorem mj_MJ : mj_I MJ := by
  refine ⟨fun h h' hJ hF => ?_, fun h e hl hJ => ?_⟩
  · obtain ⟨⟨⟨ci, fs⟩, j1⟩, j2, j3⟩ := hJ
    have hx := hF.2.2 109 _ j1
    unfold ab_FrE at hx
    obtain ⟨fs', e1, e2⟩ := hx
    have ha : ∀ k, k ∈ mj_ks → h'[k]? = h[k]? := fun k hk => by
      obtain ⟨x, ex⟩ := j2 k hk
      rw [ex]
      exact hF.2.2 k _ ex (mj_ks_wr k hk)
    refine ⟨⟨_, e1⟩, fun k hk => ?_, mj_0_eq ha ?_ ?_ j3⟩
    · rw [ha k hk]
      exact j2 k hk
    · have a1 : ab_fld h' 13959 = fs'[7]? := by
        unfold ab_fld
        rw [show h'[13959 / 128]? = some (.inr (ci, fs')) from e1]
      have a2 : ab_fld h 13959 = fs[7]? := by
        unfold ab_fld
        rw [show h[13959 / 128]? = some (.inr (ci, fs)) from j1]
      rw [a1, a2]
      exact e2 7 (by decide)
    · have a1 : ab_fld h' 14015 = fs'[63]? := by
        unfold ab_fld
        rw [show h'[14015 / 128]? = some (.inr (ci, fs')) from e1]
      have a2 : ab_fld h 14015 = fs[63]? := by
        unfold ab_fld
        rw [show h[14015 / 128]? = some (.inr (ci, fs)) from j1]
      rw [a1, a2]
      exact e2 63 (by decide)
  · have hk : ∀ k, k < 172 → (h ++ [e])[k]? = h[k]? := fun k hk => List.getElem?_append_left (by omega)
    obtain ⟨j1, j2, j3⟩ := hJ
    refine ⟨by rw [hk 109 (by decide)]; exact j1, fun k hk2 => by rw [hk k (mj_ks_lt k hk2)]; exact j2 k hk2, mj_0_eq (fun k hk2 => hk k (mj_ks_lt k hk2)) ?_ ?_ j3⟩
    · unfold ab_fld
      rw [hk (13959 / 128) (by decide)]
    · unfold ab_fld
      rw [hk (14015 / 128) (by decide)]
set_option maxRecDepth 20000 in
theorem mj_ks_A : ∀ k, k ∈ mj_ks → (mx_isA sx_sk k || mx_isB sx_sk k) = true := by decide +kernel
set_option maxRecDepth 20000 in
theorem mj_sk109 : ∃ x, sx_sk[109]? = some (some (.inr x)) := by
  have hf : mx_isF sx_sk 13952 = true := by decide +kernel
  unfold mx_isF at hf
  split at hf
  · next ci fl hsk => exact ⟨(ci, fl), hsk⟩
  · cases hf
theorem mj_of (hS : ab_Sh sx_sk h) (hJ : mj_0 h) : MJ h := by
  refine ⟨?_, fun k hk => ?_, hJ⟩
  · obtain ⟨⟨ci, fl⟩, e⟩ := mj_sk109
    obtain ⟨fs, e1, -⟩ := hS _ _ e
    exact ⟨_, e1⟩
  · have hk := mj_ks_A k hk
    have : ∃ t n lo hi ex, sx_sk[k]? = some (some (.inl (t, n, lo, hi, ex))) := by
      unfold mx_isA mx_isB at hk
      split at hk
      · next t n lo hi ex hsk => exact ⟨t, n, lo, hi, ex, hsk⟩
      · cases hk
    obtain ⟨t, n, lo, hi, ex, hsk⟩ := this
    obtain ⟨c, e1, -⟩ := hS _ _ hsk
    exact ⟨_, e1⟩
end MJI
