/-! scan -/
/-- TwoWayGrammarModel.scan()V -/
def xc_v_scan : ab_C := (177, [(3, 109, 0, [])], [(14000, (1, 0, 241, []))], [(ab_unk, [(14000, (1, 1, 242, [])), (14001, (1, 0, 0, [])), (14002, (1, 0, 240, [])), (14004, (2, 0, 0, []))]), (ab_unk, [(14000, (1, 0, 241, [])), (14001, (1, 1, 1, [])), (14002, (1, 0, 241, [])), (14004, (2, (-65536), 1073741823, []))]), (ab_unk, [(14000, (1, 1, 240, [])), (14001, (1, 2, 2, [])), (14002, (1, 0, 241, [])), (14004, (2, 0, 25, []))]), (ab_unk, [(14000, (1, 1, 241, [])), (14001, (1, 3, 5, [])), (14002, (1, 0, 241, [])), (14004, (2, (-65536), 1073741823, []))]), (ab_unk, [(14000, (1, 1, 242, [])), (14001, (1, 6, 6, [])), (14002, (1, 0, 241, [])), (14004, (2, (-65536), 1073741823, []))]), (ab_unk, [(14000, (1, 1, 240, [])), (14001, (1, 40, 126, [])), (14002, (1, 0, 241, [])), (14004, (2, 0, 0, []))])], [(14000, 14003), (14004, 14005)], 2)
theorem xo_v_scan : ab_Ok sc_P sx_sk xc_v_scan := ab_good_ok (env := [xc_letters0, xc_letters1]) (heads := [(0, [(3, 109, 0, []), ab_unk, ab_unk, ab_unk], [(14000, (1, 0, 241, []))], [(0, 0, 0), (3, 14000, 0)])]) (fuel := 159) (by decide +kernel) (List.forall_mem_cons.mpr ⟨xo_letters0, List.forall_mem_cons.mpr ⟨xo_letters1, fun _ h => absurd h List.not_mem_nil⟩⟩)
/-! segments: match, grown -/
set_option maxRecDepth 20000 in
theorem mp_maA_0 (h : sm_H) (d : Nat) (zu : Int) : mi_path [(214, (3, 0, sb_214))] sx_sk h 36 [1, 1, 1, 1, 8] (d + 1, 214, 0, [some (.inr (.inr 109)), some (.inl (zu)), none], [], [], []) = some ((d + 1, 214, 128, [some (.inr (.inr 109)), some (.inl (zu)), some (.inl (mi_a h 119 (Int.toNat zu)))], [], [.inl (14033, (mi_f h 14033) + ((1 : Int)))], []), [0 ≤ zu ∧ zu < 60, (mi_a h 119 (Int.toNat zu)) ≠ ((8 : Int)), 0 ≤ zu ∧ zu < 60, 0 ≤ (mi_f h 14033) ∧ (mi_f h 14033) < 161, (mi_a h 152 (Int.toNat (mi_f h 14033))) = (mi_a h 119 (Int.toNat zu)), 0 ≤ zu ∧ zu < 60, (mi_a h 119 (Int.toNat zu)) ≠ ((1 : Int)), 0 ≤ zu ∧ zu < 60, (mi_a h 119 (Int.toNat zu)) ≠ ((2 : Int)), -2147483648 ≤ (mi_f h 14033) + ((1 : Int)) ∧ (mi_f h 14033) + ((1 : Int)) ≤ 2147483647]) := rfl
theorem mi_tab_maA_0 : ∀ e ∈ ([(214, (3, 0, sb_214))] : mi_T), sc_P e.1 = some e.2 := mi_tb mi_P214 (mi_tb_e)
set_option maxRecDepth 20000 in
theorem ms_maA_0 {h : sm_H} {d : Nat} {Q : Option mi_V → sm_H → Prop} {zu : Int} (hS : ab_Sh sx_sk h) (ok_zu : mi_in zu) (ho : (0 ≤ zu ∧ zu < 60) ∧ ((mi_a h 119 (Int.toNat zu)) ≠ ((8 : Int))) ∧ (0 ≤ zu ∧ zu < 60) ∧ (0 ≤ (mi_f h 14033) ∧ (mi_f h 14033) < 161) ∧ ((mi_a h 152 (Int.toNat (mi_f h 14033))) = (mi_a h 119 (Int.toNat zu))) ∧ (0 ≤ zu ∧ zu < 60) ∧ ((mi_a h 119 (Int.toNat zu)) ≠ ((1 : Int))) ∧ (0 ≤ zu ∧ zu < 60) ∧ ((mi_a h 119 (Int.toNat zu)) ≠ ((2 : Int))) ∧ (-2147483648 ≤ (mi_f h 14033) + ((1 : Int)) ∧ (mi_f h 14033) + ((1 : Int)) ≤ 2147483647)) (kon : ∀ h1, me_W [.inl (14033, (mi_f h 14033) + ((1 : Int)))] h h1 → Q none h1) : me_E (d + 1) 214 0 [some (.inr (.inr 109)), some (.inl (zu)), none] [] h Q := me_seg (mp_maA_0 h d zu) (mi_tab_maA_0) hS (mi_okL_c (trivial) (mi_okL_c (ok_zu) (mi_okL_n (mi_okL_e)))) (mi_okS_e) (mi_al (ho.1) (mi_al (ho.2.1) (mi_al (ho.2.2.1) (mi_al (ho.2.2.2.1) (mi_al (ho.2.2.2.2.1) (mi_al (ho.2.2.2.2.2.1) (mi_al (ho.2.2.2.2.2.2.1) (mi_al (ho.2.2.2.2.2.2.2.1) (mi_al (ho.2.2.2.2.2.2.2.2.1) (mi_al (ho.2.2.2.2.2.2.2.2.2) (mi_al_e))))))))))) (fun h1 W _ hst => me_ret (M := (3, 0, sb_214)) rfl rfl rfl hst (mi_al_e) (kon h1 W))
set_option maxRecDepth 20000 in
theorem mp_maA_1 (h : sm_H) (d : Nat) (zu : Int) : mi_path [(214, (3, 0, sb_214))] sx_sk h 37 [1, 1, 1, 0] (d + 1, 214, 0, [some (.inr (.inr 109)), some (.inl (zu)), none], [], [], []) = some ((d + 1, 214, 114, [some (.inr (.inr 109)), some (.inl (zu)), some (.inl (mi_a h 119 (Int.toNat zu)))], [.inr (.inl (mx_b h 154 (Int.toNat (mi_f h 14033)))), .inl ((3 : Int)), .inr (.inr 109)], [], []), [0 ≤ zu ∧ zu < 60, (mi_a h 119 (Int.toNat zu)) ≠ ((8 : Int)), 0 ≤ zu ∧ zu < 60, 0 ≤ (mi_f h 14033) ∧ (mi_f h 14033) < 161, (mi_a h 152 (Int.toNat (mi_f h 14033))) = (mi_a h 119 (Int.toNat zu)), 0 ≤ zu ∧ zu < 60, (mi_a h 119 (Int.toNat zu)) ≠ ((1 : Int)), 0 ≤ zu ∧ zu < 60, (mi_a h 119 (Int.toNat zu)) = ((2 : Int)), 0 ≤ (mi_f h 14033) ∧ (mi_f h 14033) < 161]) := rfl
theorem mi_tab_maA_1 : ∀ e ∈ ([(214, (3, 0, sb_214))] : mi_T), sc_P e.1 = some e.2 := mi_tb mi_P214 (mi_tb_e)
set_option maxRecDepth 20000 in
theorem ms_maA_1 {h : sm_H} {d : Nat} {Q : Option mi_V → sm_H → Prop} {zu : Int} (hS : ab_Sh sx_sk h) (ok_zu : mi_in zu) (ho : (0 ≤ zu ∧ zu < 60) ∧ ((mi_a h 119 (Int.toNat zu)) ≠ ((8 : Int))) ∧ (0 ≤ zu ∧ zu < 60) ∧ (0 ≤ (mi_f h 14033) ∧ (mi_f h 14033) < 161) ∧ ((mi_a h 152 (Int.toNat (mi_f h 14033))) = (mi_a h 119 (Int.toNat zu))) ∧ (0 ≤ zu ∧ zu < 60) ∧ ((mi_a h 119 (Int.toNat zu)) ≠ ((1 : Int))) ∧ (0 ≤ zu ∧ zu < 60) ∧ ((mi_a h 119 (Int.toNat zu)) = ((2 : Int))) ∧ (0 ≤ (mi_f h 14033) ∧ (mi_f h 14033) < 161)) (kon : ∀ h1, me_W [] h h1 → ∃ Q1, me_E (d + 0) 208 0 (mi_entry 4 [.inr (.inr 109), .inl ((3 : Int)), .inr (.inl (mx_b h 154 (Int.toNat (mi_f h 14033))))]) [] h1 Q1 ∧ ∀ w h2, (∀ x, w = some x → mi_ok x) → Q1 w h2 → me_E (d + 1) 214 117 [some (.inr (.inr 109)), some (.inl (zu)), some (.inl (mi_a h 119 (Int.toNat zu)))] (mi_back w []) h2 Q) : me_E (d + 1) 214 0 [some (.inr (.inr 109)), some (.inl (zu)), none] [] h Q := me_seg (mp_maA_1 h d zu) (mi_tab_maA_1) hS (mi_okL_c (trivial) (mi_okL_c (ok_zu) (mi_okL_n (mi_okL_e)))) (mi_okS_e) (mi_al (ho.1) (mi_al (ho.2.1) (mi_al (ho.2.2.1) (mi_al (ho.2.2.2.1) (mi_al (ho.2.2.2.2.1) (mi_al (ho.2.2.2.2.2.1) (mi_al (ho.2.2.2.2.2.2.1) (mi_al (ho.2.2.2.2.2.2.2.1) (mi_al (ho.2.2.2.2.2.2.2.2.1) (mi_al (ho.2.2.2.2.2.2.2.2.2) (mi_al_e))))))))))) (fun h1 W _ hst => let ⟨_, k1, k2⟩ := kon h1 W; me_call (M := (3, 0, sb_214)) (M' := (4, 1, sb_208)) rfl rfl rfl rfl (Nat.le_of_ble_eq_true rfl) (Nat.le_of_ble_eq_true rfl) W.1 k1 k2)
set_option maxRecDepth 20000 in
theorem mp_maA_2 (h : sm_H) (d : Nat) (zu : Int) : mi_path [(214, (3, 0, sb_214))] sx_sk h 39 [1, 1, 0] (d + 1, 214, 0, [some (.inr (.inr 109)), some (.inl (zu)), none], [], [], []) = some ((d + 1, 214, 89, [some (.inr (.inr 109)), some (.inl (zu)), some (.inl (mi_a h 119 (Int.toNat zu)))], [.inr (.inl (((mx_b h 154 (Int.toNat (mi_f h 14033))) + ((Int32.ofInt (mi_a h 120 (Int.toNat zu))).toInt64)) - ((mx_b h 154 (Int.toNat (mi_f h 14033))) + ((Int32.ofInt (mi_a h 120 (Int.toNat zu))).toInt64)) / (Int64.ofNat 10000) * (Int64.ofNat 10000))), .inl ((2 : Int)), .inr (.inr 109)], [], []), [0 ≤ zu ∧ zu < 60, (mi_a h 119 (Int.toNat zu)) ≠ ((8 : Int)), 0 ≤ zu ∧ zu < 60, 0 ≤ (mi_f h 14033) ∧ (mi_f h 14033) < 161, (mi_a h 152 (Int.toNat (mi_f h 14033))) = (mi_a h 119 (Int.toNat zu)), 0 ≤ zu ∧ zu < 60, (mi_a h 119 (Int.toNat zu)) = ((1 : Int)), 0 ≤ (mi_f h 14033) ∧ (mi_f h 14033) < 161, 0 ≤ zu ∧ zu < 60, (Int64.ofNat 10000) ≠ 0]) := rfl
theorem mi_tab_maA_2 : ∀ e ∈ ([(214, (3, 0, sb_214))] : mi_T), sc_P e.1 = some e.2 := mi_tb mi_P214 (mi_tb_e)
set_option maxRecDepth 20000 in
theorem ms_maA_2 {h : sm_H} {d : Nat} {Q : Option mi_V → sm_H → Prop} {zu : Int} (hS : ab_Sh sx_sk h) (ok_zu : mi_in zu) (ho : (0 ≤ zu ∧ zu < 60) ∧ ((mi_a h 119 (Int.toNat zu)) ≠ ((8 : Int))) ∧ (0 ≤ zu ∧ zu < 60) ∧ (0 ≤ (mi_f h 14033) ∧ (mi_f h 14033) < 161) ∧ ((mi_a h 152 (Int.toNat (mi_f h 14033))) = (mi_a h 119 (Int.toNat zu))) ∧ (0 ≤ zu ∧ zu < 60) ∧ ((mi_a h 119 (Int.toNat zu)) = ((1 : Int))) ∧ (0 ≤ (mi_f h 14033) ∧ (mi_f h 14033) < 161) ∧ (0 ≤ zu ∧ zu < 60) ∧ ((Int64.ofNat 10000) ≠ 0)) (kon : ∀ h1, me_W [] h h1 → ∃ Q1, me_E (d + 0) 208 0 (mi_entry 4 [.inr (.inr 109), .inl ((2 : Int)), .inr (.inl (((mx_b h 154 (Int.toNat (mi_f h 14033))) + ((Int32.ofInt (mi_a h 120 (Int.toNat zu))).toInt64)) - ((mx_b h 154 (Int.toNat (mi_f h 14033))) + ((Int32.ofInt (mi_a h 120 (Int.toNat zu))).toInt64)) / (Int64.ofNat 10000) * (Int64.ofNat 10000)))]) [] h1 Q1 ∧ ∀ w h2, (∀ x, w = some x → mi_ok x) → Q1 w h2 → me_E (d + 1) 214 92 [some (.inr (.inr 109)), some (.inl (zu)), some (.inl (mi_a h 119 (Int.toNat zu)))] (mi_back w []) h2 Q) : me_E (d + 1) 214 0 [some (.inr (.inr 109)), some (.inl (zu)), none] [] h Q := me_seg (mp_maA_2 h d zu) (mi_tab_maA_2) hS (mi_okL_c (trivial) (mi_okL_c (ok_zu) (mi_okL_n (mi_okL_e)))) (mi_okS_e) (mi_al (ho.1) (mi_al (ho.2.1) (mi_al (ho.2.2.1) (mi_al (ho.2.2.2.1) (mi_al (ho.2.2.2.2.1) (mi_al (ho.2.2.2.2.2.1) (mi_al (ho.2.2.2.2.2.2.1) (mi_al (ho.2.2.2.2.2.2.2.1) (mi_al (ho.2.2.2.2.2.2.2.2.1) (mi_al (ho.2.2.2.2.2.2.2.2.2) (mi_al_e))))))))))) (fun h1 W _ hst => let ⟨_, k1, k2⟩ := kon h1 W; me_call (M := (3, 0, sb_214)) (M' := (4, 1, sb_208)) rfl rfl rfl rfl (Nat.le_of_ble_eq_true rfl) (Nat.le_of_ble_eq_true rfl) W.1 k1 k2)
set_option maxRecDepth 20000 in
theorem mp_maA_3 (h : sm_H) (d : Nat) (zu : Int) : mi_path [(214, (3, 0, sb_214))] sx_sk h 25 [1, 0] (d + 1, 214, 0, [some (.inr (.inr 109)), some (.inl (zu)), none], [], [], []) = some ((d + 1, 214, 55, [some (.inr (.inr 109)), some (.inl (zu)), some (.inl (mi_a h 119 (Int.toNat zu)))], [], [.inl (14034, mi_a h 153 (Int.toNat (mi_f h 14033)))], []), [0 ≤ zu ∧ zu < 60, (mi_a h 119 (Int.toNat zu)) ≠ ((8 : Int)), 0 ≤ zu ∧ zu < 60, 0 ≤ (mi_f h 14033) ∧ (mi_f h 14033) < 161, (mi_a h 152 (Int.toNat (mi_f h 14033))) ≠ (mi_a h 119 (Int.toNat zu)), 0 ≤ (mi_f h 14033) ∧ (mi_f h 14033) < 161]) := rfl
theorem mi_tab_maA_3 : ∀ e ∈ ([(214, (3, 0, sb_214))] : mi_T), sc_P e.1 = some e.2 := mi_tb mi_P214 (mi_tb_e)
set_option maxRecDepth 20000 in
theorem ms_maA_3 {h : sm_H} {d : Nat} {Q : Option mi_V → sm_H → Prop} {zu : Int} (hS : ab_Sh sx_sk h) (ok_zu : mi_in zu) (ho : (0 ≤ zu ∧ zu < 60) ∧ ((mi_a h 119 (Int.toNat zu)) ≠ ((8 : Int))) ∧ (0 ≤ zu ∧ zu < 60) ∧ (0 ≤ (mi_f h 14033) ∧ (mi_f h 14033) < 161) ∧ ((mi_a h 152 (Int.toNat (mi_f h 14033))) ≠ (mi_a h 119 (Int.toNat zu))) ∧ (0 ≤ (mi_f h 14033) ∧ (mi_f h 14033) < 161)) (kon : ∀ h1, me_W [.inl (14034, mi_a h 153 (Int.toNat (mi_f h 14033)))] h h1 → Q none h1) : me_E (d + 1) 214 0 [some (.inr (.inr 109)), some (.inl (zu)), none] [] h Q := me_seg (mp_maA_3 h d zu) (mi_tab_maA_3) hS (mi_okL_c (trivial) (mi_okL_c (ok_zu) (mi_okL_n (mi_okL_e)))) (mi_okS_e) (mi_al (ho.1) (mi_al (ho.2.1) (mi_al (ho.2.2.1) (mi_al (ho.2.2.2.1) (mi_al (ho.2.2.2.2.1) (mi_al (ho.2.2.2.2.2) (mi_al_e))))))) (fun h1 W _ hst => me_ret (M := (3, 0, sb_214)) rfl rfl rfl hst (mi_al_e) (kon h1 W))
set_option maxRecDepth 20000 in
theorem mp_maA_4 (h : sm_H) (d : Nat) (zu : Int) : mi_path [(214, (3, 0, sb_214))] sx_sk h 39 [0, 8, 1, 1, 1, 8] (d + 1, 214, 0, [some (.inr (.inr 109)), some (.inl (zu)), none], [], [], []) = some ((d + 1, 214, 128, [some (.inr (.inr 109)), some (.inl (zu)), some (.inl (((3 : Int)) + (mi_a h 120 (Int.toNat zu))))], [], [.inl (14033, (mi_f h 14033) + ((1 : Int)))], []), [0 ≤ zu ∧ zu < 60, (mi_a h 119 (Int.toNat zu)) = ((8 : Int)), 0 ≤ zu ∧ zu < 60, -2147483648 ≤ ((3 : Int)) + (mi_a h 120 (Int.toNat zu)) ∧ ((3 : Int)) + (mi_a h 120 (Int.toNat zu)) ≤ 2147483647, 0 ≤ (mi_f h 14033) ∧ (mi_f h 14033) < 161, (mi_a h 152 (Int.toNat (mi_f h 14033))) = (((3 : Int)) + (mi_a h 120 (Int.toNat zu))), 0 ≤ zu ∧ zu < 60, (mi_a h 119 (Int.toNat zu)) ≠ ((1 : Int)), 0 ≤ zu ∧ zu < 60, (mi_a h 119 (Int.toNat zu)) ≠ ((2 : Int)), -2147483648 ≤ (mi_f h 14033) + ((1 : Int)) ∧ (mi_f h 14033) + ((1 : Int)) ≤ 2147483647]) := rfl
theorem mi_tab_maA_4 : ∀ e ∈ ([(214, (3, 0, sb_214))] : mi_T), sc_P e.1 = some e.2 := mi_tb mi_P214 (mi_tb_e)
set_option maxRecDepth 20000 in
theorem ms_maA_4 {h : sm_H} {d : Nat} {Q : Option mi_V → sm_H → Prop} {zu : Int} (hS : ab_Sh sx_sk h) (ok_zu : mi_in zu) (ho : (0 ≤ zu ∧ zu < 60) ∧ ((mi_a h 119 (Int.toNat zu)) = ((8 : Int))) ∧ (0 ≤ zu ∧ zu < 60) ∧ (-2147483648 ≤ ((3 : Int)) + (mi_a h 120 (Int.toNat zu)) ∧ ((3 : Int)) + (mi_a h 120 (Int.toNat zu)) ≤ 2147483647) ∧ (0 ≤ (mi_f h 14033) ∧ (mi_f h 14033) < 161) ∧ ((mi_a h 152 (Int.toNat (mi_f h 14033))) = (((3 : Int)) + (mi_a h 120 (Int.toNat zu)))) ∧ (0 ≤ zu ∧ zu < 60) ∧ ((mi_a h 119 (Int.toNat zu)) ≠ ((1 : Int))) ∧ (0 ≤ zu ∧ zu < 60) ∧ ((mi_a h 119 (Int.toNat zu)) ≠ ((2 : Int))) ∧ (-2147483648 ≤ (mi_f h 14033) + ((1 : Int)) ∧ (mi_f h 14033) + ((1 : Int)) ≤ 2147483647)) (kon : ∀ h1, me_W [.inl (14033, (mi_f h 14033) + ((1 : Int)))] h h1 → Q none h1) : me_E (d + 1) 214 0 [some (.inr (.inr 109)), some (.inl (zu)), none] [] h Q := me_seg (mp_maA_4 h d zu) (mi_tab_maA_4) hS (mi_okL_c (trivial) (mi_okL_c (ok_zu) (mi_okL_n (mi_okL_e)))) (mi_okS_e) (mi_al (ho.1) (mi_al (ho.2.1) (mi_al (ho.2.2.1) (mi_al (ho.2.2.2.1) (mi_al (ho.2.2.2.2.1) (mi_al (ho.2.2.2.2.2.1) (mi_al (ho.2.2.2.2.2.2.1) (mi_al (ho.2.2.2.2.2.2.2.1) (mi_al (ho.2.2.2.2.2.2.2.2.1) (mi_al (ho.2.2.2.2.2.2.2.2.2.1) (mi_al (ho.2.2.2.2.2.2.2.2.2.2) (mi_al_e)))))))))))) (fun h1 W _ hst => me_ret (M := (3, 0, sb_214)) rfl rfl rfl hst (mi_al_e) (kon h1 W))
set_option maxRecDepth 20000 in
theorem mp_maA_5 (h : sm_H) (d : Nat) (zu : Int) : mi_path [(214, (3, 0, sb_214))] sx_sk h 40 [0, 8, 1, 1, 0] (d + 1, 214, 0, [some (.inr (.inr 109)), some (.inl (zu)), none], [], [], []) = some ((d + 1, 214, 114, [some (.inr (.inr 109)), some (.inl (zu)), some (.inl (((3 : Int)) + (mi_a h 120 (Int.toNat zu))))], [.inr (.inl (mx_b h 154 (Int.toNat (mi_f h 14033)))), .inl ((3 : Int)), .inr (.inr 109)], [], []), [0 ≤ zu ∧ zu < 60, (mi_a h 119 (Int.toNat zu)) = ((8 : Int)), 0 ≤ zu ∧ zu < 60, -2147483648 ≤ ((3 : Int)) + (mi_a h 120 (Int.toNat zu)) ∧ ((3 : Int)) + (mi_a h 120 (Int.toNat zu)) ≤ 2147483647, 0 ≤ (mi_f h 14033) ∧ (mi_f h 14033) < 161, (mi_a h 152 (Int.toNat (mi_f h 14033))) = (((3 : Int)) + (mi_a h 120 (Int.toNat zu))), 0 ≤ zu ∧ zu < 60, (mi_a h 119 (Int.toNat zu)) ≠ ((1 : Int)), 0 ≤ zu ∧ zu < 60, (mi_a h 119 (Int.toNat zu)) = ((2 : Int)), 0 ≤ (mi_f h 14033) ∧ (mi_f h 14033) < 161]) := rfl
theorem mi_tab_maA_5 : ∀ e ∈ ([(214, (3, 0, sb_214))] : mi_T), sc_P e.1 = some e.2 := mi_tb mi_P214 (mi_tb_e)
set_option maxRecDepth 20000 in
theorem ms_maA_5 {h : sm_H} {d : Nat} {Q : Option mi_V → sm_H → Prop} {zu : Int} (hS : ab_Sh sx_sk h) (ok_zu : mi_in zu) (ho : (0 ≤ zu ∧ zu < 60) ∧ ((mi_a h 119 (Int.toNat zu)) = ((8 : Int))) ∧ (0 ≤ zu ∧ zu < 60) ∧ (-2147483648 ≤ ((3 : Int)) + (mi_a h 120 (Int.toNat zu)) ∧ ((3 : Int)) + (mi_a h 120 (Int.toNat zu)) ≤ 2147483647) ∧ (0 ≤ (mi_f h 14033) ∧ (mi_f h 14033) < 161) ∧ ((mi_a h 152 (Int.toNat (mi_f h 14033))) = (((3 : Int)) + (mi_a h 120 (Int.toNat zu)))) ∧ (0 ≤ zu ∧ zu < 60) ∧ ((mi_a h 119 (Int.toNat zu)) ≠ ((1 : Int))) ∧ (0 ≤ zu ∧ zu < 60) ∧ ((mi_a h 119 (Int.toNat zu)) = ((2 : Int))) ∧ (0 ≤ (mi_f h 14033) ∧ (mi_f h 14033) < 161)) (kon : ∀ h1, me_W [] h h1 → ∃ Q1, me_E (d + 0) 208 0 (mi_entry 4 [.inr (.inr 109), .inl ((3 : Int)), .inr (.inl (mx_b h 154 (Int.toNat (mi_f h 14033))))]) [] h1 Q1 ∧ ∀ w h2, (∀ x, w = some x → mi_ok x) → Q1 w h2 → me_E (d + 1) 214 117 [some (.inr (.inr 109)), some (.inl (zu)), some (.inl (((3 : Int)) + (mi_a h 120 (Int.toNat zu))))] (mi_back w []) h2 Q) : me_E (d + 1) 214 0 [some (.inr (.inr 109)), some (.inl (zu)), none] [] h Q := me_seg (mp_maA_5 h d zu) (mi_tab_maA_5) hS (mi_okL_c (trivial) (mi_okL_c (ok_zu) (mi_okL_n (mi_okL_e)))) (mi_okS_e) (mi_al (ho.1) (mi_al (ho.2.1) (mi_al (ho.2.2.1) (mi_al (ho.2.2.2.1) (mi_al (ho.2.2.2.2.1) (mi_al (ho.2.2.2.2.2.1) (mi_al (ho.2.2.2.2.2.2.1) (mi_al (ho.2.2.2.2.2.2.2.1) (mi_al (ho.2.2.2.2.2.2.2.2.1) (mi_al (ho.2.2.2.2.2.2.2.2.2.1) (mi_al (ho.2.2.2.2.2.2.2.2.2.2) (mi_al_e)))))))))))) (fun h1 W _ hst => let ⟨_, k1, k2⟩ := kon h1 W; me_call (M := (3, 0, sb_214)) (M' := (4, 1, sb_208)) rfl rfl rfl rfl (Nat.le_of_ble_eq_true rfl) (Nat.le_of_ble_eq_true rfl) W.1 k1 k2)
set_option maxRecDepth 20000 in
theorem mp_maA_6 (h : sm_H) (d : Nat) (zu : Int) : mi_path [(214, (3, 0, sb_214))] sx_sk h 42 [0, 8, 1, 0] (d + 1, 214, 0, [some (.inr (.inr 109)), some (.inl (zu)), none], [], [], []) = some ((d + 1, 214, 89, [some (.inr (.inr 109)), some (.inl (zu)), some (.inl (((3 : Int)) + (mi_a h 120 (Int.toNat zu))))], [.inr (.inl (((mx_b h 154 (Int.toNat (mi_f h 14033))) + ((Int32.ofInt (mi_a h 120 (Int.toNat zu))).toInt64)) - ((mx_b h 154 (Int.toNat (mi_f h 14033))) + ((Int32.ofInt (mi_a h 120 (Int.toNat zu))).toInt64)) / (Int64.ofNat 10000) * (Int64.ofNat 10000))), .inl ((2 : Int)), .inr (.inr 109)], [], []), [0 ≤ zu ∧ zu < 60, (mi_a h 119 (Int.toNat zu)) = ((8 : Int)), 0 ≤ zu ∧ zu < 60, -2147483648 ≤ ((3 : Int)) + (mi_a h 120 (Int.toNat zu)) ∧ ((3 : Int)) + (mi_a h 120 (Int.toNat zu)) ≤ 2147483647, 0 ≤ (mi_f h 14033) ∧ (mi_f h 14033) < 161, (mi_a h 152 (Int.toNat (mi_f h 14033))) = (((3 : Int)) + (mi_a h 120 (Int.toNat zu))), 0 ≤ zu ∧ zu < 60, (mi_a h 119 (Int.toNat zu)) = ((1 : Int)), 0 ≤ (mi_f h 14033) ∧ (mi_f h 14033) < 161, 0 ≤ zu ∧ zu < 60, (Int64.ofNat 10000) ≠ 0]) := rfl
theorem mi_tab_maA_6 : ∀ e ∈ ([(214, (3, 0, sb_214))] : mi_T), sc_P e.1 = some e.2 := mi_tb mi_P214 (mi_tb_e)
set_option maxRecDepth 20000 in
theorem ms_maA_6 {h : sm_H} {d : Nat} {Q : Option mi_V → sm_H → Prop} {zu : Int} (hS : ab_Sh sx_sk h) (ok_zu : mi_in zu) (ho : (0 ≤ zu ∧ zu < 60) ∧ ((mi_a h 119 (Int.toNat zu)) = ((8 : Int))) ∧ (0 ≤ zu ∧ zu < 60) ∧ (-2147483648 ≤ ((3 : Int)) + (mi_a h 120 (Int.toNat zu)) ∧ ((3 : Int)) + (mi_a h 120 (Int.toNat zu)) ≤ 2147483647) ∧ (0 ≤ (mi_f h 14033) ∧ (mi_f h 14033) < 161) ∧ ((mi_a h 152 (Int.toNat (mi_f h 14033))) = (((3 : Int)) + (mi_a h 120 (Int.toNat zu)))) ∧ (0 ≤ zu ∧ zu < 60) ∧ ((mi_a h 119 (Int.toNat zu)) = ((1 : Int))) ∧ (0 ≤ (mi_f h 14033) ∧ (mi_f h 14033) < 161) ∧ (0 ≤ zu ∧ zu < 60) ∧ ((Int64.ofNat 10000) ≠ 0)) (kon : ∀ h1, me_W [] h h1 → ∃ Q1, me_E (d + 0) 208 0 (mi_entry 4 [.inr (.inr 109), .inl ((2 : Int)), .inr (.inl (((mx_b h 154 (Int.toNat (mi_f h 14033))) + ((Int32.ofInt (mi_a h 120 (Int.toNat zu))).toInt64)) - ((mx_b h 154 (Int.toNat (mi_f h 14033))) + ((Int32.ofInt (mi_a h 120 (Int.toNat zu))).toInt64)) / (Int64.ofNat 10000) * (Int64.ofNat 10000)))]) [] h1 Q1 ∧ ∀ w h2, (∀ x, w = some x → mi_ok x) → Q1 w h2 → me_E (d + 1) 214 92 [some (.inr (.inr 109)), some (.inl (zu)), some (.inl (((3 : Int)) + (mi_a h 120 (Int.toNat zu))))] (mi_back w []) h2 Q) : me_E (d + 1) 214 0 [some (.inr (.inr 109)), some (.inl (zu)), none] [] h Q := me_seg (mp_maA_6 h d zu) (mi_tab_maA_6) hS (mi_okL_c (trivial) (mi_okL_c (ok_zu) (mi_okL_n (mi_okL_e)))) (mi_okS_e) (mi_al (ho.1) (mi_al (ho.2.1) (mi_al (ho.2.2.1) (mi_al (ho.2.2.2.1) (mi_al (ho.2.2.2.2.1) (mi_al (ho.2.2.2.2.2.1) (mi_al (ho.2.2.2.2.2.2.1) (mi_al (ho.2.2.2.2.2.2.2.1) (mi_al (ho.2.2.2.2.2.2.2.2.1) (mi_al (ho.2.2.2.2.2.2.2.2.2.1) (mi_al (ho.2.2.2.2.2.2.2.2.2.2) (mi_al_e)))))))))))) (fun h1 W _ hst => let ⟨_, k1, k2⟩ := kon h1 W; me_call (M := (3, 0, sb_214)) (M' := (4, 1, sb_208)) rfl rfl rfl rfl (Nat.le_of_ble_eq_true rfl) (Nat.le_of_ble_eq_true rfl) W.1 k1 k2)
set_option maxRecDepth 20000 in
theorem mp_maA_7 (h : sm_H) (d : Nat) (zu : Int) : mi_path [(214, (3, 0, sb_214))] sx_sk h 28 [0, 8, 0] (d + 1, 214, 0, [some (.inr (.inr 109)), some (.inl (zu)), none], [], [], []) = some ((d + 1, 214, 55, [some (.inr (.inr 109)), some (.inl (zu)), some (.inl (((3 : Int)) + (mi_a h 120 (Int.toNat zu))))], [], [.inl (14034, mi_a h 153 (Int.toNat (mi_f h 14033)))], []), [0 ≤ zu ∧ zu < 60, (mi_a h 119 (Int.toNat zu)) = ((8 : Int)), 0 ≤ zu ∧ zu < 60, -2147483648 ≤ ((3 : Int)) + (mi_a h 120 (Int.toNat zu)) ∧ ((3 : Int)) + (mi_a h 120 (Int.toNat zu)) ≤ 2147483647, 0 ≤ (mi_f h 14033) ∧ (mi_f h 14033) < 161, (mi_a h 152 (Int.toNat (mi_f h 14033))) ≠ (((3 : Int)) + (mi_a h 120 (Int.toNat zu))), 0 ≤ (mi_f h 14033) ∧ (mi_f h 14033) < 161]) := rfl
theorem mi_tab_maA_7 : ∀ e ∈ ([(214, (3, 0, sb_214))] : mi_T), sc_P e.1 = some e.2 := mi_tb mi_P214 (mi_tb_e)
set_option maxRecDepth 20000 in
theorem ms_maA_7 {h : sm_H} {d : Nat} {Q : Option mi_V → sm_H → Prop} {zu : Int} (hS : ab_Sh sx_sk h) (ok_zu : mi_in zu) (ho : (0 ≤ zu ∧ zu < 60) ∧ ((mi_a h 119 (Int.toNat zu)) = ((8 : Int))) ∧ (0 ≤ zu ∧ zu < 60) ∧ (-2147483648 ≤ ((3 : Int)) + (mi_a h 120 (Int.toNat zu)) ∧ ((3 : Int)) + (mi_a h 120 (Int.toNat zu)) ≤ 2147483647) ∧ (0 ≤ (mi_f h 14033) ∧ (mi_f h 14033) < 161) ∧ ((mi_a h 152 (Int.toNat (mi_f h 14033))) ≠ (((3 : Int)) + (mi_a h 120 (Int.toNat zu)))) ∧ (0 ≤ (mi_f h 14033) ∧ (mi_f h 14033) < 161)) (kon : ∀ h1, me_W [.inl (14034, mi_a h 153 (Int.toNat (mi_f h 14033)))] h h1 → Q none h1) : me_E (d + 1) 214 0 [some (.inr (.inr 109)), some (.inl (zu)), none] [] h Q := me_seg (mp_maA_7 h d zu) (mi_tab_maA_7) hS (mi_okL_c (trivial) (mi_okL_c (ok_zu) (mi_okL_n (mi_okL_e)))) (mi_okS_e) (mi_al (ho.1) (mi_al (ho.2.1) (mi_al (ho.2.2.1) (mi_al (ho.2.2.2.1) (mi_al (ho.2.2.2.2.1) (mi_al (ho.2.2.2.2.2.1) (mi_al (ho.2.2.2.2.2.2) (mi_al_e)))))))) (fun h1 W _ hst => me_ret (M := (3, 0, sb_214)) rfl rfl rfl hst (mi_al_e) (kon h1 W))
set_option maxRecDepth 20000 in
theorem mt_maA {h : sm_H} {d : Nat} {Q : Option mi_V → sm_H → Prop} {zu : Int} (hS : ab_Sh sx_sk h) (ok_zu : mi_in zu) (k0 : ((-2147483648) ≤ mi_f h 14033 ∧ mi_f h 14033 ≤ 2147483647) → ((mi_a h 119 (Int.toNat zu)) ≠ ((8 : Int))) → ((mi_a h 152 (Int.toNat (mi_f h 14033))) = (mi_a h 119 (Int.toNat zu))) → ((mi_a h 119 (Int.toNat zu)) ≠ ((1 : Int))) → ((mi_a h 119 (Int.toNat zu)) ≠ ((2 : Int))) → ((0 ≤ zu ∧ zu < 60) ∧ (0 ≤ (mi_f h 14033) ∧ (mi_f h 14033) < 161) ∧ (-2147483648 ≤ (mi_f h 14033) + ((1 : Int)) ∧ (mi_f h 14033) + ((1 : Int)) ≤ 2147483647)) ∧ (∀ h1, ab_Sh sx_sk h1 → mi_f h1 14033 = (mi_f h 14033) + ((1 : Int)) → ab_Fr [(14033, 14034)] h h1 → Q none h1)) (k1 : ((-2147483648) ≤ mi_f h 14033 ∧ mi_f h 14033 ≤ 2147483647) → ((mi_a h 119 (Int.toNat zu)) ≠ ((8 : Int))) → ((mi_a h 152 (Int.toNat (mi_f h 14033))) = (mi_a h 119 (Int.toNat zu))) → ((mi_a h 119 (Int.toNat zu)) ≠ ((1 : Int))) → ((mi_a h 119 (Int.toNat zu)) = ((2 : Int))) → ((0 ≤ zu ∧ zu < 60) ∧ (0 ≤ (mi_f h 14033) ∧ (mi_f h 14033) < 161)) ∧ (∀ h1, ab_Sh sx_sk h1 → ab_Fr [] h h1 → ∃ Q1, me_E (d + 0) 208 0 (mi_entry 4 [.inr (.inr 109), .inl ((3 : Int)), .inr (.inl (mx_b h 154 (Int.toNat (mi_f h 14033))))]) [] h1 Q1 ∧ ∀ w h2, (∀ x, w = some x → mi_ok x) → Q1 w h2 → me_E (d + 1) 214 117 [some (.inr (.inr 109)), some (.inl (zu)), some (.inl (mi_a h 119 (Int.toNat zu)))] (mi_back w []) h2 Q)) (k2 : ((-2147483648) ≤ mi_f h 14033 ∧ mi_f h 14033 ≤ 2147483647) → ((mi_a h 119 (Int.toNat zu)) ≠ ((8 : Int))) → ((mi_a h 152 (Int.toNat (mi_f h 14033))) = (mi_a h 119 (Int.toNat zu))) → ((mi_a h 119 (Int.toNat zu)) = ((1 : Int))) → ((0 ≤ zu ∧ zu < 60) ∧ (0 ≤ (mi_f h 14033) ∧ (mi_f h 14033) < 161)) ∧ (∀ h1, ab_Sh sx_sk h1 → ab_Fr [] h h1 → ∃ Q1, me_E (d + 0) 208 0 (mi_entry 4 [.inr (.inr 109), .inl ((2 : Int)), .inr (.inl (((mx_b h 154 (Int.toNat (mi_f h 14033))) + ((Int32.ofInt (mi_a h 120 (Int.toNat zu))).toInt64)) - ((mx_b h 154 (Int.toNat (mi_f h 14033))) + ((Int32.ofInt (mi_a h 120 (Int.toNat zu))).toInt64)) / (Int64.ofNat 10000) * (Int64.ofNat 10000)))]) [] h1 Q1 ∧ ∀ w h2, (∀ x, w = some x → mi_ok x) → Q1 w h2 → me_E (d + 1) 214 92 [some (.inr (.inr 109)), some (.inl (zu)), some (.inl (mi_a h 119 (Int.toNat zu)))] (mi_back w []) h2 Q)) (k3 : ((-2147483648) ≤ mi_f h 14033 ∧ mi_f h 14033 ≤ 2147483647) → ((mi_a h 119 (Int.toNat zu)) ≠ ((8 : Int))) → ((mi_a h 152 (Int.toNat (mi_f h 14033))) ≠ (mi_a h 119 (Int.toNat zu))) → ((0 ≤ zu ∧ zu < 60) ∧ (0 ≤ (mi_f h 14033) ∧ (mi_f h 14033) < 161)) ∧ (∀ h1, ab_Sh sx_sk h1 → mi_f h1 14034 = mi_a h 153 (Int.toNat (mi_f h 14033)) → ab_Fr [(14034, 14035)] h h1 → Q none h1)) (k4 : ((-2147483648) ≤ mi_f h 14033 ∧ mi_f h 14033 ≤ 2147483647) → ((mi_a h 119 (Int.toNat zu)) = ((8 : Int))) → ((mi_a h 152 (Int.toNat (mi_f h 14033))) = (((3 : Int)) + (mi_a h 120 (Int.toNat zu)))) → ((mi_a h 119 (Int.toNat zu)) ≠ ((1 : Int))) → ((mi_a h 119 (Int.toNat zu)) ≠ ((2 : Int))) → ((0 ≤ zu ∧ zu < 60) ∧ (-2147483648 ≤ ((3 : Int)) + (mi_a h 120 (Int.toNat zu)) ∧ ((3 : Int)) + (mi_a h 120 (Int.toNat zu)) ≤ 2147483647) ∧ (0 ≤ (mi_f h 14033) ∧ (mi_f h 14033) < 161) ∧ (-2147483648 ≤ (mi_f h 14033) + ((1 : Int)) ∧ (mi_f h 14033) + ((1 : Int)) ≤ 2147483647)) ∧ (∀ h1, ab_Sh sx_sk h1 → mi_f h1 14033 = (mi_f h 14033) + ((1 : Int)) → ab_Fr [(14033, 14034)] h h1 → Q none h1)) (k5 : ((-2147483648) ≤ mi_f h 14033 ∧ mi_f h 14033 ≤ 2147483647) → ((mi_a h 119 (Int.toNat zu)) = ((8 : Int))) → ((mi_a h 152 (Int.toNat (mi_f h 14033))) = (((3 : Int)) + (mi_a h 120 (Int.toNat zu)))) → ((mi_a h 119 (Int.toNat zu)) ≠ ((1 : Int))) → ((mi_a h 119 (Int.toNat zu)) = ((2 : Int))) → ((0 ≤ zu ∧ zu < 60) ∧ (-2147483648 ≤ ((3 : Int)) + (mi_a h 120 (Int.toNat zu)) ∧ ((3 : Int)) + (mi_a h 120 (Int.toNat zu)) ≤ 2147483647) ∧ (0 ≤ (mi_f h 14033) ∧ (mi_f h 14033) < 161)) ∧ (∀ h1, ab_Sh sx_sk h1 → ab_Fr [] h h1 → ∃ Q1, me_E (d + 0) 208 0 (mi_entry 4 [.inr (.inr 109), .inl ((3 : Int)), .inr (.inl (mx_b h 154 (Int.toNat (mi_f h 14033))))]) [] h1 Q1 ∧ ∀ w h2, (∀ x, w = some x → mi_ok x) → Q1 w h2 → me_E (d + 1) 214 117 [some (.inr (.inr 109)), some (.inl (zu)), some (.inl (((3 : Int)) + (mi_a h 120 (Int.toNat zu))))] (mi_back w []) h2 Q)) (k6 : ((-2147483648) ≤ mi_f h 14033 ∧ mi_f h 14033 ≤ 2147483647) → ((mi_a h 119 (Int.toNat zu)) = ((8 : Int))) → ((mi_a h 152 (Int.toNat (mi_f h 14033))) = (((3 : Int)) + (mi_a h 120 (Int.toNat zu)))) → ((mi_a h 119 (Int.toNat zu)) = ((1 : Int))) → ((0 ≤ zu ∧ zu < 60) ∧ (-2147483648 ≤ ((3 : Int)) + (mi_a h 120 (Int.toNat zu)) ∧ ((3 : Int)) + (mi_a h 120 (Int.toNat zu)) ≤ 2147483647) ∧ (0 ≤ (mi_f h 14033) ∧ (mi_f h 14033) < 161)) ∧ (∀ h1, ab_Sh sx_sk h1 → ab_Fr [] h h1 → ∃ Q1, me_E (d + 0) 208 0 (mi_entry 4 [.inr (.inr 109), .inl ((2 : Int)), .inr (.inl (((mx_b h 154 (Int.toNat (mi_f h 14033))) + ((Int32.ofInt (mi_a h 120 (Int.toNat zu))).toInt64)) - ((mx_b h 154 (Int.toNat (mi_f h 14033))) + ((Int32.ofInt (mi_a h 120 (Int.toNat zu))).toInt64)) / (Int64.ofNat 10000) * (Int64.ofNat 10000)))]) [] h1 Q1 ∧ ∀ w h2, (∀ x, w = some x → mi_ok x) → Q1 w h2 → me_E (d + 1) 214 92 [some (.inr (.inr 109)), some (.inl (zu)), some (.inl (((3 : Int)) + (mi_a h 120 (Int.toNat zu))))] (mi_back w []) h2 Q)) (k7 : ((-2147483648) ≤ mi_f h 14033 ∧ mi_f h 14033 ≤ 2147483647) → ((mi_a h 119 (Int.toNat zu)) = ((8 : Int))) → ((mi_a h 152 (Int.toNat (mi_f h 14033))) ≠ (((3 : Int)) + (mi_a h 120 (Int.toNat zu)))) → ((0 ≤ zu ∧ zu < 60) ∧ (-2147483648 ≤ ((3 : Int)) + (mi_a h 120 (Int.toNat zu)) ∧ ((3 : Int)) + (mi_a h 120 (Int.toNat zu)) ≤ 2147483647) ∧ (0 ≤ (mi_f h 14033) ∧ (mi_f h 14033) < 161)) ∧ (∀ h1, ab_Sh sx_sk h1 → mi_f h1 14034 = mi_a h 153 (Int.toNat (mi_f h 14033)) → ab_Fr [(14034, 14035)] h h1 → Q none h1)) : me_E (d + 1) 214 0 [some (.inr (.inr 109)), some (.inl (zu)), none] [] h Q := Or.elim (mi_em .ne ((mi_a h 119 (Int.toNat zu))) (((8 : Int)))) (fun c0 => Or.elim (mi_em .eq ((mi_a h 152 (Int.toNat (mi_f h 14033)))) ((mi_a h 119 (Int.toNat zu)))) (fun c1 => Or.elim (mi_em .ne ((mi_a h 119 (Int.toNat zu))) (((1 : Int)))) (fun c2 => Or.elim (mi_em .ne ((mi_a h 119 (Int.toNat zu))) (((2 : Int)))) (fun c3 => ms_maA_0 hS ok_zu ⟨(k0 (me_fb hS rfl) c0 c1 c2 c3).1.1, c0, (k0 (me_fb hS rfl) c0 c1 c2 c3).1.1, (k0 (me_fb hS rfl) c0 c1 c2 c3).1.2.1, c1, (k0 (me_fb hS rfl) c0 c1 c2 c3).1.1, c2, (k0 (me_fb hS rfl) c0 c1 c2 c3).1.1, c3, (k0 (me_fb hS rfl) c0 c1 c2 c3).1.2.2⟩ (fun h1 W => (k0 (me_fb hS rfl) c0 c1 c2 c3).2 h1 W.1 (W.2.1 14033) (W.2.2.2.2.2 _ rfl))) (fun c3 => ms_maA_1 hS ok_zu ⟨(k1 (me_fb hS rfl) c0 c1 c2 c3).1.1, c0, (k1 (me_fb hS rfl) c0 c1 c2 c3).1.1, (k1 (me_fb hS rfl) c0 c1 c2 c3).1.2, c1, (k1 (me_fb hS rfl) c0 c1 c2 c3).1.1, c2, (k1 (me_fb hS rfl) c0 c1 c2 c3).1.1, c3, (k1 (me_fb hS rfl) c0 c1 c2 c3).1.2⟩ (fun h1 W => (k1 (me_fb hS rfl) c0 c1 c2 c3).2 h1 W.1 (W.2.2.2.2.2 _ rfl)))) (fun c2 => ms_maA_2 hS ok_zu ⟨(k2 (me_fb hS rfl) c0 c1 c2).1.1, c0, (k2 (me_fb hS rfl) c0 c1 c2).1.1, (k2 (me_fb hS rfl) c0 c1 c2).1.2, c1, (k2 (me_fb hS rfl) c0 c1 c2).1.1, c2, (k2 (me_fb hS rfl) c0 c1 c2).1.2, (k2 (me_fb hS rfl) c0 c1 c2).1.1, (by decide)⟩ (fun h1 W => (k2 (me_fb hS rfl) c0 c1 c2).2 h1 W.1 (W.2.2.2.2.2 _ rfl)))) (fun c1 => ms_maA_3 hS ok_zu ⟨(k3 (me_fb hS rfl) c0 c1).1.1, c0, (k3 (me_fb hS rfl) c0 c1).1.1, (k3 (me_fb hS rfl) c0 c1).1.2, c1, (k3 (me_fb hS rfl) c0 c1).1.2⟩ (fun h1 W => (k3 (me_fb hS rfl) c0 c1).2 h1 W.1 (W.2.1 14034) (W.2.2.2.2.2 _ rfl)))) (fun c0 => Or.elim (mi_em .eq ((mi_a h 152 (Int.toNat (mi_f h 14033)))) ((((3 : Int)) + (mi_a h 120 (Int.toNat zu))))) (fun c1 => Or.elim (mi_em .ne ((mi_a h 119 (Int.toNat zu))) (((1 : Int)))) (fun c2 => Or.elim (mi_em .ne ((mi_a h 119 (Int.toNat zu))) (((2 : Int)))) (fun c3 => ms_maA_4 hS ok_zu ⟨(k4 (me_fb hS rfl) c0 c1 c2 c3).1.1, c0, (k4 (me_fb hS rfl) c0 c1 c2 c3).1.1, (k4 (me_fb hS rfl) c0 c1 c2 c3).1.2.1, (k4 (me_fb hS rfl) c0 c1 c2 c3).1.2.2.1, c1, (k4 (me_fb hS rfl) c0 c1 c2 c3).1.1, c2, (k4 (me_fb hS rfl) c0 c1 c2 c3).1.1, c3, (k4 (me_fb hS rfl) c0 c1 c2 c3).1.2.2.2⟩ (fun h1 W => (k4 (me_fb hS rfl) c0 c1 c2 c3).2 h1 W.1 (W.2.1 14033) (W.2.2.2.2.2 _ rfl))) (fun c3 => ms_maA_5 hS ok_zu ⟨(k5 (me_fb hS rfl) c0 c1 c2 c3).1.1, c0, (k5 (me_fb hS rfl) c0 c1 c2 c3).1.1, (k5 (me_fb hS rfl) c0 c1 c2 c3).1.2.1, (k5 (me_fb hS rfl) c0 c1 c2 c3).1.2.2, c1, (k5 (me_fb hS rfl) c0 c1 c2 c3).1.1, c2, (k5 (me_fb hS rfl) c0 c1 c2 c3).1.1, c3, (k5 (me_fb hS rfl) c0 c1 c2 c3).1.2.2⟩ (fun h1 W => (k5 (me_fb hS rfl) c0 c1 c2 c3).2 h1 W.1 (W.2.2.2.2.2 _ rfl)))) (fun c2 => ms_maA_6 hS ok_zu ⟨(k6 (me_fb hS rfl) c0 c1 c2).1.1, c0, (k6 (me_fb hS rfl) c0 c1 c2).1.1, (k6 (me_fb hS rfl) c0 c1 c2).1.2.1, (k6 (me_fb hS rfl) c0 c1 c2).1.2.2, c1, (k6 (me_fb hS rfl) c0 c1 c2).1.1, c2, (k6 (me_fb hS rfl) c0 c1 c2).1.2.2, (k6 (me_fb hS rfl) c0 c1 c2).1.1, (by decide)⟩ (fun h1 W => (k6 (me_fb hS rfl) c0 c1 c2).2 h1 W.1 (W.2.2.2.2.2 _ rfl)))) (fun c1 => ms_maA_7 hS ok_zu ⟨(k7 (me_fb hS rfl) c0 c1).1.1, c0, (k7 (me_fb hS rfl) c0 c1).1.1, (k7 (me_fb hS rfl) c0 c1).1.2.1, (k7 (me_fb hS rfl) c0 c1).1.2.2, c1, (k7 (me_fb hS rfl) c0 c1).1.2.2⟩ (fun h1 W => (k7 (me_fb hS rfl) c0 c1).2 h1 W.1 (W.2.1 14034) (W.2.2.2.2.2 _ rfl))))
set_option maxRecDepth 20000 in
theorem mp_maB_0 (h : sm_H) (d : Nat) (zu zd zw : Int) : mi_path [(214, (3, 0, sb_214))] sx_sk h 13 [1, 8] (d + 1, 214, 92, [some (.inr (.inr 109)), some (.inl (zu)), some (.inl (zd))], [.inl (zw)], [], []) = some ((d + 1, 214, 128, [some (.inr (.inr 109)), some (.inl (zu)), some (.inl (zd))], [], [.inl (14033, (mi_f h 14033) + ((1 : Int)))], []), [0 ≤ zu ∧ zu < 60, (mi_a h 119 (Int.toNat zu)) ≠ ((2 : Int)), -2147483648 ≤ (mi_f h 14033) + ((1 : Int)) ∧ (mi_f h 14033) + ((1 : Int)) ≤ 2147483647]) := rfl
theorem mi_tab_maB_0 : ∀ e ∈ ([(214, (3, 0, sb_214))] : mi_T), sc_P e.1 = some e.2 := mi_tb mi_P214 (mi_tb_e)
set_option maxRecDepth 20000 in
theorem ms_maB_0 {h : sm_H} {d : Nat} {Q : Option mi_V → sm_H → Prop} {zu zd zw : Int} (hS : ab_Sh sx_sk h) (ok_zu : mi_in zu) (ok_zd : mi_in zd) (ok_zw : mi_in zw) (ho : (0 ≤ zu ∧ zu < 60) ∧ ((mi_a h 119 (Int.toNat zu)) ≠ ((2 : Int))) ∧ (-2147483648 ≤ (mi_f h 14033) + ((1 : Int)) ∧ (mi_f h 14033) + ((1 : Int)) ≤ 2147483647)) (kon : ∀ h1, me_W [.inl (14033, (mi_f h 14033) + ((1 : Int)))] h h1 → Q none h1) : me_E (d + 1) 214 92 [some (.inr (.inr 109)), some (.inl (zu)), some (.inl (zd))] [.inl (zw)] h Q := me_seg (mp_maB_0 h d zu zd zw) (mi_tab_maB_0) hS (mi_okL_c (trivial) (mi_okL_c (ok_zu) (mi_okL_c (ok_zd) (mi_okL_e)))) (mi_okS_cons (ok_zw) (mi_okS_e)) (mi_al (ho.1) (mi_al (ho.2.1) (mi_al (ho.2.2) (mi_al_e)))) (fun h1 W _ hst => me_ret (M := (3, 0, sb_214)) rfl rfl rfl hst (mi_al_e) (kon h1 W))
set_option maxRecDepth 20000 in
theorem mp_maB_1 (h : sm_H) (d : Nat) (zu zd zw : Int) : mi_path [(214, (3, 0, sb_214))] sx_sk h 14 [0] (d + 1, 214, 92, [some (.inr (.inr 109)), some (.inl (zu)), some (.inl (zd))], [.inl (zw)], [], []) = some ((d + 1, 214, 114, [some (.inr (.inr 109)), some (.inl (zu)), some (.inl (zd))], [.inr (.inl (mx_b h 154 (Int.toNat (mi_f h 14033)))), .inl ((3 : Int)), .inr (.inr 109)], [], []), [0 ≤ zu ∧ zu < 60, (mi_a h 119 (Int.toNat zu)) = ((2 : Int)), 0 ≤ (mi_f h 14033) ∧ (mi_f h 14033) < 161]) := rfl
theorem mi_tab_maB_1 : ∀ e ∈ ([(214, (3, 0, sb_214))] : mi_T), sc_P e.1 = some e.2 := mi_tb mi_P214 (mi_tb_e)
set_option maxRecDepth 20000 in
theorem ms_maB_1 {h : sm_H} {d : Nat} {Q : Option mi_V → sm_H → Prop} {zu zd zw : Int} (hS : ab_Sh sx_sk h) (ok_zu : mi_in zu) (ok_zd : mi_in zd) (ok_zw : mi_in zw) (ho : (0 ≤ zu ∧ zu < 60) ∧ ((mi_a h 119 (Int.toNat zu)) = ((2 : Int))) ∧ (0 ≤ (mi_f h 14033) ∧ (mi_f h 14033) < 161)) (kon : ∀ h1, me_W [] h h1 → ∃ Q1, me_E (d + 0) 208 0 (mi_entry 4 [.inr (.inr 109), .inl ((3 : Int)), .inr (.inl (mx_b h 154 (Int.toNat (mi_f h 14033))))]) [] h1 Q1 ∧ ∀ w h2, (∀ x, w = some x → mi_ok x) → Q1 w h2 → me_E (d + 1) 214 117 [some (.inr (.inr 109)), some (.inl (zu)), some (.inl (zd))] (mi_back w []) h2 Q) : me_E (d + 1) 214 92 [some (.inr (.inr 109)), some (.inl (zu)), some (.inl (zd))] [.inl (zw)] h Q := me_seg (mp_maB_1 h d zu zd zw) (mi_tab_maB_1) hS (mi_okL_c (trivial) (mi_okL_c (ok_zu) (mi_okL_c (ok_zd) (mi_okL_e)))) (mi_okS_cons (ok_zw) (mi_okS_e)) (mi_al (ho.1) (mi_al (ho.2.1) (mi_al (ho.2.2) (mi_al_e)))) (fun h1 W _ hst => let ⟨_, k1, k2⟩ := kon h1 W; me_call (M := (3, 0, sb_214)) (M' := (4, 1, sb_208)) rfl rfl rfl rfl (Nat.le_of_ble_eq_true rfl) (Nat.le_of_ble_eq_true rfl) W.1 k1 k2)
set_option maxRecDepth 20000 in
theorem mt_maB {h : sm_H} {d : Nat} {Q : Option mi_V → sm_H → Prop} {zu zd zw : Int} (hS : ab_Sh sx_sk h) (ok_zu : mi_in zu) (ok_zd : mi_in zd) (ok_zw : mi_in zw) (k0 : ((-2147483648) ≤ mi_f h 14033 ∧ mi_f h 14033 ≤ 2147483647) → ((mi_a h 119 (Int.toNat zu)) ≠ ((2 : Int))) → ((0 ≤ zu ∧ zu < 60) ∧ (-2147483648 ≤ (mi_f h 14033) + ((1 : Int)) ∧ (mi_f h 14033) + ((1 : Int)) ≤ 2147483647)) ∧ (∀ h1, ab_Sh sx_sk h1 → mi_f h1 14033 = (mi_f h 14033) + ((1 : Int)) → ab_Fr [(14033, 14034)] h h1 → Q none h1)) (k1 : ((-2147483648) ≤ mi_f h 14033 ∧ mi_f h 14033 ≤ 2147483647) → ((mi_a h 119 (Int.toNat zu)) = ((2 : Int))) → ((0 ≤ zu ∧ zu < 60) ∧ (0 ≤ (mi_f h 14033) ∧ (mi_f h 14033) < 161)) ∧ (∀ h1, ab_Sh sx_sk h1 → ab_Fr [] h h1 → ∃ Q1, me_E (d + 0) 208 0 (mi_entry 4 [.inr (.inr 109), .inl ((3 : Int)), .inr (.inl (mx_b h 154 (Int.toNat (mi_f h 14033))))]) [] h1 Q1 ∧ ∀ w h2, (∀ x, w = some x → mi_ok x) → Q1 w h2 → me_E (d + 1) 214 117 [some (.inr (.inr 109)), some (.inl (zu)), some (.inl (zd))] (mi_back w []) h2 Q)) : me_E (d + 1) 214 92 [some (.inr (.inr 109)), some (.inl (zu)), some (.inl (zd))] [.inl (zw)] h Q := Or.elim (mi_em .ne ((mi_a h 119 (Int.toNat zu))) (((2 : Int)))) (fun c0 => ms_maB_0 hS ok_zu ok_zd ok_zw ⟨(k0 (me_fb hS rfl) c0).1.1, c0, (k0 (me_fb hS rfl) c0).1.2⟩ (fun h1 W => (k0 (me_fb hS rfl) c0).2 h1 W.1 (W.2.1 14033) (W.2.2.2.2.2 _ rfl))) (fun c0 => ms_maB_1 hS ok_zu ok_zd ok_zw ⟨(k1 (me_fb hS rfl) c0).1.1, c0, (k1 (me_fb hS rfl) c0).1.2⟩ (fun h1 W => (k1 (me_fb hS rfl) c0).2 h1 W.1 (W.2.2.2.2.2 _ rfl)))
set_option maxRecDepth 20000 in
theorem mp_maC_0 (h : sm_H) (d : Nat) (zu zd zw : Int) : mi_path [(214, (3, 0, sb_214))] sx_sk h 7 [8] (d + 1, 214, 117, [some (.inr (.inr 109)), some (.inl (zu)), some (.inl (zd))], [.inl (zw)], [], []) = some ((d + 1, 214, 128, [some (.inr (.inr 109)), some (.inl (zu)), some (.inl (zd))], [], [.inl (14033, (mi_f h 14033) + ((1 : Int)))], []), [-2147483648 ≤ (mi_f h 14033) + ((1 : Int)) ∧ (mi_f h 14033) + ((1 : Int)) ≤ 2147483647]) := rfl
theorem mi_tab_maC_0 : ∀ e ∈ ([(214, (3, 0, sb_214))] : mi_T), sc_P e.1 = some e.2 := mi_tb mi_P214 (mi_tb_e)
set_option maxRecDepth 20000 in
theorem ms_maC_0 {h : sm_H} {d : Nat} {Q : Option mi_V → sm_H → Prop} {zu zd zw : Int} (hS : ab_Sh sx_sk h) (ok_zu : mi_in zu) (ok_zd : mi_in zd) (ok_zw : mi_in zw) (ho : (-2147483648 ≤ (mi_f h 14033) + ((1 : Int)) ∧ (mi_f h 14033) + ((1 : Int)) ≤ 2147483647)) (kon : ∀ h1, me_W [.inl (14033, (mi_f h 14033) + ((1 : Int)))] h h1 → Q none h1) : me_E (d + 1) 214 117 [some (.inr (.inr 109)), some (.inl (zu)), some (.inl (zd))] [.inl (zw)] h Q := me_seg (mp_maC_0 h d zu zd zw) (mi_tab_maC_0) hS (mi_okL_c (trivial) (mi_okL_c (ok_zu) (mi_okL_c (ok_zd) (mi_okL_e)))) (mi_okS_cons (ok_zw) (mi_okS_e)) (mi_al (ho) (mi_al_e)) (fun h1 W _ hst => me_ret (M := (3, 0, sb_214)) rfl rfl rfl hst (mi_al_e) (kon h1 W))
set_option maxRecDepth 20000 in
theorem mt_maC {h : sm_H} {d : Nat} {Q : Option mi_V → sm_H → Prop} {zu zd zw : Int} (hS : ab_Sh sx_sk h) (ok_zu : mi_in zu) (ok_zd : mi_in zd) (ok_zw : mi_in zw) (k0 : ((-2147483648) ≤ mi_f h 14033 ∧ mi_f h 14033 ≤ 2147483647) → ((-2147483648 ≤ (mi_f h 14033) + ((1 : Int)) ∧ (mi_f h 14033) + ((1 : Int)) ≤ 2147483647)) ∧ (∀ h1, ab_Sh sx_sk h1 → mi_f h1 14033 = (mi_f h 14033) + ((1 : Int)) → ab_Fr [(14033, 14034)] h h1 → Q none h1)) : me_E (d + 1) 214 117 [some (.inr (.inr 109)), some (.inl (zu)), some (.inl (zd))] [.inl (zw)] h Q := ms_maC_0 hS ok_zu ok_zd ok_zw ((k0 (me_fb hS rfl)).1) (fun h1 W => (k0 (me_fb hS rfl)).2 h1 W.1 (W.2.1 14033) (W.2.2.2.2.2 _ rfl))
set_option maxRecDepth 20000 in
theorem mp_grA_0 (h : sm_H) (d : Nat) (zu : Int) : mi_path [(215, (6, 0, sb_215))] sx_sk h 15 [1, 1] (d + 1, 215, 0, [some (.inr (.inr 109)), some (.inl (zu)), none, none, none, none], [], [], []) = some ((d + 1, 215, 38, [some (.inr (.inr 109)), some (.inl (zu)), none, none, none, none], [.inl ((3 : Int)), .inr (.inr 109), .inl ((1 : Int))], [], []), [0 ≤ zu ∧ zu < 60, (mi_a h 119 (Int.toNat zu)) ≠ ((1 : Int)), 0 ≤ zu ∧ zu < 60, (mi_a h 119 (Int.toNat zu)) = ((2 : Int))]) := rfl
theorem mi_tab_grA_0 : ∀ e ∈ ([(215, (6, 0, sb_215))] : mi_T), sc_P e.1 = some e.2 := mi_tb mi_P215 (mi_tb_e)
set_option maxRecDepth 20000 in
theorem ms_grA_0 {h : sm_H} {d : Nat} {Q : Option mi_V → sm_H → Prop} {zu : Int} (hS : ab_Sh sx_sk h) (ok_zu : mi_in zu) (ho : (0 ≤ zu ∧ zu < 60) ∧ ((mi_a h 119 (Int.toNat zu)) ≠ ((1 : Int))) ∧ (0 ≤ zu ∧ zu < 60) ∧ ((mi_a h 119 (Int.toNat zu)) = ((2 : Int)))) (kon : ∀ h1, me_W [] h h1 → ∃ Q1, me_E (d + 0) 211 0 (mi_entry 2 [.inr (.inr 109), .inl ((3 : Int))]) [] h1 Q1 ∧ ∀ w h2, (∀ x, w = some x → mi_ok x) → Q1 w h2 → me_E (d + 1) 215 41 [some (.inr (.inr 109)), some (.inl (zu)), none, none, none, none] (mi_back w [.inl ((1 : Int))]) h2 Q) : me_E (d + 1) 215 0 [some (.inr (.inr 109)), some (.inl (zu)), none, none, none, none] [] h Q := me_seg (mp_grA_0 h d zu) (mi_tab_grA_0) hS (mi_okL_c (trivial) (mi_okL_c (ok_zu) (mi_okL_n (mi_okL_n (mi_okL_n (mi_okL_n (mi_okL_e))))))) (mi_okS_e) (mi_al (ho.1) (mi_al (ho.2.1) (mi_al (ho.2.2.1) (mi_al (ho.2.2.2) (mi_al_e))))) (fun h1 W _ hst => let ⟨_, k1, k2⟩ := kon h1 W; me_call (M := (6, 0, sb_215)) (M' := (2, 1, sb_211)) rfl rfl rfl rfl (Nat.le_of_ble_eq_true rfl) (Nat.le_of_ble_eq_true rfl) W.1 k1 k2)
set_option maxRecDepth 20000 in
theorem mp_grA_1 (h : sm_H) (d : Nat) (zu : Int) : mi_path [(215, (6, 0, sb_215))] sx_sk h 12 [1, 0] (d + 1, 215, 0, [some (.inr (.inr 109)), some (.inl (zu)), none, none, none, none], [], [], []) = some ((d + 1, 215, 34, [some (.inr (.inr 109)), some (.inl (zu)), none, none, none, none], [], [], []), [0 ≤ zu ∧ zu < 60, (mi_a h 119 (Int.toNat zu)) ≠ ((1 : Int)), 0 ≤ zu ∧ zu < 60, (mi_a h 119 (Int.toNat zu)) ≠ ((2 : Int))]) := rfl
theorem mi_tab_grA_1 : ∀ e ∈ ([(215, (6, 0, sb_215))] : mi_T), sc_P e.1 = some e.2 := mi_tb mi_P215 (mi_tb_e)
set_option maxRecDepth 20000 in
theorem ms_grA_1 {h : sm_H} {d : Nat} {Q : Option mi_V → sm_H → Prop} {zu : Int} (hS : ab_Sh sx_sk h) (ok_zu : mi_in zu) (ho : (0 ≤ zu ∧ zu < 60) ∧ ((mi_a h 119 (Int.toNat zu)) ≠ ((1 : Int))) ∧ (0 ≤ zu ∧ zu < 60) ∧ ((mi_a h 119 (Int.toNat zu)) ≠ ((2 : Int)))) (kon : ∀ h1, me_W [] h h1 → Q none h1) : me_E (d + 1) 215 0 [some (.inr (.inr 109)), some (.inl (zu)), none, none, none, none] [] h Q := me_seg (mp_grA_1 h d zu) (mi_tab_grA_1) hS (mi_okL_c (trivial) (mi_okL_c (ok_zu) (mi_okL_n (mi_okL_n (mi_okL_n (mi_okL_n (mi_okL_e))))))) (mi_okS_e) (mi_al (ho.1) (mi_al (ho.2.1) (mi_al (ho.2.2.1) (mi_al (ho.2.2.2) (mi_al_e))))) (fun h1 W _ hst => me_ret (M := (6, 0, sb_215)) rfl rfl rfl hst (mi_al_e) (kon h1 W))
set_option maxRecDepth 20000 in
theorem mp_grA_2 (h : sm_H) (d : Nat) (zu : Int) : mi_path [(215, (6, 0, sb_215))] sx_sk h 10 [0] (d + 1, 215, 0, [some (.inr (.inr 109)), some (.inl (zu)), none, none, none, none], [], [], []) = some ((d + 1, 215, 16, [some (.inr (.inr 109)), some (.inl (zu)), none, none, none, none], [.inl ((10000 : Int)), .inr (.inr 109), .inl ((2 : Int)), .inr (.inr 109)], [], []), [0 ≤ zu ∧ zu < 60, (mi_a h 119 (Int.toNat zu)) = ((1 : Int))]) := rfl
theorem mi_tab_grA_2 : ∀ e ∈ ([(215, (6, 0, sb_215))] : mi_T), sc_P e.1 = some e.2 := mi_tb mi_P215 (mi_tb_e)
set_option maxRecDepth 20000 in
theorem ms_grA_2 {h : sm_H} {d : Nat} {Q : Option mi_V → sm_H → Prop} {zu : Int} (hS : ab_Sh sx_sk h) (ok_zu : mi_in zu) (ho : (0 ≤ zu ∧ zu < 60) ∧ ((mi_a h 119 (Int.toNat zu)) = ((1 : Int)))) (kon : ∀ h1, me_W [] h h1 → ∃ Q1, me_E (d + 0) 211 0 (mi_entry 2 [.inr (.inr 109), .inl ((10000 : Int))]) [] h1 Q1 ∧ ∀ w h2, (∀ x, w = some x → mi_ok x) → Q1 w h2 → me_E (d + 1) 215 19 [some (.inr (.inr 109)), some (.inl (zu)), none, none, none, none] (mi_back w [.inl ((2 : Int)), .inr (.inr 109)]) h2 Q) : me_E (d + 1) 215 0 [some (.inr (.inr 109)), some (.inl (zu)), none, none, none, none] [] h Q := me_seg (mp_grA_2 h d zu) (mi_tab_grA_2) hS (mi_okL_c (trivial) (mi_okL_c (ok_zu) (mi_okL_n (mi_okL_n (mi_okL_n (mi_okL_n (mi_okL_e))))))) (mi_okS_e) (mi_al (ho.1) (mi_al (ho.2) (mi_al_e))) (fun h1 W _ hst => let ⟨_, k1, k2⟩ := kon h1 W; me_call (M := (6, 0, sb_215)) (M' := (2, 1, sb_211)) rfl rfl rfl rfl (Nat.le_of_ble_eq_true rfl) (Nat.le_of_ble_eq_true rfl) W.1 k1 k2)
set_option maxRecDepth 20000 in
theorem mt_grA {h : sm_H} {d : Nat} {Q : Option mi_V → sm_H → Prop} {zu : Int} (hS : ab_Sh sx_sk h) (ok_zu : mi_in zu) (k0 : ((mi_a h 119 (Int.toNat zu)) ≠ ((1 : Int))) → ((mi_a h 119 (Int.toNat zu)) = ((2 : Int))) → ((0 ≤ zu ∧ zu < 60)) ∧ (∀ h1, ab_Sh sx_sk h1 → ab_Fr [] h h1 → ∃ Q1, me_E (d + 0) 211 0 (mi_entry 2 [.inr (.inr 109), .inl ((3 : Int))]) [] h1 Q1 ∧ ∀ w h2, (∀ x, w = some x → mi_ok x) → Q1 w h2 → me_E (d + 1) 215 41 [some (.inr (.inr 109)), some (.inl (zu)), none, none, none, none] (mi_back w [.inl ((1 : Int))]) h2 Q)) (k1 : ((mi_a h 119 (Int.toNat zu)) ≠ ((1 : Int))) → ((mi_a h 119 (Int.toNat zu)) ≠ ((2 : Int))) → ((0 ≤ zu ∧ zu < 60)) ∧ (∀ h1, ab_Sh sx_sk h1 → ab_Fr [] h h1 → Q none h1)) (k2 : ((mi_a h 119 (Int.toNat zu)) = ((1 : Int))) → ((0 ≤ zu ∧ zu < 60)) ∧ (∀ h1, ab_Sh sx_sk h1 → ab_Fr [] h h1 → ∃ Q1, me_E (d + 0) 211 0 (mi_entry 2 [.inr (.inr 109), .inl ((10000 : Int))]) [] h1 Q1 ∧ ∀ w h2, (∀ x, w = some x → mi_ok x) → Q1 w h2 → me_E (d + 1) 215 19 [some (.inr (.inr 109)), some (.inl (zu)), none, none, none, none] (mi_back w [.inl ((2 : Int)), .inr (.inr 109)]) h2 Q)) : me_E (d + 1) 215 0 [some (.inr (.inr 109)), some (.inl (zu)), none, none, none, none] [] h Q := Or.elim (mi_em .ne ((mi_a h 119 (Int.toNat zu))) (((1 : Int)))) (fun c0 => Or.elim (mi_em .eq ((mi_a h 119 (Int.toNat zu))) (((2 : Int)))) (fun c1 => ms_grA_0 hS ok_zu ⟨(k0 c0 c1).1, c0, (k0 c0 c1).1, c1⟩ (fun h1 W => (k0 c0 c1).2 h1 W.1 (W.2.2.2.2.2 _ rfl))) (fun c1 => ms_grA_1 hS ok_zu ⟨(k1 c0 c1).1, c0, (k1 c0 c1).1, c1⟩ (fun h1 W => (k1 c0 c1).2 h1 W.1 (W.2.2.2.2.2 _ rfl)))) (fun c0 => ms_grA_2 hS ok_zu ⟨(k2 c0).1, c0⟩ (fun h1 W => (k2 c0).2 h1 W.1 (W.2.2.2.2.2 _ rfl)))
set_option maxRecDepth 20000 in
theorem mp_grB_0 (h : sm_H) (d : Nat) (zu zz z2 : Int) : mi_path [(215, (6, 0, sb_215))] sx_sk h 1 [] (d + 1, 215, 19, [some (.inr (.inr 109)), some (.inl (zu)), none, none, none, none], [.inl (zz), .inl (z2), .inr (.inr 109)], [], []) = some ((d + 1, 215, 20, [some (.inr (.inr 109)), some (.inl (zu)), none, none, none, none], [.inr (.inl ((Int32.ofInt zz).toInt64)), .inl (z2), .inr (.inr 109)], [], []), []) := rfl
theorem mi_tab_grB_0 : ∀ e ∈ ([(215, (6, 0, sb_215))] : mi_T), sc_P e.1 = some e.2 := mi_tb mi_P215 (mi_tb_e)
set_option maxRecDepth 20000 in
theorem ms_grB_0 {h : sm_H} {d : Nat} {Q : Option mi_V → sm_H → Prop} {zu zz z2 : Int} (hS : ab_Sh sx_sk h) (ok_zu : mi_in zu) (ok_zz : mi_in zz) (ok_z2 : mi_in z2) (kon : ∀ h1, me_W [] h h1 → ∃ Q1, me_E (d + 0) 208 0 (mi_entry 4 [.inr (.inr 109), .inl (z2), .inr (.inl ((Int32.ofInt zz).toInt64))]) [] h1 Q1 ∧ ∀ w h2, (∀ x, w = some x → mi_ok x) → Q1 w h2 → me_E (d + 1) 215 23 [some (.inr (.inr 109)), some (.inl (zu)), none, none, none, none] (mi_back w []) h2 Q) : me_E (d + 1) 215 19 [some (.inr (.inr 109)), some (.inl (zu)), none, none, none, none] [.inl (zz), .inl (z2), .inr (.inr 109)] h Q := me_seg (mp_grB_0 h d zu zz z2) (mi_tab_grB_0) hS (mi_okL_c (trivial) (mi_okL_c (ok_zu) (mi_okL_n (mi_okL_n (mi_okL_n (mi_okL_n (mi_okL_e))))))) (mi_okS_cons (ok_zz) (mi_okS_cons (ok_z2) (mi_okS_cons (trivial) (mi_okS_e)))) (mi_al_e) (fun h1 W _ hst => let ⟨_, k1, k2⟩ := kon h1 W; me_call (M := (6, 0, sb_215)) (M' := (4, 1, sb_208)) rfl rfl rfl rfl (Nat.le_of_ble_eq_true rfl) (Nat.le_of_ble_eq_true rfl) W.1 k1 k2)
set_option maxRecDepth 20000 in
theorem mt_grB {h : sm_H} {d : Nat} {Q : Option mi_V → sm_H → Prop} {zu zz z2 : Int} (hS : ab_Sh sx_sk h) (ok_zu : mi_in zu) (ok_zz : mi_in zz) (ok_z2 : mi_in z2) (k0 : (∀ h1, ab_Sh sx_sk h1 → ab_Fr [] h h1 → ∃ Q1, me_E (d + 0) 208 0 (mi_entry 4 [.inr (.inr 109), .inl (z2), .inr (.inl ((Int32.ofInt zz).toInt64))]) [] h1 Q1 ∧ ∀ w h2, (∀ x, w = some x → mi_ok x) → Q1 w h2 → me_E (d + 1) 215 23 [some (.inr (.inr 109)), some (.inl (zu)), none, none, none, none] (mi_back w []) h2 Q)) : me_E (d + 1) 215 19 [some (.inr (.inr 109)), some (.inl (zu)), none, none, none, none] [.inl (zz), .inl (z2), .inr (.inr 109)] h Q := ms_grB_0 hS ok_zu ok_zz ok_z2 (fun h1 W => (k0) h1 W.1 (W.2.2.2.2.2 _ rfl))
set_option maxRecDepth 20000 in
theorem mp_grC_0 (h : sm_H) (d : Nat) (zu zw : Int) : mi_path [(215, (6, 0, sb_215))] sx_sk h 10 [1] (d + 1, 215, 23, [some (.inr (.inr 109)), some (.inl (zu)), none, none, none, none], [.inl (zw)], [], []) = some ((d + 1, 215, 38, [some (.inr (.inr 109)), some (.inl (zu)), none, none, none, none], [.inl ((3 : Int)), .inr (.inr 109), .inl ((1 : Int))], [], []), [0 ≤ zu ∧ zu < 60, (mi_a h 119 (Int.toNat zu)) = ((2 : Int))]) := rfl
theorem mi_tab_grC_0 : ∀ e ∈ ([(215, (6, 0, sb_215))] : mi_T), sc_P e.1 = some e.2 := mi_tb mi_P215 (mi_tb_e)
set_option maxRecDepth 20000 in
theorem ms_grC_0 {h : sm_H} {d : Nat} {Q : Option mi_V → sm_H → Prop} {zu zw : Int} (hS : ab_Sh sx_sk h) (ok_zu : mi_in zu) (ok_zw : mi_in zw) (ho : (0 ≤ zu ∧ zu < 60) ∧ ((mi_a h 119 (Int.toNat zu)) = ((2 : Int)))) (kon : ∀ h1, me_W [] h h1 → ∃ Q1, me_E (d + 0) 211 0 (mi_entry 2 [.inr (.inr 109), .inl ((3 : Int))]) [] h1 Q1 ∧ ∀ w h2, (∀ x, w = some x → mi_ok x) → Q1 w h2 → me_E (d + 1) 215 41 [some (.inr (.inr 109)), some (.inl (zu)), none, none, none, none] (mi_back w [.inl ((1 : Int))]) h2 Q) : me_E (d + 1) 215 23 [some (.inr (.inr 109)), some (.inl (zu)), none, none, none, none] [.inl (zw)] h Q := me_seg (mp_grC_0 h d zu zw) (mi_tab_grC_0) hS (mi_okL_c (trivial) (mi_okL_c (ok_zu) (mi_okL_n (mi_okL_n (mi_okL_n (mi_okL_n (mi_okL_e))))))) (mi_okS_cons (ok_zw) (mi_okS_e)) (mi_al (ho.1) (mi_al (ho.2) (mi_al_e))) (fun h1 W _ hst => let ⟨_, k1, k2⟩ := kon h1 W; me_call (M := (6, 0, sb_215)) (M' := (2, 1, sb_211)) rfl rfl rfl rfl (Nat.le_of_ble_eq_true rfl) (Nat.le_of_ble_eq_true rfl) W.1 k1 k2)
set_option maxRecDepth 20000 in
theorem mp_grC_1 (h : sm_H) (d : Nat) (zu zw : Int) : mi_path [(215, (6, 0, sb_215))] sx_sk h 7 [0] (d + 1, 215, 23, [some (.inr (.inr 109)), some (.inl (zu)), none, none, none, none], [.inl (zw)], [], []) = some ((d + 1, 215, 34, [some (.inr (.inr 109)), some (.inl (zu)), none, none, none, none], [], [], []), [0 ≤ zu ∧ zu < 60, (mi_a h 119 (Int.toNat zu)) ≠ ((2 : Int))]) := rfl
theorem mi_tab_grC_1 : ∀ e ∈ ([(215, (6, 0, sb_215))] : mi_T), sc_P e.1 = some e.2 := mi_tb mi_P215 (mi_tb_e)
set_option maxRecDepth 20000 in
theorem ms_grC_1 {h : sm_H} {d : Nat} {Q : Option mi_V → sm_H → Prop} {zu zw : Int} (hS : ab_Sh sx_sk h) (ok_zu : mi_in zu) (ok_zw : mi_in zw) (ho : (0 ≤ zu ∧ zu < 60) ∧ ((mi_a h 119 (Int.toNat zu)) ≠ ((2 : Int)))) (kon : ∀ h1, me_W [] h h1 → Q none h1) : me_E (d + 1) 215 23 [some (.inr (.inr 109)), some (.inl (zu)), none, none, none, none] [.inl (zw)] h Q := me_seg (mp_grC_1 h d zu zw) (mi_tab_grC_1) hS (mi_okL_c (trivial) (mi_okL_c (ok_zu) (mi_okL_n (mi_okL_n (mi_okL_n (mi_okL_n (mi_okL_e))))))) (mi_okS_cons (ok_zw) (mi_okS_e)) (mi_al (ho.1) (mi_al (ho.2) (mi_al_e))) (fun h1 W _ hst => me_ret (M := (6, 0, sb_215)) rfl rfl rfl hst (mi_al_e) (kon h1 W))
set_option maxRecDepth 20000 in
theorem mt_grC {h : sm_H} {d : Nat} {Q : Option mi_V → sm_H → Prop} {zu zw : Int} (hS : ab_Sh sx_sk h) (ok_zu : mi_in zu) (ok_zw : mi_in zw) (k0 : ((mi_a h 119 (Int.toNat zu)) = ((2 : Int))) → ((0 ≤ zu ∧ zu < 60)) ∧ (∀ h1, ab_Sh sx_sk h1 → ab_Fr [] h h1 → ∃ Q1, me_E (d + 0) 211 0 (mi_entry 2 [.inr (.inr 109), .inl ((3 : Int))]) [] h1 Q1 ∧ ∀ w h2, (∀ x, w = some x → mi_ok x) → Q1 w h2 → me_E (d + 1) 215 41 [some (.inr (.inr 109)), some (.inl (zu)), none, none, none, none] (mi_back w [.inl ((1 : Int))]) h2 Q)) (k1 : ((mi_a h 119 (Int.toNat zu)) ≠ ((2 : Int))) → ((0 ≤ zu ∧ zu < 60)) ∧ (∀ h1, ab_Sh sx_sk h1 → ab_Fr [] h h1 → Q none h1)) : me_E (d + 1) 215 23 [some (.inr (.inr 109)), some (.inl (zu)), none, none, none, none] [.inl (zw)] h Q := Or.elim (mi_em .eq ((mi_a h 119 (Int.toNat zu))) (((2 : Int)))) (fun c0 => ms_grC_0 hS ok_zu ok_zw ⟨(k0 c0).1, c0⟩ (fun h1 W => (k0 c0).2 h1 W.1 (W.2.2.2.2.2 _ rfl))) (fun c0 => ms_grC_1 hS ok_zu ok_zw ⟨(k1 c0).1, c0⟩ (fun h1 W => (k1 c0).2 h1 W.1 (W.2.2.2.2.2 _ rfl)))
set_option maxRecDepth 20000 in
theorem mp_grD_0 (h : sm_H) (d : Nat) (zu zz z1 : Int) : mi_path [(215, (6, 0, sb_215))] sx_sk h 6 [8] (d + 1, 215, 41, [some (.inr (.inr 109)), some (.inl (zu)), none, none, none, none], [.inl (zz), .inl (z1)], [], []) = some ((d + 1, 215, 48, [some (.inr (.inr 109)), some (.inl (zu)), some (.inl (z1 + zz)), some (.inr (.inl (Int64.ofNat 0))), none, some (.inl ((0 : Int)))], [], [], []), [-2147483648 ≤ z1 + zz ∧ z1 + zz ≤ 2147483647]) := rfl
theorem mi_tab_grD_0 : ∀ e ∈ ([(215, (6, 0, sb_215))] : mi_T), sc_P e.1 = some e.2 := mi_tb mi_P215 (mi_tb_e)
set_option maxRecDepth 20000 in
theorem ms_grD_0 {h : sm_H} {d : Nat} {Q : Option mi_V → sm_H → Prop} {zu zz z1 : Int} (hS : ab_Sh sx_sk h) (ok_zu : mi_in zu) (ok_zz : mi_in zz) (ok_z1 : mi_in z1) (ho : (-2147483648 ≤ z1 + zz ∧ z1 + zz ≤ 2147483647)) (kon : ∀ h1, me_W [] h h1 → me_E (d + 1) 215 48 [some (.inr (.inr 109)), some (.inl (zu)), some (.inl (z1 + zz)), some (.inr (.inl (Int64.ofNat 0))), none, some (.inl ((0 : Int)))] [] h1 Q) : me_E (d + 1) 215 41 [some (.inr (.inr 109)), some (.inl (zu)), none, none, none, none] [.inl (zz), .inl (z1)] h Q := me_seg (mp_grD_0 h d zu zz z1) (mi_tab_grD_0) hS (mi_okL_c (trivial) (mi_okL_c (ok_zu) (mi_okL_n (mi_okL_n (mi_okL_n (mi_okL_n (mi_okL_e))))))) (mi_okS_cons (ok_zz) (mi_okS_cons (ok_z1) (mi_okS_e))) (mi_al (ho) (mi_al_e)) (fun h1 W _ hst => kon h1 W)
set_option maxRecDepth 20000 in
theorem mt_grD {h : sm_H} {d : Nat} {Q : Option mi_V → sm_H → Prop} {zu zz z1 : Int} (hS : ab_Sh sx_sk h) (ok_zu : mi_in zu) (ok_zz : mi_in zz) (ok_z1 : mi_in z1) (k0 : ((-2147483648 ≤ z1 + zz ∧ z1 + zz ≤ 2147483647)) ∧ (∀ h1, ab_Sh sx_sk h1 → ab_Fr [] h h1 → me_E (d + 1) 215 48 [some (.inr (.inr 109)), some (.inl (zu)), some (.inl (z1 + zz)), some (.inr (.inl (Int64.ofNat 0))), none, some (.inl ((0 : Int)))] [] h1 Q)) : me_E (d + 1) 215 41 [some (.inr (.inr 109)), some (.inl (zu)), none, none, none, none] [.inl (zz), .inl (z1)] h Q := ms_grD_0 hS ok_zu ok_zz ok_z1 ((k0).1) (fun h1 W => (k0).2 h1 W.1 (W.2.2.2.2.2 _ rfl))
set_option maxRecDepth 20000 in
theorem mp_grE_0 (h : sm_H) (d : Nat) (zu zn zk : Int) (zv : Int64) : mi_path [(215, (6, 0, sb_215))] sx_sk h 3 [1] (d + 1, 215, 48, [some (.inr (.inr 109)), some (.inl (zu)), some (.inl (zn)), some (.inr (.inl (zv))), none, some (.inl (zk))], [], [], []) = some ((d + 1, 215, 76, [some (.inr (.inr 109)), some (.inl (zu)), some (.inl (zn)), some (.inr (.inl (zv))), none, some (.inl (zk))], [], [], []), [zn ≤ zk]) := rfl
theorem mi_tab_grE_0 : ∀ e ∈ ([(215, (6, 0, sb_215))] : mi_T), sc_P e.1 = some e.2 := mi_tb mi_P215 (mi_tb_e)
set_option maxRecDepth 20000 in
theorem ms_grE_0 {h : sm_H} {d : Nat} {Q : Option mi_V → sm_H → Prop} {zu zn zk : Int} {zv : Int64} (hS : ab_Sh sx_sk h) (ok_zu : mi_in zu) (ok_zn : mi_in zn) (ok_zk : mi_in zk) (ho : (zn ≤ zk)) (kon : ∀ h1, me_W [] h h1 → me_E (d + 1) 215 76 [some (.inr (.inr 109)), some (.inl (zu)), some (.inl (zn)), some (.inr (.inl (zv))), none, some (.inl (zk))] [] h1 Q) : me_E (d + 1) 215 48 [some (.inr (.inr 109)), some (.inl (zu)), some (.inl (zn)), some (.inr (.inl (zv))), none, some (.inl (zk))] [] h Q := me_seg (mp_grE_0 h d zu zn zk zv) (mi_tab_grE_0) hS (mi_okL_c (trivial) (mi_okL_c (ok_zu) (mi_okL_c (ok_zn) (mi_okL_c (trivial) (mi_okL_n (mi_okL_c (ok_zk) (mi_okL_e))))))) (mi_okS_e) (mi_al (ho) (mi_al_e)) (fun h1 W _ hst => kon h1 W)
set_option maxRecDepth 20000 in
theorem mp_grE_1 (h : sm_H) (d : Nat) (zu zn zk : Int) (zv : Int64) : mi_path [(215, (6, 0, sb_215))] sx_sk h 7 [0] (d + 1, 215, 48, [some (.inr (.inr 109)), some (.inl (zu)), some (.inl (zn)), some (.inr (.inl (zv))), none, some (.inl (zk))], [], [], []) = some ((d + 1, 215, 58, [some (.inr (.inr 109)), some (.inl (zu)), some (.inl (zn)), some (.inr (.inl (zv))), none, some (.inl (zk))], [.inl ((3 : Int)), .inr (.inr 109), .inr (.inl (Int64.ofNat 1)), .inr (.inl (zv))], [], []), [zk < zn]) := rfl
theorem mi_tab_grE_1 : ∀ e ∈ ([(215, (6, 0, sb_215))] : mi_T), sc_P e.1 = some e.2 := mi_tb mi_P215 (mi_tb_e)
set_option maxRecDepth 20000 in
theorem ms_grE_1 {h : sm_H} {d : Nat} {Q : Option mi_V → sm_H → Prop} {zu zn zk : Int} {zv : Int64} (hS : ab_Sh sx_sk h) (ok_zu : mi_in zu) (ok_zn : mi_in zn) (ok_zk : mi_in zk) (ho : (zk < zn)) (kon : ∀ h1, me_W [] h h1 → ∃ Q1, me_E (d + 0) 211 0 (mi_entry 2 [.inr (.inr 109), .inl ((3 : Int))]) [] h1 Q1 ∧ ∀ w h2, (∀ x, w = some x → mi_ok x) → Q1 w h2 → me_E (d + 1) 215 61 [some (.inr (.inr 109)), some (.inl (zu)), some (.inl (zn)), some (.inr (.inl (zv))), none, some (.inl (zk))] (mi_back w [.inr (.inl (Int64.ofNat 1)), .inr (.inl (zv))]) h2 Q) : me_E (d + 1) 215 48 [some (.inr (.inr 109)), some (.inl (zu)), some (.inl (zn)), some (.inr (.inl (zv))), none, some (.inl (zk))] [] h Q := me_seg (mp_grE_1 h d zu zn zk zv) (mi_tab_grE_1) hS (mi_okL_c (trivial) (mi_okL_c (ok_zu) (mi_okL_c (ok_zn) (mi_okL_c (trivial) (mi_okL_n (mi_okL_c (ok_zk) (mi_okL_e))))))) (mi_okS_e) (mi_al (ho) (mi_al_e)) (fun h1 W _ hst => let ⟨_, k1, k2⟩ := kon h1 W; me_call (M := (6, 0, sb_215)) (M' := (2, 1, sb_211)) rfl rfl rfl rfl (Nat.le_of_ble_eq_true rfl) (Nat.le_of_ble_eq_true rfl) W.1 k1 k2)
set_option maxRecDepth 20000 in
theorem mt_grE {h : sm_H} {d : Nat} {Q : Option mi_V → sm_H → Prop} {zu zn zk : Int} {zv : Int64} (hS : ab_Sh sx_sk h) (ok_zu : mi_in zu) (ok_zn : mi_in zn) (ok_zk : mi_in zk) (k0 : (zn ≤ zk) → (∀ h1, ab_Sh sx_sk h1 → ab_Fr [] h h1 → me_E (d + 1) 215 76 [some (.inr (.inr 109)), some (.inl (zu)), some (.inl (zn)), some (.inr (.inl (zv))), none, some (.inl (zk))] [] h1 Q)) (k1 : (zk < zn) → (∀ h1, ab_Sh sx_sk h1 → ab_Fr [] h h1 → ∃ Q1, me_E (d + 0) 211 0 (mi_entry 2 [.inr (.inr 109), .inl ((3 : Int))]) [] h1 Q1 ∧ ∀ w h2, (∀ x, w = some x → mi_ok x) → Q1 w h2 → me_E (d + 1) 215 61 [some (.inr (.inr 109)), some (.inl (zu)), some (.inl (zn)), some (.inr (.inl (zv))), none, some (.inl (zk))] (mi_back w [.inr (.inl (Int64.ofNat 1)), .inr (.inl (zv))]) h2 Q)) : me_E (d + 1) 215 48 [some (.inr (.inr 109)), some (.inl (zu)), some (.inl (zn)), some (.inr (.inl (zv))), none, some (.inl (zk))] [] h Q := Or.elim (mi_em .ge (zk) (zn)) (fun c0 => ms_grE_0 hS ok_zu ok_zn ok_zk (c0) (fun h1 W => (k0 c0) h1 W.1 (W.2.2.2.2.2 _ rfl))) (fun c0 => ms_grE_1 hS ok_zu ok_zn ok_zk (c0) (fun h1 W => (k1 c0) h1 W.1 (W.2.2.2.2.2 _ rfl)))
set_option maxRecDepth 20000 in
theorem mp_grF_0 (h : sm_H) (d : Nat) (zu zn zk zz : Int) (zv zo : Int64) : mi_path [(215, (6, 0, sb_215))] sx_sk h 10 [] (d + 1, 215, 61, [some (.inr (.inr 109)), some (.inl (zu)), some (.inl (zn)), some (.inr (.inl (zv))), none, some (.inl (zk))], [.inl (zz), .inr (.inl (zo)), .inr (.inl (zv))], [], []) = some ((d + 1, 215, 48, [some (.inr (.inr 109)), some (.inl (zu)), some (.inl (zn)), some (.inr (.inl (zv ||| ((zo + ((Int32.ofInt zz).toInt64)) <<< ((Int32.ofInt (((5 : Int)) * zk)).toInt64 &&& 63))))), none, some (.inl (zk + 1))], [], [], []), [-2147483648 ≤ ((5 : Int)) * zk ∧ ((5 : Int)) * zk ≤ 2147483647, -2147483648 ≤ zk + 1 ∧ zk + 1 ≤ 2147483647]) := rfl
theorem mi_tab_grF_0 : ∀ e ∈ ([(215, (6, 0, sb_215))] : mi_T), sc_P e.1 = some e.2 := mi_tb mi_P215 (mi_tb_e)
set_option maxRecDepth 20000 in
theorem ms_grF_0 {h : sm_H} {d : Nat} {Q : Option mi_V → sm_H → Prop} {zu zn zk zz : Int} {zv zo : Int64} (hS : ab_Sh sx_sk h) (ok_zu : mi_in zu) (ok_zn : mi_in zn) (ok_zk : mi_in zk) (ok_zz : mi_in zz) (ho : (-2147483648 ≤ ((5 : Int)) * zk ∧ ((5 : Int)) * zk ≤ 2147483647) ∧ (-2147483648 ≤ zk + 1 ∧ zk + 1 ≤ 2147483647)) (kon : ∀ h1, me_W [] h h1 → me_E (d + 1) 215 48 [some (.inr (.inr 109)), some (.inl (zu)), some (.inl (zn)), some (.inr (.inl (zv ||| ((zo + ((Int32.ofInt zz).toInt64)) <<< ((Int32.ofInt (((5 : Int)) * zk)).toInt64 &&& 63))))), none, some (.inl (zk + 1))] [] h1 Q) : me_E (d + 1) 215 61 [some (.inr (.inr 109)), some (.inl (zu)), some (.inl (zn)), some (.inr (.inl (zv))), none, some (.inl (zk))] [.inl (zz), .inr (.inl (zo)), .inr (.inl (zv))] h Q := me_seg (mp_grF_0 h d zu zn zk zz zv zo) (mi_tab_grF_0) hS (mi_okL_c (trivial) (mi_okL_c (ok_zu) (mi_okL_c (ok_zn) (mi_okL_c (trivial) (mi_okL_n (mi_okL_c (ok_zk) (mi_okL_e))))))) (mi_okS_cons (ok_zz) (mi_okS_cons (trivial) (mi_okS_cons (trivial) (mi_okS_e)))) (mi_al (ho.1) (mi_al (ho.2) (mi_al_e))) (fun h1 W _ hst => kon h1 W)
set_option maxRecDepth 20000 in
theorem mt_grF {h : sm_H} {d : Nat} {Q : Option mi_V → sm_H → Prop} {zu zn zk zz : Int} {zv zo : Int64} (hS : ab_Sh sx_sk h) (ok_zu : mi_in zu) (ok_zn : mi_in zn) (ok_zk : mi_in zk) (ok_zz : mi_in zz) (k0 : ((-2147483648 ≤ ((5 : Int)) * zk ∧ ((5 : Int)) * zk ≤ 2147483647) ∧ (-2147483648 ≤ zk + 1 ∧ zk + 1 ≤ 2147483647)) ∧ (∀ h1, ab_Sh sx_sk h1 → ab_Fr [] h h1 → me_E (d + 1) 215 48 [some (.inr (.inr 109)), some (.inl (zu)), some (.inl (zn)), some (.inr (.inl (zv ||| ((zo + ((Int32.ofInt zz).toInt64)) <<< ((Int32.ofInt (((5 : Int)) * zk)).toInt64 &&& 63))))), none, some (.inl (zk + 1))] [] h1 Q)) : me_E (d + 1) 215 61 [some (.inr (.inr 109)), some (.inl (zu)), some (.inl (zn)), some (.inr (.inl (zv))), none, some (.inl (zk))] [.inl (zz), .inr (.inl (zo)), .inr (.inl (zv))] h Q := ms_grF_0 hS ok_zu ok_zn ok_zk ok_zz ⟨(k0).1.1, (k0).1.2⟩ (fun h1 W => (k0).2 h1 W.1 (W.2.2.2.2.2 _ rfl))
set_option maxRecDepth 20000 in
theorem mp_grG_0 (h : sm_H) (d : Nat) (zu zn zk : Int) (zv : Int64) : mi_path [(215, (6, 0, sb_215))] sx_sk h 2 [] (d + 1, 215, 76, [some (.inr (.inr 109)), some (.inl (zu)), some (.inl (zn)), some (.inr (.inl (zv))), none, some (.inl (zk))], [], [], []) = some ((d + 1, 215, 78, [some (.inr (.inr 109)), some (.inl (zu)), some (.inl (zn)), some (.inr (.inl (zv))), none, some (.inl (zk))], [.inr (.inl (zv)), .inr (.inr 109)], [], []), []) := rfl
theorem mi_tab_grG_0 : ∀ e ∈ ([(215, (6, 0, sb_215))] : mi_T), sc_P e.1 = some e.2 := mi_tb mi_P215 (mi_tb_e)
set_option maxRecDepth 20000 in
theorem ms_grG_0 {h : sm_H} {d : Nat} {Q : Option mi_V → sm_H → Prop} {zu zn zk : Int} {zv : Int64} (hS : ab_Sh sx_sk h) (ok_zu : mi_in zu) (ok_zn : mi_in zn) (ok_zk : mi_in zk) (kon : ∀ h1, me_W [] h h1 → ∃ Q1, me_E (d + 0) 216 0 (mi_entry 4 [.inr (.inr 109), .inr (.inl (zv))]) [] h1 Q1 ∧ ∀ w h2, (∀ x, w = some x → mi_ok x) → Q1 w h2 → me_E (d + 1) 215 81 [some (.inr (.inr 109)), some (.inl (zu)), some (.inl (zn)), some (.inr (.inl (zv))), none, some (.inl (zk))] (mi_back w []) h2 Q) : me_E (d + 1) 215 76 [some (.inr (.inr 109)), some (.inl (zu)), some (.inl (zn)), some (.inr (.inl (zv))), none, some (.inl (zk))] [] h Q := me_seg (mp_grG_0 h d zu zn zk zv) (mi_tab_grG_0) hS (mi_okL_c (trivial) (mi_okL_c (ok_zu) (mi_okL_c (ok_zn) (mi_okL_c (trivial) (mi_okL_n (mi_okL_c (ok_zk) (mi_okL_e))))))) (mi_okS_e) (mi_al_e) (fun h1 W _ hst => let ⟨_, k1, k2⟩ := kon h1 W; me_call (M := (6, 0, sb_215)) (M' := (4, 1, sb_216)) rfl rfl rfl rfl (Nat.le_of_ble_eq_true rfl) (Nat.le_of_ble_eq_true rfl) W.1 k1 k2)
set_option maxRecDepth 20000 in
theorem mt_grG {h : sm_H} {d : Nat} {Q : Option mi_V → sm_H → Prop} {zu zn zk : Int} {zv : Int64} (hS : ab_Sh sx_sk h) (ok_zu : mi_in zu) (ok_zn : mi_in zn) (ok_zk : mi_in zk) (k0 : (∀ h1, ab_Sh sx_sk h1 → ab_Fr [] h h1 → ∃ Q1, me_E (d + 0) 216 0 (mi_entry 4 [.inr (.inr 109), .inr (.inl (zv))]) [] h1 Q1 ∧ ∀ w h2, (∀ x, w = some x → mi_ok x) → Q1 w h2 → me_E (d + 1) 215 81 [some (.inr (.inr 109)), some (.inl (zu)), some (.inl (zn)), some (.inr (.inl (zv))), none, some (.inl (zk))] (mi_back w []) h2 Q)) : me_E (d + 1) 215 76 [some (.inr (.inr 109)), some (.inl (zu)), some (.inl (zn)), some (.inr (.inl (zv))), none, some (.inl (zk))] [] h Q := ms_grG_0 hS ok_zu ok_zn ok_zk (fun h1 W => (k0) h1 W.1 (W.2.2.2.2.2 _ rfl))
set_option maxRecDepth 20000 in
theorem mp_grH_0 (h : sm_H) (d : Nat) (zu zn zk zz : Int) (zv : Int64) : mi_path [(215, (6, 0, sb_215))] sx_sk h 4 [1] (d + 1, 215, 81, [some (.inr (.inr 109)), some (.inl (zu)), some (.inl (zn)), some (.inr (.inl (zv))), none, some (.inl (zk))], [.inl (zz)], [], []) = some ((d + 1, 215, 103, [some (.inr (.inr 109)), some (.inl (zu)), some (.inl (zn)), some (.inr (.inl (zv))), none, some (.inl (zk))], [.inr (.inl (zv)), .inl ((3 : Int)), .inr (.inr 109)], [], []), [zz < ((0 : Int))]) := rfl
theorem mi_tab_grH_0 : ∀ e ∈ ([(215, (6, 0, sb_215))] : mi_T), sc_P e.1 = some e.2 := mi_tb mi_P215 (mi_tb_e)
set_option maxRecDepth 20000 in
theorem ms_grH_0 {h : sm_H} {d : Nat} {Q : Option mi_V → sm_H → Prop} {zu zn zk zz : Int} {zv : Int64} (hS : ab_Sh sx_sk h) (ok_zu : mi_in zu) (ok_zn : mi_in zn) (ok_zk : mi_in zk) (ok_zz : mi_in zz) (ho : (zz < ((0 : Int)))) (kon : ∀ h1, me_W [] h h1 → ∃ Q1, me_E (d + 0) 208 0 (mi_entry 4 [.inr (.inr 109), .inl ((3 : Int)), .inr (.inl (zv))]) [] h1 Q1 ∧ ∀ w h2, (∀ x, w = some x → mi_ok x) → Q1 w h2 → me_E (d + 1) 215 106 [some (.inr (.inr 109)), some (.inl (zu)), some (.inl (zn)), some (.inr (.inl (zv))), none, some (.inl (zk))] (mi_back w []) h2 Q) : me_E (d + 1) 215 81 [some (.inr (.inr 109)), some (.inl (zu)), some (.inl (zn)), some (.inr (.inl (zv))), none, some (.inl (zk))] [.inl (zz)] h Q := me_seg (mp_grH_0 h d zu zn zk zz zv) (mi_tab_grH_0) hS (mi_okL_c (trivial) (mi_okL_c (ok_zu) (mi_okL_c (ok_zn) (mi_okL_c (trivial) (mi_okL_n (mi_okL_c (ok_zk) (mi_okL_e))))))) (mi_okS_cons (ok_zz) (mi_okS_e)) (mi_al (ho) (mi_al_e)) (fun h1 W _ hst => let ⟨_, k1, k2⟩ := kon h1 W; me_call (M := (6, 0, sb_215)) (M' := (4, 1, sb_208)) rfl rfl rfl rfl (Nat.le_of_ble_eq_true rfl) (Nat.le_of_ble_eq_true rfl) W.1 k1 k2)
set_option maxRecDepth 20000 in
theorem mp_grH_1 (h : sm_H) (d : Nat) (zu zn zk zz : Int) (zv : Int64) : mi_path [(215, (6, 0, sb_215))] sx_sk h 11 [0] (d + 1, 215, 81, [some (.inr (.inr 109)), some (.inl (zu)), some (.inl (zn)), some (.inr (.inl (zv))), none, some (.inl (zk))], [.inl (zz)], [], []) = some ((d + 1, 215, 76, [some (.inr (.inr 109)), some (.inl (zu)), some (.inl (zn + 1)), some (.inr (.inl (zv ||| ((Int64.ofNat 26) <<< ((Int32.ofInt (((5 : Int)) * zn)).toInt64 &&& 63))))), none, some (.inl (zk))], [], [], []), [((0 : Int)) ≤ zz, -2147483648 ≤ ((5 : Int)) * zn ∧ ((5 : Int)) * zn ≤ 2147483647, -2147483648 ≤ zn + 1 ∧ zn + 1 ≤ 2147483647]) := rfl
theorem mi_tab_grH_1 : ∀ e ∈ ([(215, (6, 0, sb_215))] : mi_T), sc_P e.1 = some e.2 := mi_tb mi_P215 (mi_tb_e)
set_option maxRecDepth 20000 in
theorem ms_grH_1 {h : sm_H} {d : Nat} {Q : Option mi_V → sm_H → Prop} {zu zn zk zz : Int} {zv : Int64} (hS : ab_Sh sx_sk h) (ok_zu : mi_in zu) (ok_zn : mi_in zn) (ok_zk : mi_in zk) (ok_zz : mi_in zz) (ho : (((0 : Int)) ≤ zz) ∧ (-2147483648 ≤ ((5 : Int)) * zn ∧ ((5 : Int)) * zn ≤ 2147483647) ∧ (-2147483648 ≤ zn + 1 ∧ zn + 1 ≤ 2147483647)) (kon : ∀ h1, me_W [] h h1 → me_E (d + 1) 215 76 [some (.inr (.inr 109)), some (.inl (zu)), some (.inl (zn + 1)), some (.inr (.inl (zv ||| ((Int64.ofNat 26) <<< ((Int32.ofInt (((5 : Int)) * zn)).toInt64 &&& 63))))), none, some (.inl (zk))] [] h1 Q) : me_E (d + 1) 215 81 [some (.inr (.inr 109)), some (.inl (zu)), some (.inl (zn)), some (.inr (.inl (zv))), none, some (.inl (zk))] [.inl (zz)] h Q := me_seg (mp_grH_1 h d zu zn zk zz zv) (mi_tab_grH_1) hS (mi_okL_c (trivial) (mi_okL_c (ok_zu) (mi_okL_c (ok_zn) (mi_okL_c (trivial) (mi_okL_n (mi_okL_c (ok_zk) (mi_okL_e))))))) (mi_okS_cons (ok_zz) (mi_okS_e)) (mi_al (ho.1) (mi_al (ho.2.1) (mi_al (ho.2.2) (mi_al_e)))) (fun h1 W _ hst => kon h1 W)
set_option maxRecDepth 20000 in
theorem mt_grH {h : sm_H} {d : Nat} {Q : Option mi_V → sm_H → Prop} {zu zn zk zz : Int} {zv : Int64} (hS : ab_Sh sx_sk h) (ok_zu : mi_in zu) (ok_zn : mi_in zn) (ok_zk : mi_in zk) (ok_zz : mi_in zz) (k0 : (zz < ((0 : Int))) → (∀ h1, ab_Sh sx_sk h1 → ab_Fr [] h h1 → ∃ Q1, me_E (d + 0) 208 0 (mi_entry 4 [.inr (.inr 109), .inl ((3 : Int)), .inr (.inl (zv))]) [] h1 Q1 ∧ ∀ w h2, (∀ x, w = some x → mi_ok x) → Q1 w h2 → me_E (d + 1) 215 106 [some (.inr (.inr 109)), some (.inl (zu)), some (.inl (zn)), some (.inr (.inl (zv))), none, some (.inl (zk))] (mi_back w []) h2 Q)) (k1 : (((0 : Int)) ≤ zz) → ((-2147483648 ≤ ((5 : Int)) * zn ∧ ((5 : Int)) * zn ≤ 2147483647) ∧ (-2147483648 ≤ zn + 1 ∧ zn + 1 ≤ 2147483647)) ∧ (∀ h1, ab_Sh sx_sk h1 → ab_Fr [] h h1 → me_E (d + 1) 215 76 [some (.inr (.inr 109)), some (.inl (zu)), some (.inl (zn + 1)), some (.inr (.inl (zv ||| ((Int64.ofNat 26) <<< ((Int32.ofInt (((5 : Int)) * zn)).toInt64 &&& 63))))), none, some (.inl (zk))] [] h1 Q)) : me_E (d + 1) 215 81 [some (.inr (.inr 109)), some (.inl (zu)), some (.inl (zn)), some (.inr (.inl (zv))), none, some (.inl (zk))] [.inl (zz)] h Q := Or.elim (mi_em .lt (zz) (((0 : Int)))) (fun c0 => ms_grH_0 hS ok_zu ok_zn ok_zk ok_zz (c0) (fun h1 W => (k0 c0) h1 W.1 (W.2.2.2.2.2 _ rfl))) (fun c0 => ms_grH_1 hS ok_zu ok_zn ok_zk ok_zz ⟨c0, (k1 c0).1.1, (k1 c0).1.2⟩ (fun h1 W => (k1 c0).2 h1 W.1 (W.2.2.2.2.2 _ rfl)))
set_option maxRecDepth 20000 in
theorem mp_grI_0 (h : sm_H) (d : Nat) (zu zn zk zw : Int) (zv : Int64) : mi_path [(215, (6, 0, sb_215))] sx_sk h 1 [] (d + 1, 215, 106, [some (.inr (.inr 109)), some (.inl (zu)), some (.inl (zn)), some (.inr (.inl (zv))), none, some (.inl (zk))], [.inl (zw)], [], []) = some ((d + 1, 215, 107, [some (.inr (.inr 109)), some (.inl (zu)), some (.inl (zn)), some (.inr (.inl (zv))), none, some (.inl (zk))], [], [], []), []) := rfl
theorem mi_tab_grI_0 : ∀ e ∈ ([(215, (6, 0, sb_215))] : mi_T), sc_P e.1 = some e.2 := mi_tb mi_P215 (mi_tb_e)
set_option maxRecDepth 20000 in
theorem ms_grI_0 {h : sm_H} {d : Nat} {Q : Option mi_V → sm_H → Prop} {zu zn zk zw : Int} {zv : Int64} (hS : ab_Sh sx_sk h) (ok_zu : mi_in zu) (ok_zn : mi_in zn) (ok_zk : mi_in zk) (ok_zw : mi_in zw) (kon : ∀ h1, me_W [] h h1 → Q none h1) : me_E (d + 1) 215 106 [some (.inr (.inr 109)), some (.inl (zu)), some (.inl (zn)), some (.inr (.inl (zv))), none, some (.inl (zk))] [.inl (zw)] h Q := me_seg (mp_grI_0 h d zu zn zk zw zv) (mi_tab_grI_0) hS (mi_okL_c (trivial) (mi_okL_c (ok_zu) (mi_okL_c (ok_zn) (mi_okL_c (trivial) (mi_okL_n (mi_okL_c (ok_zk) (mi_okL_e))))))) (mi_okS_cons (ok_zw) (mi_okS_e)) (mi_al_e) (fun h1 W _ hst => me_ret (M := (6, 0, sb_215)) rfl rfl rfl hst (mi_al_e) (kon h1 W))
set_option maxRecDepth 20000 in
theorem mt_grI {h : sm_H} {d : Nat} {Q : Option mi_V → sm_H → Prop} {zu zn zk zw : Int} {zv : Int64} (hS : ab_Sh sx_sk h) (ok_zu : mi_in zu) (ok_zn : mi_in zn) (ok_zk : mi_in zk) (ok_zw : mi_in zw) (k0 : (∀ h1, ab_Sh sx_sk h1 → ab_Fr [] h h1 → Q none h1)) : me_E (d + 1) 215 106 [some (.inr (.inr 109)), some (.inl (zu)), some (.inl (zn)), some (.inr (.inl (zv))), none, some (.inl (zk))] [.inl (zw)] h Q := ms_grI_0 hS ok_zu ok_zn ok_zk ok_zw (fun h1 W => (k0) h1 W.1 (W.2.2.2.2.2 _ rfl))
/-! THE WALK'S MACHINE: what lies on the stack -/
def wk_st (h : sm_H) : Nat → List wk_E
  | 0 => []
  | n + 1 => (mi_a h 165 n, mi_a h 166 n, mi_a h 167 n) :: wk_st h n
def wk_stk (h : sm_H) : List wk_E := wk_st h (mi_f h 14029).toNat
theorem wk_st_len (h : sm_H) : ∀ n, (wk_st h n).length = n := by
  intro n
  induction n with
  | zero => rfl
  | succ n ih => unfold wk_st; rw [List.length_cons, ih]
theorem wk_stk_len {h : sm_H} (h0 : 0 ≤ mi_f h 14029) : ((wk_stk h).length : Int) = mi_f h 14029 := by
  unfold wk_stk
  rw [wk_st_len]
  omega
theorem wk_st_eq {h h' : sm_H} : ∀ n, (∀ i, i < n → mi_a h' 165 i = mi_a h 165 i ∧ mi_a h' 166 i = mi_a h 166 i ∧ mi_a h' 167 i = mi_a h 167 i) → wk_st h' n = wk_st h n := by
  intro n
  induction n with
  | zero => intro _; rfl
  | succ n ih =>
    intro hi
    unfold wk_st
    obtain ⟨e1, e2, e3⟩ := hi n (Nat.lt_succ_self n)
    rw [ih (fun i h => hi i (Nat.lt_succ_of_lt h)), e1, e2, e3]
section WKP
variable {h h' : sm_H} {z0 z1 z2 y0 y1 y2 : Int}
theorem wk_push1 (t0 : 0 ≤ mi_f h 14029) (ht : mi_f h' 14029 = mi_f h 14029 + 1) (a5 : ∀ i, mi_a h' 165 i = if i = Int.toNat (mi_f h 14029) then z0 else mi_a h 165 i) (a6 : ∀ i, mi_a h' 166 i = if i = Int.toNat (mi_f h 14029) then z1 else mi_a h 166 i) (a7 : ∀ i, mi_a h' 167 i = if i = Int.toNat (mi_f h 14029) then z2 else mi_a h 167 i) : wk_stk h' = (z0, z1, z2) :: wk_stk h := by
  unfold wk_stk
  have e : (mi_f h' 14029).toNat = (mi_f h 14029).toNat + 1 := by rw [ht]; omega
  rw [e]
  show (mi_a h' 165 _, mi_a h' 166 _, mi_a h' 167 _) :: wk_st h' _ = _
  rw [a5, a6, a7, if_pos rfl, if_pos rfl, if_pos rfl]
  refine congrArg _ (wk_st_eq _ (fun i hi => ?_))
  have ne : ¬ i = (mi_f h 14029).toNat := by omega
  rw [a5, a6, a7, if_neg ne, if_neg ne, if_neg ne]
  exact ⟨rfl, rfl, rfl⟩
theorem wk_push2 (t0 : 0 ≤ mi_f h 14029) (ht : mi_f h' 14029 = mi_f h 14029 + 1 + 1) (a5 : ∀ i, mi_a h' 165 i = if i = Int.toNat (mi_f h 14029 + 1) then y0 else if i = Int.toNat (mi_f h 14029) then z0 else mi_a h 165 i) (a6 : ∀ i, mi_a h' 166 i = if i = Int.toNat (mi_f h 14029 + 1) then y1 else if i = Int.toNat (mi_f h 14029) then z1 else mi_a h 166 i) (a7 : ∀ i, mi_a h' 167 i = if i = Int.toNat (mi_f h 14029 + 1) then y2 else if i = Int.toNat (mi_f h 14029) then z2 else mi_a h 167 i) : wk_stk h' = (y0, y1, y2) :: (z0, z1, z2) :: wk_stk h := by
  unfold wk_stk
  have e : (mi_f h' 14029).toNat = (mi_f h 14029).toNat + 1 + 1 := by rw [ht]; omega
  have e1 : (mi_f h 14029 + 1).toNat = (mi_f h 14029).toNat + 1 := by omega
  rw [e]
  show (mi_a h' 165 _, mi_a h' 166 _, mi_a h' 167 _) :: (mi_a h' 165 _, mi_a h' 166 _, mi_a h' 167 _) :: wk_st h' _ = _
  have n1 : ¬ (mi_f h 14029).toNat = (mi_f h 14029).toNat + 1 := by omega
  rw [a5 ((mi_f h 14029).toNat + 1), a6 ((mi_f h 14029).toNat + 1), a7 ((mi_f h 14029).toNat + 1), a5 (mi_f h 14029).toNat, a6 (mi_f h 14029).toNat, a7 (mi_f h 14029).toNat, e1, if_pos rfl, if_pos rfl, if_pos rfl, if_neg n1, if_neg n1, if_neg n1, if_pos rfl, if_pos rfl, if_pos rfl]
  refine congrArg _ (congrArg _ (wk_st_eq _ (fun i hi => ?_)))
  have ne : ¬ i = (mi_f h 14029).toNat := by omega
  have ne1 : ¬ i = (mi_f h 14029 + 1).toNat := by omega
  rw [a5, a6, a7, if_neg ne, if_neg ne, if_neg ne, if_neg ne1, if_neg ne1, if_neg ne1]
  exact ⟨rfl, rfl, rfl⟩
/-- the same stack -/
theorem wk_stk_fr {wr : List (Nat × Nat)} (hF : ab_Fr wr h h') (hS : ab_Sh sx_sk h) (hw : (ab_in wr 14029 || ab_in wr 21120 || ab_in wr 21248 || ab_in wr 21376) = false) : wk_stk h' = wk_stk h := by
  simp only [Bool.or_eq_false_iff] at hw
  unfold wk_stk
  rw [me_f (c := 14029) hF hS rfl hw.1.1.1]
  exact wk_st_eq _ (fun i _ => ⟨me_a (k := 165) hF hS rfl hw.1.1.2, me_a (k := 166) hF hS rfl hw.1.2, me_a (k := 167) hF hS rfl hw.2⟩)
end WKP
/-- how many nodes there are, their kinds and values, by the mode -/
def wk_n (μ : Int) (h : sm_H) : Int := if μ = 2 then mi_f h 14033 else mi_f h 14016
def wk_K (μ : Int) (h : sm_H) (k : Nat) : Int := if μ = 2 then mi_a h 155 k else mi_a h 158 k
def wk_V (μ : Int) (h : sm_H) (k : Nat) : Int := if μ = 2 then (mx_b h 162 k).toInt else (mx_b h 163 k).toInt
/-- nodes below n stay -/
def wk_ag (μ : Int) (n : Int) (h h' : sm_H) : Prop := ∀ i : Nat, (i : Int) < n → wk_K μ h' i = wk_K μ h i ∧ wk_V μ h' i = wk_V μ h i
/-- a node comes -/
def wk_ev (μ k v : Int) (h h' : sm_H) : Prop := wk_n μ h' = wk_n μ h + 1 ∧ wk_ag μ (wk_n μ h) h h' ∧ (μ ≠ 2 → wk_K μ h' (wk_n μ h).toNat = k ∧ wk_V μ h' (wk_n μ h).toNat = v ∧ mi_f h' 14033 = mi_f h 14033) ∧ (μ = 2 → mi_f h' 14016 = mi_f h 14016)
/-- no node comes -/
def wk_ne (μ : Int) (h h' : sm_H) : Prop := mi_f h' 14033 = mi_f h 14033 ∧ mi_f h' 14016 = mi_f h 14016 ∧ wk_ag μ (wk_n μ h) h h'
def wr_W1 : List (Nat × Nat) := [(14016, 14017), (14029, 14030), (14031, 14038), (14044, 14048), (18560, 18561), (20224, 20481), (20864, 20865), (21120, 21377), (21760, 21761)]
theorem wk_ne_n {μ : Int} {h h' : sm_H} (hn : wk_ne μ h h') : wk_n μ h' = wk_n μ h := by
  unfold wk_n
  rw [hn.1, hn.2.1]
theorem wk_ag_fr {μ n : Int} {h h' : sm_H} {wr : List (Nat × Nat)} (hF : ab_Fr wr h h') (hS : ab_Sh sx_sk h) (hw : (ab_in wr 19840 || ab_in wr 20224 || ab_in wr 20736 || ab_in wr 20864) = false) : wk_ag μ n h h' := by
  simp only [Bool.or_eq_false_iff] at hw
  intro i _
  unfold wk_K wk_V
  rw [me_a (k := 155) hF hS rfl hw.1.1.1, me_a (k := 158) hF hS rfl hw.1.1.2, me_b (k := 162) hF hS rfl hw.1.2, me_b (k := 163) hF hS rfl hw.2]
  exact ⟨rfl, rfl⟩
theorem wk_ne_fr {μ : Int} {h h' : sm_H} {wr : List (Nat × Nat)} (hF : ab_Fr wr h h') (hS : ab_Sh sx_sk h) (hw : (ab_in wr 14033 || ab_in wr 14016 || ab_in wr 19840 || ab_in wr 20224 || ab_in wr 20736 || ab_in wr 20864) = false) : wk_ne μ h h' := by
  have hw2 := hw
  simp only [Bool.or_eq_false_iff] at hw2
  refine ⟨me_f (c := 14033) hF hS rfl hw2.1.1.1.1.1, me_f (c := 14016) hF hS rfl hw2.1.1.1.1.2, wk_ag_fr hF hS ?_⟩
  simp only [Bool.or_eq_false_iff]
  exact ⟨⟨⟨hw2.1.1.1.2, hw2.1.1.2⟩, hw2.1.2⟩, hw2.2⟩
theorem wk_ag.trans {μ n n' : Int} {h h' h2 : sm_H} (a : wk_ag μ n h h') (b : wk_ag μ n' h' h2) (hn : n ≤ n') : wk_ag μ n h h2 := fun i hi => by
  obtain ⟨a1, a2⟩ := a i hi
  obtain ⟨b1, b2⟩ := b i (by omega)
  exact ⟨b1.trans a1, b2.trans a2⟩
/-- comes -/
theorem me_comes {h : sm_H} {d : Nat} {zk : Int} {zv : Int64} (μ : Int) (hS : ab_Sh sx_sk h) (ok_zk : mi_in zk) (hm : mi_f h 14028 = μ) (hn : μ = 2 → mi_f h 14033 ≤ 1000) : me_E d 208 0 [some (.inr (.inr 109)), some (.inl zk), some (.inr (.inl zv)), none] [] h (fun w h' => ab_Sh sx_sk h' ∧ ab_Fr [(14016, 14017), (14033, 14034), (14044, 14045), (20224, 20225), (20352, 20353), (20480, 20481), (20864, 20865)] h h' ∧ ((μ ≠ 2 ∧ mi_f h' 14044 = 1 ∧ w = some (.inl 0) ∧ mi_f h' 14033 = mi_f h 14033 ∧ mi_f h' 14016 = mi_f h 14016) ∨ ((μ = 2 → mi_f h' 14044 = mi_f h 14044) ∧ (μ ≠ 2 → mi_f h' 14044 = 0) ∧ wk_ev μ zk zv.toInt h h' ∧ w = some (.inl (wk_n μ h))))) := by
  refine mt_comes hS ok_zk ?_ ?_ ?_
  · intro b1 b2 c1 c2
    refine ⟨by omega, fun h1 g1 g2 g3 g4 g5 g6 g7 g8 => ?_⟩
    have hμ : μ ≠ 2 := by omega
    refine ⟨g1, g8.wide (fun c hc => ab_swr_ok (by decide) hc), Or.inr ⟨fun e => absurd e hμ, fun _ => g3, ⟨?_, ?_, fun _ => ⟨?_, ?_, ?_⟩, fun e => absurd e hμ⟩, ?_⟩⟩
    · unfold wk_n; rw [if_neg hμ, if_neg hμ]; exact g2
    · intro i hi
      unfold wk_n at hi
      rw [if_neg hμ] at hi
      have ne : ¬ i = Int.toNat (mi_f h 14016) := by omega
      unfold wk_K wk_V
      rw [if_neg hμ, if_neg hμ, if_neg hμ, if_neg hμ, g4, g7, if_neg ne, if_neg ne]
      exact ⟨rfl, rfl⟩
    · unfold wk_K wk_n; rw [if_neg hμ, if_neg hμ, g4, if_pos rfl]
    · unfold wk_V wk_n; rw [if_neg hμ, if_neg hμ, g7, if_pos rfl]
    · exact me_f (c := 14033) g8 hS rfl rfl
    · unfold wk_n; rw [if_neg hμ]
  · intro b1 b2 c1 c2 h1 g1 g2 g3
    have hμ : μ ≠ 2 := by omega
    exact ⟨g1, g3.wide (fun c hc => ab_swr_ok (by decide) hc), Or.inl ⟨hμ, g2, rfl, me_f (c := 14033) g3 hS rfl rfl, me_f (c := 14016) g3 hS rfl rfl⟩⟩
  · intro b1 b2 c1
    have hμ : μ = 2 := by omega
    have hn := hn hμ
    refine ⟨by omega, fun h1 g1 g2 g3 => ?_⟩
    refine ⟨g1, g3.wide (fun c hc => ab_swr_ok (by decide) hc), Or.inr ⟨fun _ => me_f (c := 14044) g3 hS rfl rfl, fun e => absurd hμ e, ⟨?_, wk_ag_fr g3 hS rfl, fun e => absurd hμ e, fun _ => me_f (c := 14016) g3 hS rfl rfl⟩, ?_⟩⟩
    · unfold wk_n; rw [if_pos hμ, if_pos hμ]; exact g2
    · unfold wk_n; rw [if_pos hμ]
/-- enter -/
theorem me_enter {h : sm_H} {d : Nat} {zr : Int} (μ : Int) (hS : ab_Sh sx_sk h) (hm : mi_f h 14028 = μ) (hr0 : 0 ≤ zr) (hr1 : zr < 10) (ht0 : 0 ≤ mi_f h 14029) (ht1 : mi_f h 14029 ≤ 2990) (hu0 : 0 ≤ mi_f h 14032) (hu1 : mi_f h 14032 ≤ 12) (hu2 : μ = 2 → mi_f h 14032 < 12 ∧ mi_f h 14033 ≤ 1000) : me_E (d + 2) 207 0 [some (.inr (.inr 109)), some (.inl zr)] [] h (fun w h' => w = none ∧ ab_Sh sx_sk h' ∧ ab_Fr wr_W1 h h' ∧ mi_f h' 14034 = mi_f h 14034 ∧ (mi_f h' 14044 = 1 ∨ (mi_f h' 14044 = 0 ∧ mi_f h 14032 < 12 ∧ mi_f h' 14032 = mi_f h 14032 + 1 ∧ mi_f h' 14029 = mi_f h 14029 + 2 ∧ wk_stk h' = (1, mi_a h 114 zr.toNat, 0) :: (2, 1, 0) :: wk_stk h ∧ wk_ev μ 1 zr h h'))) := by
  have ok : mi_in zr := ⟨by omega, by omega⟩
  have ez : ((Int32.ofInt zr).toInt64).toInt = zr := by rw [Int32.toInt_toInt64, mi_ti ok]
  have main : ∀ h1, mi_f h 14032 < 12 → ab_Sh sx_sk h1 → mi_f h1 14044 = 0 → ab_Fr [(14035, 14036), (14044, 14045)] h h1 → ∃ Q1, me_E (d + 1) 208 0 (mi_entry 4 [.inr (.inr 109), .inl (1 : Int), .inr (.inl (Int32.ofInt zr).toInt64)]) [] h1 Q1 ∧ ∀ w h2, (∀ x, w = some x → mi_ok x) → Q1 w h2 → me_E (d + 2) 207 51 [some (.inr (.inr 109)), some (.inl zr)] (mi_back w []) h2 (fun w h' => w = none ∧ ab_Sh sx_sk h' ∧ ab_Fr wr_W1 h h' ∧ mi_f h' 14034 = mi_f h 14034 ∧ (mi_f h' 14044 = 1 ∨ (mi_f h' 14044 = 0 ∧ mi_f h 14032 < 12 ∧ mi_f h' 14032 = mi_f h 14032 + 1 ∧ mi_f h' 14029 = mi_f h 14029 + 2 ∧ wk_stk h' = (1, mi_a h 114 zr.toNat, 0) :: (2, 1, 0) :: wk_stk h ∧ wk_ev μ 1 zr h h'))) := by
    intro h1 hlt g1 g2 g3
    have f28 : mi_f h1 14028 = mi_f h 14028 := me_f (c := 14028) g3 hS rfl rfl
    have f33 : mi_f h1 14033 = mi_f h 14033 := me_f (c := 14033) g3 hS rfl rfl
    have f29 : mi_f h1 14029 = mi_f h 14029 := me_f (c := 14029) g3 hS rfl rfl
    have f32 : mi_f h1 14032 = mi_f h 14032 := me_f (c := 14032) g3 hS rfl rfl
    have f34 : mi_f h1 14034 = mi_f h 14034 := me_f (c := 14034) g3 hS rfl rfl
    have f16 : mi_f h1 14016 = mi_f h 14016 := me_f (c := 14016) g3 hS rfl rfl
    have fst : wk_stk h1 = wk_stk h := wk_stk_fr g3 hS rfl
    refine ⟨_, me_comes μ g1 ⟨by decide, by decide⟩ (f28.trans hm) (fun e => by have := hu2 e; omega), ?_⟩
    intro w h2 hw hq
    obtain ⟨q1, q2, q3⟩ := hq
    have k29 : mi_f h2 14029 = mi_f h1 14029 := me_f (c := 14029) q2 g1 rfl rfl
    have k32 : mi_f h2 14032 = mi_f h1 14032 := me_f (c := 14032) q2 g1 rfl rfl
    have k34 : mi_f h2 14034 = mi_f h1 14034 := me_f (c := 14034) q2 g1 rfl rfl
    have kst : wk_stk h2 = wk_stk h1 := wk_stk_fr q2 g1 rfl
    have k114 : mi_a h2 114 zr.toNat = mi_a h 114 zr.toNat := (me_a (k := 114) q2 g1 rfl rfl).trans (me_a (k := 114) g3 hS rfl rfl)
    have hz : ∃ z, w = some (.inl z) := by
      rcases q3 with q3 | q3
      · exact ⟨_, q3.2.2.1⟩
      · exact ⟨_, q3.2.2.2⟩
    obtain ⟨z, rfl⟩ := hz
    refine mt_enB q1 ok (hw _ rfl) ?_
    intro b1 b2
    refine ⟨by omega, ?_⟩
    intro h3 r1 r29 r31 r32 a5 a6 a7 r4
    have l34 : mi_f h3 14034 = mi_f h2 14034 := me_f (c := 14034) r4 q1 rfl rfl
    have l44 : mi_f h3 14044 = mi_f h2 14044 := me_f (c := 14044) r4 q1 rfl rfl
    have l33 : mi_f h3 14033 = mi_f h2 14033 := me_f (c := 14033) r4 q1 rfl rfl
    have l16 : mi_f h3 14016 = mi_f h2 14016 := me_f (c := 14016) r4 q1 rfl rfl
    have hFr : ab_Fr wr_W1 h h3 := ((g3.wide (fun c hc => ab_swr_ok (by decide) hc)).trans (q2.wide (fun c hc => ab_swr_ok (by decide) hc))).trans (r4.wide (fun c hc => ab_swr_ok (by decide) hc))
    refine ⟨rfl, r1, hFr, by rw [l34, k34, f34], ?_⟩
    rcases q3 with q3 | q3
    · exact Or.inl (by rw [l44]; exact q3.2.1)
    · obtain ⟨p1, p2, p3, -⟩ := q3
      refine Or.inr ⟨?_, hlt, by omega, by omega, ?_, ?_⟩
      · rw [l44]
        by_cases hμ : μ = 2
        · rw [p1 hμ]; exact g2
        · exact p2 hμ
      · have := wk_push2 (by omega) r29 a5 a6 a7
        rw [k114, kst, fst] at this
        exact this
      · rw [ez] at p3
        have agA : wk_ag μ (wk_n μ h) h h1 := wk_ag_fr g3 hS rfl
        have agC : wk_ag μ (wk_n μ h2) h2 h3 := wk_ag_fr r4 q1 rfl
        have nA : wk_n μ h1 = wk_n μ h := by unfold wk_n; rw [f33, f16]
        have nC : wk_n μ h3 = wk_n μ h2 := by unfold wk_n; rw [l33, l16]
        obtain ⟨e1, e2, e3, e4⟩ := p3
        rw [nA] at e1 e2 e3
        have h16 := me_fb (c := 14016) hS rfl
        have hn0 : μ ≠ 2 → 0 ≤ wk_n μ h := fun e => by unfold wk_n; rw [if_neg e]; exact h16.1
        refine ⟨by rw [nC]; exact e1, (agA.trans e2 (Int.le_refl _)).trans agC (by omega), fun e => ?_, fun e => by rw [l16, e4 e, f16]⟩
        obtain ⟨x1, x2, x3⟩ := e3 e
        have hlt2 : ((wk_n μ h).toNat : Int) < wk_n μ h2 := by have := hn0 e; omega
        obtain ⟨y1, y2⟩ := agC _ hlt2
        exact ⟨y1.trans x1, y2.trans x2, by rw [l33, x3, f33]⟩
  refine mt_enA hS ok ?_ ?_ ?_
  · intro b1 c1 h1 g1 g2 g3 g4
    exact main h1 (by omega) g1 g3 g4
  · intro b1 b2 c1 c2
    exfalso
    have := hu2 (by omega)
    omega
  · intro b1 b2 c1 c2 h1 g1 g2 g3
    exact ⟨rfl, g1, g3.wide (fun c hc => ab_swr_ok (by decide) hc), me_f (c := 14034) g3 hS rfl rfl, Or.inl g2⟩
/-- draw -/
theorem dr_x (C : Int64) : 0 ≤ ((C.toUInt64 >>> ((Int32.ofInt ((33 : Int))).toInt64.toUInt64 &&& Int64.toUInt64 63)).toInt64).toInt ∧ ((C.toUInt64 >>> ((Int32.ofInt ((33 : Int))).toInt64.toUInt64 &&& Int64.toUInt64 63)).toInt64).toInt < 2147483648 := by
  have e : ((Int32.ofInt ((33 : Int))).toInt64.toUInt64 &&& Int64.toUInt64 63) = 33 := by decide
  rw [e]
  have hn : (C.toUInt64 >>> 33).toNat < 2147483648 := by
    rw [UInt64.toNat_shiftRight]
    have h1 : C.toUInt64.toNat < 2 ^ 64 := C.toUInt64.toNat_lt
    have h2 : (33 : UInt64).toNat % 64 = 33 := by decide
    rw [h2, Nat.shiftRight_eq_div_pow]
    omega
  have h2 : ((C.toUInt64 >>> 33).toInt64).toInt = ((C.toUInt64 >>> 33).toNat : Int) := by
    show (C.toUInt64 >>> 33).toBitVec.toInt = _
    exact BitVec.toInt_eq_toNat_of_lt (by show 2 * (C.toUInt64 >>> 33).toNat < 2 ^ 64; omega)
  omega
theorem dr_mod {X Y : Int64} (x0 : 0 ≤ X.toInt) (x1 : X.toInt < 2147483648) (y0 : 0 < Y.toInt) : (X - X / Y * Y).toInt32.toInt = X.toInt % Y.toInt := by
  have q0 : 0 ≤ X.toInt / Y.toInt := Int.ediv_nonneg x0 (by omega)
  have q1 : X.toInt / Y.toInt ≤ X.toInt := Int.ediv_le_self _ x0
  have p0 : 0 ≤ X.toInt / Y.toInt * Y.toInt := Int.mul_nonneg q0 (by omega)
  have p1 : X.toInt / Y.toInt * Y.toInt ≤ X.toInt := Int.ediv_mul_le _ (by omega)
  have e1 : (X / Y).toInt = X.toInt / Y.toInt := by
    rw [Int64.toInt_div, Int.tdiv_eq_ediv_of_nonneg x0]
    exact Int.bmod_eq_of_le (by omega) (by omega)
  have e2 : (X / Y * Y).toInt = X.toInt / Y.toInt * Y.toInt := by
    rw [Int64.toInt_mul, e1]
    exact Int.bmod_eq_of_le (by omega) (by omega)
  have e3 : (X - X / Y * Y).toInt = X.toInt - X.toInt / Y.toInt * Y.toInt := by
    rw [Int64.toInt_sub, e2]
    exact Int.bmod_eq_of_le (by omega) (by omega)
  rw [Int64.toInt_toInt32, e3, Int.bmod_eq_of_le (by omega) (by omega), Int.emod_def, Int.mul_comm]
theorem me_draw {h : sm_H} {d : Nat} {zn : Int} (hS : ab_Sh sx_sk h) (h0 : 0 < zn) (h1 : zn ≤ 2147483647) : me_E d 211 0 [some (.inr (.inr 109)), some (.inl zn)] [] h (fun w h' => ab_Sh sx_sk h' ∧ ab_Fr [(14047, 14048)] h h' ∧ ∃ z, w = some (.inl z) ∧ 0 ≤ z ∧ z < zn) := by
  have ok : mi_in zn := ⟨by omega, by omega⟩
  have ey : ((Int32.ofInt zn).toInt64).toInt = zn := by rw [Int32.toInt_toInt64, mi_ti ok]
  refine mt_draw hS ok ⟨fun e => ?_, fun h1 g1 g2 g3 => ⟨g1, g3, _, rfl, ?_⟩⟩
  · rw [e] at ey
    have : (0 : Int64).toInt = 0 := rfl
    omega
  · obtain ⟨x0, x1⟩ := dr_x (((mx_l h 14047) * (Int64.ofNat 6364136223846793005)) + (Int64.ofNat 1442695040888963407))
    rw [dr_mod x0 x1 (by rw [ey]; exact h0), ey]
    exact ⟨Int.emod_nonneg _ (by omega), Int.emod_lt_of_pos _ h0⟩
/-! match, grown -/
section MAT
variable {h : sm_H} {d : Nat} {zu : Int}
/-- a token is matched: what is said of it -/
def wk_tok (μ : Int) (h : sm_H) : Prop := μ = 0 → 0 ≤ mi_f h 14033 ∧ mi_f h 14033 ≤ mi_f h 14011 ∧ mi_a h 152 (mi_f h 14011).toNat = 0
/-- nodes of a number, of a name, of a literal -/
def wk_leaf (μ : Int) (s : Int) (h h' : sm_H) : Prop := (s = 1 ∧ wk_n μ h' = wk_n μ h + 1 ∧ wk_ag μ (wk_n μ h) h h' ∧ (μ ≠ 2 → wk_K μ h' (wk_n μ h).toNat = 2)) ∨ (s = 2 ∧ wk_n μ h' = wk_n μ h + 1 ∧ wk_ag μ (wk_n μ h) h h' ∧ (μ ≠ 2 → wk_K μ h' (wk_n μ h).toNat = 3)) ∨ (s = 8 ∧ wk_n μ h' = wk_n μ h ∧ wk_ag μ (wk_n μ h) h h')
def wr_L : List (Nat × Nat) := [(14016, 14017), (14033, 14035), (14037, 14038), (14044, 14048), (20224, 20481), (20864, 20865), (21760, 21761)]
theorem me_match (hS : ab_Sh sx_sk h) (hm : mi_f h 14028 = 0) (hu0 : 0 ≤ zu) (hu1 : zu < 60) (hs : mi_a h 119 zu.toNat = 1 ∨ mi_a h 119 zu.toNat = 2 ∨ mi_a h 119 zu.toNat = 8) (hl : mi_a h 119 zu.toNat = 8 → 0 ≤ mi_a h 120 zu.toNat ∧ mi_a h 120 zu.toNat < 20) (ht : wk_tok 0 h) (hp : mi_f h 14044 = 0) (hw : mi_f h 14034 < 0) : me_E (d + 1) 214 0 [some (.inr (.inr 109)), some (.inl zu), none] [] h (fun w h' => w = none ∧ ab_Sh sx_sk h' ∧ ab_Fr wr_L h h' ∧ ((mi_f h' 14044 = 1 ∨ 0 ≤ mi_f h' 14034) ∨ (mi_f h' 14044 = 0 ∧ mi_f h' 14034 < 0 ∧ wk_tok 0 h' ∧ wk_leaf 0 (mi_a h 119 zu.toNat) h h'))) := by
  have ok : mi_in zu := ⟨by omega, by omega⟩
  obtain ⟨n0, n1, n2⟩ := ht rfl
  have b11 := me_fb (c := 14011) hS rfl
  have hidx : (mi_f h 14033).toNat < 161 := by omega
  have bk := me_ab (k := 152) (i := (mi_f h 14033).toNat) hS rfl (by decide) hidx
  have bf := me_ab (k := 153) (i := (mi_f h 14033).toNat) hS rfl (by decide) hidx
  have hne : mi_a h 152 (mi_f h 14033).toNat ≠ 0 → mi_f h 14033 < mi_f h 14011 := by
    intro e
    rcases Int.lt_or_eq_of_le n1 with e1 | e1
    · exact e1
    · rw [← e1] at n2
      exact absurd n2 e
  have bad : ∀ h1, ab_Sh sx_sk h1 → mi_f h1 14034 = mi_a h 153 (Int.toNat (mi_f h 14033)) → ab_Fr [(14034, 14035)] h h1 → ((none : Option mi_V) = none ∧ ab_Sh sx_sk h1 ∧ ab_Fr wr_L h h1 ∧ ((mi_f h1 14044 = 1 ∨ 0 ≤ mi_f h1 14034) ∨ (mi_f h1 14044 = 0 ∧ mi_f h1 14034 < 0 ∧ wk_tok 0 h1 ∧ wk_leaf 0 (mi_a h 119 zu.toNat) h h1))) := fun h1 g1 g2 g3 => ⟨rfl, g1, g3.wide (fun c hc => ab_swr_ok (by decide) hc), Or.inl (Or.inr (by rw [g2]; exact bf.1))⟩
  have tokf : ∀ h2 : sm_H, mi_f h2 14033 = mi_f h 14033 + 1 → mi_f h2 14011 = mi_f h 14011 → (∀ i, mi_a h2 152 i = mi_a h 152 i) → mi_f h 14033 < mi_f h 14011 → wk_tok 0 h2 := fun h2 e1 e2 e3 e4 _ => by
    rw [e1, e2, e3]
    exact ⟨by omega, by omega, n2⟩
  have node : ∀ (kd : Int) (h1 h2 h3 : sm_H) (w : Option mi_V), mi_f h 14033 < mi_f h 14011 → (mi_a h 119 zu.toNat = 1 ∧ kd = 2 ∨ mi_a h 119 zu.toNat = 2 ∧ kd = 3) → ab_Sh sx_sk h1 → ab_Fr [] h h1 → ab_Sh sx_sk h2 → ab_Fr [(14016, 14017), (14033, 14034), (14044, 14045), (20224, 20225), (20352, 20353), (20480, 20481), (20864, 20865)] h1 h2 → (∃ v : Int, ((0 : Int) ≠ 2 ∧ mi_f h2 14044 = 1 ∧ w = some (.inl 0) ∧ mi_f h2 14033 = mi_f h1 14033 ∧ mi_f h2 14016 = mi_f h1 14016) ∨ (((0 : Int) = 2 → mi_f h2 14044 = mi_f h1 14044) ∧ ((0 : Int) ≠ 2 → mi_f h2 14044 = 0) ∧ wk_ev 0 kd v h1 h2 ∧ w = some (.inl (wk_n 0 h1)))) → ab_Sh sx_sk h3 → mi_f h3 14033 = mi_f h2 14033 + 1 → ab_Fr [(14033, 14034)] h2 h3 → ((none : Option mi_V) = none ∧ ab_Sh sx_sk h3 ∧ ab_Fr wr_L h h3 ∧ ((mi_f h3 14044 = 1 ∨ 0 ≤ mi_f h3 14034) ∨ (mi_f h3 14044 = 0 ∧ mi_f h3 14034 < 0 ∧ wk_tok 0 h3 ∧ wk_leaf 0 (mi_a h 119 zu.toNat) h h3))) := by
    intro kd h1 h2 h3 w hlt hk g1 g2 q1 q2 q3 r1 r2 r3
    have hF : ab_Fr wr_L h h3 := ((g2.wide (fun c hc => by cases hc)).trans (q2.wide (fun c hc => ab_swr_ok (by decide) hc))).trans (r3.wide (fun c hc => ab_swr_ok (by decide) hc))
    have e34 : mi_f h3 14034 = mi_f h 14034 := ((me_f (c := 14034) r3 q1 rfl rfl).trans (me_f (c := 14034) q2 g1 rfl rfl)).trans (me_f (c := 14034) g2 hS rfl rfl)
    have e44 : mi_f h3 14044 = mi_f h2 14044 := me_f (c := 14044) r3 q1 rfl rfl
    have f33 : mi_f h1 14033 = mi_f h 14033 := me_f (c := 14033) g2 hS rfl rfl
    have f16 : mi_f h1 14016 = mi_f h 14016 := me_f (c := 14016) g2 hS rfl rfl
    have f11 : mi_f h3 14011 = mi_f h 14011 := ((me_f (c := 14011) r3 q1 rfl rfl).trans (me_f (c := 14011) q2 g1 rfl rfl)).trans (me_f (c := 14011) g2 hS rfl rfl)
    have f152 : ∀ i, mi_a h3 152 i = mi_a h 152 i := fun i => ((me_a (k := 152) r3 q1 rfl rfl).trans (me_a (k := 152) q2 g1 rfl rfl)).trans (me_a (k := 152) g2 hS rfl rfl)
    refine ⟨rfl, r1, hF, ?_⟩
    obtain ⟨v, q3⟩ := q3
    rcases q3 with q3 | q3
    · exact Or.inl (Or.inl (by rw [e44]; exact q3.2.1))
    · obtain ⟨-, p2, p3, -⟩ := q3
      obtain ⟨x1, x2, x3, -⟩ := p3
      obtain ⟨y1, y2, y3⟩ := x3 (by decide)
      have nA : wk_n 0 h1 = wk_n 0 h := by unfold wk_n; rw [f33, f16]
      have nC : wk_n 0 h3 = wk_n 0 h2 := by
        unfold wk_n
        rw [if_neg (by decide), if_neg (by decide)]
        exact me_f (c := 14016) r3 q1 rfl rfl
      have agA : wk_ag 0 (wk_n 0 h) h h1 := wk_ag_fr g2 hS rfl
      have agC : wk_ag 0 (wk_n 0 h2) h2 h3 := wk_ag_fr r3 q1 rfl
      rw [nA] at x1 x2 y1
      have hn0 : 0 ≤ wk_n 0 h := by
        unfold wk_n
        rw [if_neg (by decide)]
        exact (me_fb (c := 14016) hS rfl).1
      have hag : wk_ag 0 (wk_n 0 h) h h3 := (agA.trans x2 (Int.le_refl _)).trans agC (by omega)
      have hlt2 : ((wk_n 0 h).toNat : Int) < wk_n 0 h2 := by omega
      obtain ⟨z1, -⟩ := agC _ hlt2
      refine Or.inr ⟨by rw [e44]; exact p2 (by decide), by rw [e34]; exact hw, tokf h3 (by omega) f11 f152 hlt, ?_⟩
      rcases hk with ⟨k1, k2⟩ | ⟨k1, k2⟩
      · exact Or.inl ⟨k1, by rw [nC]; exact x1, hag, fun _ => by rw [z1, y1, k2]⟩
      · exact Or.inr (Or.inl ⟨k1, by rw [nC]; exact x1, hag, fun _ => by rw [z1, y1, k2]⟩)
  refine mt_maA hS ok ?_ ?_ ?_ ?_ ?_ ?_ ?_ ?_
  · intro b c1 c2 c3 c4
    exfalso; omega
  · intro b c1 c2 c3 c4
    have hlt := hne (by omega)
    refine ⟨by omega, fun h1 g1 g2 => ⟨_, me_comes (d := d) 0 g1 ⟨by decide, by decide⟩ ((me_f (c := 14028) g2 hS rfl rfl).trans hm) (fun e => absurd e (by decide)), ?_⟩⟩
    intro w h2 hwk hq
    obtain ⟨q1, q2, q3⟩ := hq
    have hz : ∃ z, w = some (.inl z) := by
      rcases q3 with q3 | q3
      · exact ⟨_, q3.2.2.1⟩
      · exact ⟨_, q3.2.2.2⟩
    obtain ⟨z, rfl⟩ := hz
    have e33 : mi_f h2 14033 = mi_f h 14033 := by
      rcases q3 with q3 | q3
      · exact q3.2.2.2.1.trans (me_f (c := 14033) g2 hS rfl rfl)
      · exact (q3.2.2.1.2.2.1 (by decide)).2.2.trans (me_f (c := 14033) g2 hS rfl rfl)
    refine mt_maC q1 ok (mi_inT _ : mi_in (mi_a h 119 zu.toNat)) (hwk _ rfl) ?_
    intro b2
    exact ⟨by omega, fun h3 r1 r2 r3 => node 3 h1 h2 h3 _ hlt (Or.inr ⟨c4, rfl⟩) g1 g2 q1 q2 ⟨_, q3⟩ r1 r2 r3⟩
  · intro b c1 c2 c3
    have hlt := hne (by omega)
    refine ⟨by omega, fun h1 g1 g2 => ⟨_, me_comes (d := d) 0 g1 ⟨by decide, by decide⟩ ((me_f (c := 14028) g2 hS rfl rfl).trans hm) (fun e => absurd e (by decide)), ?_⟩⟩
    intro w h2 hwk hq
    obtain ⟨q1, q2, q3⟩ := hq
    have hz : ∃ z, w = some (.inl z) := by
      rcases q3 with q3 | q3
      · exact ⟨_, q3.2.2.1⟩
      · exact ⟨_, q3.2.2.2⟩
    obtain ⟨z, rfl⟩ := hz
    have e33 : mi_f h2 14033 = mi_f h 14033 := by
      rcases q3 with q3 | q3
      · exact q3.2.2.2.1.trans (me_f (c := 14033) g2 hS rfl rfl)
      · exact (q3.2.2.1.2.2.1 (by decide)).2.2.trans (me_f (c := 14033) g2 hS rfl rfl)
    have e119 : mi_a h2 119 zu.toNat = mi_a h 119 zu.toNat := (me_a (k := 119) q2 g1 rfl rfl).trans (me_a (k := 119) g2 hS rfl rfl)
    refine mt_maB q1 ok (mi_inT _ : mi_in (mi_a h 119 zu.toNat)) (hwk _ rfl) ?_ ?_
    · intro b2 c4
      exact ⟨by omega, fun h3 r1 r2 r3 => node 2 h1 h2 h3 _ hlt (Or.inl ⟨c3, rfl⟩) g1 g2 q1 q2 ⟨_, q3⟩ r1 r2 r3⟩
    · intro b2 c4
      exfalso; omega
  · intro b c1 c2
    exact ⟨by omega, fun h1 g1 g2 g3 => bad h1 g1 g2 g3⟩
  · intro b c1 c2 c3 c4
    have hl := hl c1
    have hlt := hne (by omega)
    refine ⟨by omega, fun h1 g1 g2 g3 => ⟨rfl, g1, g3.wide (fun c hc => ab_swr_ok (by decide) hc), Or.inr ⟨(me_f (c := 14044) g3 hS rfl rfl).trans hp, by rw [me_f (c := 14034) g3 hS rfl rfl]; exact hw, tokf h1 g2 (me_f (c := 14011) g3 hS rfl rfl) (fun i => me_a (k := 152) g3 hS rfl rfl) hlt, Or.inr (Or.inr ⟨c1, ?_, wk_ag_fr g3 hS rfl⟩)⟩⟩⟩
    unfold wk_n
    rw [if_neg (by decide), if_neg (by decide)]
    exact me_f (c := 14016) g3 hS rfl rfl
  · intro b c1 c2 c3 c4
    exfalso; omega
  · intro b c1 c2 c3
    exfalso; omega
  · intro b c1 c2
    have hl := hl c1
    exact ⟨by omega, fun h1 g1 g2 g3 => bad h1 g1 g2 g3⟩
end MAT
/-! grown -/
section GRO
variable {h : sm_H} {d : Nat} {zu : Int}
def gr_Q (h : sm_H) (s : Int) (w : Option mi_V) (h' : sm_H) : Prop := w = none ∧ ab_Sh sx_sk h' ∧ ab_Fr wr_L h h' ∧ mi_f h' 14034 = mi_f h 14034 ∧ mi_f h' 14033 = mi_f h 14033 ∧ (mi_f h' 14044 = 1 ∨ (mi_f h' 14044 = 0 ∧ wk_leaf 1 s h h'))
theorem gr_node (kd s : Int) {h1 h2 h3 : sm_H} {w : Option mi_V} {v : Int} (hS : ab_Sh sx_sk h) (hk : s = 1 ∧ kd = 2 ∨ s = 2 ∧ kd = 3) (g1 : ab_Sh sx_sk h1) (g2 : ab_Fr [(14047, 14048)] h h1) (q1 : ab_Sh sx_sk h2) (q2 : ab_Fr [(14016, 14017), (14033, 14034), (14044, 14045), (20224, 20225), (20352, 20353), (20480, 20481), (20864, 20865)] h1 h2) (q3 : ((1 : Int) ≠ 2 ∧ mi_f h2 14044 = 1 ∧ w = some (.inl 0) ∧ mi_f h2 14033 = mi_f h1 14033 ∧ mi_f h2 14016 = mi_f h1 14016) ∨ (((1 : Int) = 2 → mi_f h2 14044 = mi_f h1 14044) ∧ ((1 : Int) ≠ 2 → mi_f h2 14044 = 0) ∧ wk_ev 1 kd v h1 h2 ∧ w = some (.inl (wk_n 1 h1)))) (r1 : ab_Sh sx_sk h3) (r3 : ab_Fr [] h2 h3) : gr_Q h s none h3 := by
  have hF : ab_Fr wr_L h h3 := ((g2.wide (fun c hc => ab_swr_ok (by decide) hc)).trans (q2.wide (fun c hc => ab_swr_ok (by decide) hc))).trans (r3.wide (fun c hc => by cases hc))
  have e34 : mi_f h3 14034 = mi_f h 14034 := ((me_f (c := 14034) r3 q1 rfl rfl).trans (me_f (c := 14034) q2 g1 rfl rfl)).trans (me_f (c := 14034) g2 hS rfl rfl)
  have e44 : mi_f h3 14044 = mi_f h2 14044 := me_f (c := 14044) r3 q1 rfl rfl
  have f33 : mi_f h1 14033 = mi_f h 14033 := me_f (c := 14033) g2 hS rfl rfl
  have f16 : mi_f h1 14016 = mi_f h 14016 := me_f (c := 14016) g2 hS rfl rfl
  have k33 : mi_f h3 14033 = mi_f h2 14033 := me_f (c := 14033) r3 q1 rfl rfl
  rcases q3 with q3 | q3
  · exact ⟨rfl, r1, hF, e34, by rw [k33, q3.2.2.2.1, f33], Or.inl (by rw [e44]; exact q3.2.1)⟩
  · obtain ⟨-, p2, p3, -⟩ := q3
    obtain ⟨x1, x2, x3, -⟩ := p3
    obtain ⟨y1, y2, y3⟩ := x3 (by decide)
    have nA : wk_n 1 h1 = wk_n 1 h := by unfold wk_n; rw [f33, f16]
    have nC : wk_n 1 h3 = wk_n 1 h2 := by
      unfold wk_n
      rw [if_neg (by decide), if_neg (by decide)]
      exact me_f (c := 14016) r3 q1 rfl rfl
    have agA : wk_ag 1 (wk_n 1 h) h h1 := wk_ag_fr g2 hS rfl
    have agC : wk_ag 1 (wk_n 1 h2) h2 h3 := wk_ag_fr r3 q1 rfl
    rw [nA] at x1 x2 y1
    have hn0 : 0 ≤ wk_n 1 h := by
      unfold wk_n
      rw [if_neg (by decide)]
      exact (me_fb (c := 14016) hS rfl).1
    have hag : wk_ag 1 (wk_n 1 h) h h3 := (agA.trans x2 (Int.le_refl _)).trans agC (by omega)
    have hlt2 : ((wk_n 1 h).toNat : Int) < wk_n 1 h2 := by omega
    obtain ⟨z1, -⟩ := agC _ hlt2
    refine ⟨rfl, r1, hF, e34, by rw [k33, y3, f33], Or.inr ⟨by rw [e44]; exact p2 (by decide), ?_⟩⟩
    rcases hk with ⟨k1, k2⟩ | ⟨k1, k2⟩
    · exact Or.inl ⟨k1, by rw [nC]; exact x1, hag, fun _ => by rw [z1, y1, k2]⟩
    · exact Or.inr (Or.inl ⟨k1, by rw [nC]; exact x1, hag, fun _ => by rw [z1, y1, k2]⟩)
/-- letters are put behind a name as long as it is a keyword -/
theorem gr_kw (hS : ab_Sh sx_sk h) (hm : mi_f h 14028 = 1) (hu0 : 0 ≤ zu) (hu1 : zu < 60) {zk : Int} (okk : mi_in zk) : ∀ (N : Nat) (zn : Int) (zv : Int64) (h1 : sm_H), 7 - zn < N → 1 ≤ zn → zn ≤ 7 → zv.toBitVec.toNat < 2 ^ (5 * zn.toNat) → (zn = 7 → 2 ^ 30 ≤ zv.toBitVec.toNat) → ab_Sh sx_sk h1 → ab_Fr [(14047, 14048)] h h1 → me_E (d + 1) 215 76 [some (.inr (.inr 109)), some (.inl zu), some (.inl zn), some (.inr (.inl zv)), none, some (.inl zk)] [] h1 (gr_Q h 2) := by
  intro N
  induction N with
  | zero => intro zn zv h1 a1 a2 a3; omega
  | succ N ih =>
    intro zn zv h1 a1 a2 a3 a4 a5 g1 g2
    have oku : mi_in zu := ⟨by omega, by omega⟩
    have okn : mi_in zn := ⟨by omega, by omega⟩
    refine mt_grG g1 oku okn okk ?_
    intro h2 p1 p2
    refine ⟨_, me_keywordOf p1, ?_⟩
    intro w h3 hw hq
    obtain ⟨q1, q2, z, rfl, q3, q4, q5⟩ := hq
    have F3 : ab_Fr [(14047, 14048)] h h3 := (g2.trans (p2.wide (fun c hc => by cases hc))).trans (q2.wide (fun c hc => by cases hc))
    refine mt_grH q1 oku okn okk (hw _ rfl) ?_ ?_
    · intro c1 h4 s1 s2
      have F4 : ab_Fr [(14047, 14048)] h h4 := F3.trans (s2.wide (fun c hc => by cases hc))
      refine ⟨_, me_comes 1 s1 ⟨by decide, by decide⟩ ((me_f (c := 14028) F4 hS rfl rfl).trans hm) (fun e => absurd e (by decide)), ?_⟩
      intro w h5 hw5 hq5
      obtain ⟨t1, t2, t3⟩ := hq5
      have hz : ∃ z, w = some (.inl z) := by
        rcases t3 with t3 | t3
        · exact ⟨_, t3.2.2.1⟩
        · exact ⟨_, t3.2.2.2⟩
      obtain ⟨z2, rfl⟩ := hz
      refine mt_grI t1 oku okn okk (hw5 _ rfl) ?_
      intro h6 u1 u2
      exact gr_node 3 2 hS (Or.inr ⟨rfl, rfl⟩) s1 F4 t1 t2 t3 u1 u2
    · intro c1
      have hkw := q5 c1
      have hb := mx_arrL (a := 118) (n := 20) (lo := -65536) (hi := 1073741823) (ex := []) p1 rfl
      have hlt : zv.toInt ≤ 1073741823 := by
        obtain ⟨f, e1, e2⟩ := hb
        have := (e2 z.toNat (by omega)).2
        unfold mx_b at hkw
        rw [e1] at hkw
        rw [← hkw]
        exact this
      have hle35 : (2 : Nat) ^ (5 * zn.toNat) ≤ 2 ^ 35 := Nat.pow_le_pow_right (by decide) (by omega)
      have e0 : zv.toInt = (zv.toBitVec.toNat : Int) := by
        show zv.toBitVec.toInt = _
        exact BitVec.toInt_eq_toNat_of_lt (by omega)
      have hn6 : zn ≤ 6 := by
        rcases Int.lt_or_eq_of_le a3 with e | e
        · omega
        · have := a5 e
          omega
      refine ⟨by omega, fun h4 s1 s2 => ?_⟩
      have F4 : ab_Fr [(14047, 14048)] h h4 := F3.trans (s2.wide (fun c hc => by cases hc))
      have key : ∀ k : Nat, zn = (k : Int) → 1 ≤ k → k ≤ 6 → (zv ||| (Int64.ofNat 26) <<< ((Int32.ofInt (((5 : Int)) * zn)).toInt64 &&& 63)).toBitVec.toNat < 2 ^ (5 * (zn + 1).toNat) ∧ (zn + 1 = 7 → 2 ^ 30 ≤ (zv ||| (Int64.ofNat 26) <<< ((Int32.ofInt (((5 : Int)) * zn)).toInt64 &&& 63)).toBitVec.toNat) := by
        intro k hk k1 k6
        have hc : k = 1 ∨ k = 2 ∨ k = 3 ∨ k = 4 ∨ k = 5 ∨ k = 6 := by omega
        have hs : ((Int64.ofNat 26) <<< ((Int32.ofInt (((5 : Int)) * zn)).toInt64 &&& 63)).toBitVec.toNat = 26 * 2 ^ (5 * k) := by
          rw [hk]
          rcases hc with rfl | rfl | rfl | rfl | rfl | rfl <;> decide
        have e2 : 5 * (zn + 1).toNat = 5 * k + 5 := by omega
        have e3 : 5 * zn.toNat = 5 * k := by omega
        rw [e3] at a4
        refine ⟨?_, fun h7 => ?_⟩
        · rw [e2]
          refine lg_or (Nat.lt_of_lt_of_le a4 (Nat.pow_le_pow_right (by decide) (by omega))) ?_
          rw [hs, Nat.pow_add]
          have := Nat.two_pow_pos (5 * k)
          omega
        · rw [Int64.toBitVec_or, BitVec.toNat_or, hs]
          have k6 : k = 6 := by omega
          subst k6
          exact Nat.le_trans (by decide) Nat.right_le_or
      obtain ⟨b1, b2⟩ := key zn.toNat (by omega) (by omega) (by omega)
      exact ih _ _ h4 (by omega) (by omega) (by omega) b1 b2 s1 F4
theorem gr_let (hS : ab_Sh sx_sk h) (hm : mi_f h 14028 = 1) (hu0 : 0 ≤ zu) (hu1 : zu < 60) {zn : Int} (hn0 : 1 ≤ zn) (hn1 : zn ≤ 3) : ∀ (N : Nat) (zk : Int) (zv : Int64) (h1 : sm_H), zn - zk < N → 0 ≤ zk → zk ≤ zn → zv.toBitVec.toNat < 2 ^ (5 * zk.toNat) → ab_Sh sx_sk h1 → ab_Fr [(14047, 14048)] h h1 → me_E (d + 1) 215 48 [some (.inr (.inr 109)), some (.inl zu), some (.inl zn), some (.inr (.inl zv)), none, some (.inl zk)] [] h1 (gr_Q h 2) := by
  intro N
  induction N with
  | zero => intro zk zv h1 a1 a2 a3; omega
  | succ N ih =>
    intro zk zv h1 a1 a2 a3 a4 g1 g2
    have oku : mi_in zu := ⟨by omega, by omega⟩
    have okn : mi_in zn := ⟨by omega, by omega⟩
    have okk : mi_in zk := ⟨by omega, by omega⟩
    refine mt_grE g1 oku okn okk ?_ ?_
    · intro c1 h2 p1 p2
      have ek : zk = zn := by omega
      subst ek
      exact gr_kw hS hm hu0 hu1 okk 10 zk zv h2 (by omega) hn0 (by omega) a4 (fun e => by omega) p1 (g2.trans (p2.wide (fun c hc => by cases hc)))
    · intro c1 h2 p1 p2
      refine ⟨_, me_draw p1 (by decide) (by decide), ?_⟩
      intro w h3 hw hq
      obtain ⟨q1, q2, z, rfl, q3, q4⟩ := hq
      have F3 : ab_Fr [(14047, 14048)] h h3 := (g2.trans (p2.wide (fun c hc => by cases hc))).trans q2
      refine mt_grF q1 oku okn okk (hw _ rfl) ?_
      refine ⟨by omega, fun h4 s1 s2 => ?_⟩
      have F4 : ab_Fr [(14047, 14048)] h h4 := F3.trans (s2.wide (fun c hc => by cases hc))
      have hz : z = 0 ∨ z = 1 ∨ z = 2 := by omega
      have hk : zk = 0 ∨ zk = 1 ∨ zk = 2 := by omega
      have hsm : ((Int64.ofNat 1 + (Int32.ofInt z).toInt64) <<< ((Int32.ofInt (((5 : Int)) * zk)).toInt64 &&& 63)).toBitVec.toNat < 2 ^ (5 * zk.toNat + 5) := by
        rcases hk with rfl | rfl | rfl <;> rcases hz with rfl | rfl | rfl <;> decide
      refine ih _ _ h4 (by omega) (by omega) (by omega) ?_ s1 F4
      have e : 5 * (zk + 1).toNat = 5 * zk.toNat + 5 := by omega
      rw [e]
      exact lg_or (Nat.lt_of_lt_of_le a4 (Nat.pow_le_pow_right (by decide) (by omega))) hsm
theorem me_grown (hS : ab_Sh sx_sk h) (hm : mi_f h 14028 = 1) (hu0 : 0 ≤ zu) (hu1 : zu < 60) (hs : mi_a h 119 zu.toNat = 1 ∨ mi_a h 119 zu.toNat = 2 ∨ mi_a h 119 zu.toNat = 8) (hp : mi_f h 14044 = 0) : me_E (d + 1) 215 0 [some (.inr (.inr 109)), some (.inl zu), none, none, none, none] [] h (gr_Q h (mi_a h 119 zu.toNat)) := by
  have ok : mi_in zu := ⟨by omega, by omega⟩
  refine mt_grA hS ok ?_ ?_ ?_
  · intro c1 c2
    refine ⟨by omega, fun h1 g1 g2 => ⟨_, me_draw g1 (by decide) (by decide), ?_⟩⟩
    intro w h2 hw hq
    obtain ⟨q1, q2, z, rfl, q3, q4⟩ := hq
    refine mt_grD q1 ok (hw _ rfl) ⟨by decide, by decide⟩ ?_
    refine ⟨by omega, fun h3 r1 r2 => ?_⟩
    rw [c2]
    exact gr_let hS hm hu0 hu1 (by omega) (by omega) 10 0 (Int64.ofNat 0) h3 (by omega) (by omega) (by omega) (by decide) r1 (((g2.wide (fun c hc => by cases hc)).trans q2).trans (r2.wide (fun c hc => by cases hc)))
  · intro c1 c2
    refine ⟨by omega, fun h1 g1 g2 => ?_⟩
    refine ⟨rfl, g1, g2.wide (fun c hc => by cases hc), me_f (c := 14034) g2 hS rfl rfl, me_f (c := 14033) g2 hS rfl rfl, Or.inr ⟨(me_f (c := 14044) g2 hS rfl rfl).trans hp, Or.inr (Or.inr ⟨by omega, ?_, wk_ag_fr g2 hS rfl⟩)⟩⟩
    exact wk_ne_n (wk_ne_fr g2 hS rfl)
  · intro c1
    refine ⟨by omega, fun h1 g1 g2 => ⟨_, me_draw g1 (by decide) (by decide), ?_⟩⟩
    intro w h2 hw hq
    obtain ⟨q1, q2, z, rfl, q3, q4⟩ := hq
    refine mt_grB q1 ok (hw _ rfl) ⟨by decide, by decide⟩ ?_
    intro h3 r1 r2
    have F3 : ab_Fr [(14047, 14048)] h h3 := ((g2.wide (fun c hc => by cases hc)).trans q2).trans (r2.wide (fun c hc => by cases hc))
    refine ⟨_, me_comes 1 r1 ⟨by decide, by decide⟩ ((me_f (c := 14028) F3 hS rfl rfl).trans hm) (fun e => absurd e (by decide)), ?_⟩
    intro w h4 hw4 hq4
    obtain ⟨t1, t2, t3⟩ := hq4
    have hz : ∃ z, w = some (.inl z) := by
      rcases t3 with t3 | t3
      · exact ⟨_, t3.2.2.1⟩
      · exact ⟨_, t3.2.2.2⟩
    obtain ⟨z2, rfl⟩ := hz
    have e119 : mi_a h4 119 zu.toNat = mi_a h 119 zu.toNat := (me_a (k := 119) t2 r1 rfl rfl).trans (me_a (k := 119) F3 hS rfl rfl)
    refine mt_grC t1 ok (hw4 _ rfl) ?_ ?_
    · intro c2
      exfalso; omega
    · intro c2
      refine ⟨by omega, fun h5 u1 u2 => ?_⟩
      exact gr_node 2 _ hS (Or.inl ⟨c1, rfl⟩) r1 F3 t1 t2 t3 u1 u2
end GRO
/-! segments: letters2, shown -/
set_option maxRecDepth 20000 in
theorem mp_l2A_0 (h : sm_H) (d : Nat) (zw : Int64) : mi_path [(218, (5, 0, sb_218))] sx_sk h 7 [9] (d + 1, 218, 0, [some (.inr (.inr 109)), some (.inr (.inl (zw))), none, none, none], [], [], []) = some ((d + 1, 218, 10, [some (.inr (.inr 109)), some (.inr (.inl (zw))), none, none, none], [.inl ((Int32.ofInt ((zw &&& (Int64.ofNat 31)).toInt32.toInt) + Int32.ofInt ((96 : Int))).toInt), .inr (.inr 109)], [], []), []) := rfl
theorem mi_tab_l2A_0 : ∀ e ∈ ([(218, (5, 0, sb_218))] : mi_T), sc_P e.1 = some e.2 := mi_tb mi_P218 (mi_tb_e)
set_option maxRecDepth 20000 in
theorem ms_l2A_0 {h : sm_H} {d : Nat} {Q : Option mi_V → sm_H → Prop} {zw : Int64} (hS : ab_Sh sx_sk h)  (kon : ∀ h1, me_W [] h h1 → ∃ Q1, me_E (d + 0) 219 0 (mi_entry 3 [.inr (.inr 109), .inl ((Int32.ofInt ((zw &&& (Int64.ofNat 31)).toInt32.toInt) + Int32.ofInt ((96 : Int))).toInt)]) [] h1 Q1 ∧ ∀ w h2, (∀ x, w = some x → mi_ok x) → Q1 w h2 → me_E (d + 1) 218 13 [some (.inr (.inr 109)), some (.inr (.inl (zw))), none, none, none] (mi_back w []) h2 Q) : me_E (d + 1) 218 0 [some (.inr (.inr 109)), some (.inr (.inl (zw))), none, none, none] [] h Q := me_seg (mp_l2A_0 h d zw) (mi_tab_l2A_0) hS (mi_okL_c (trivial) (mi_okL_c (trivial) (mi_okL_n (mi_okL_n (mi_okL_n (mi_okL_e)))))) (mi_okS_e) (mi_al_e) (fun h1 W _ hst => let ⟨_, k1, k2⟩ := kon h1 W; me_call (M := (5, 0, sb_218)) (M' := (3, 0, sb_219)) rfl rfl rfl rfl (Nat.le_of_ble_eq_true rfl) (Nat.le_of_ble_eq_true rfl) W.1 k1 k2)
set_option maxRecDepth 20000 in
theorem mt_l2A {h : sm_H} {d : Nat} {Q : Option mi_V → sm_H → Prop} {zw : Int64} (hS : ab_Sh sx_sk h)  (k0 : (∀ h1, ab_Sh sx_sk h1 → ab_Fr [] h h1 → ∃ Q1, me_E (d + 0) 219 0 (mi_entry 3 [.inr (.inr 109), .inl ((Int32.ofInt ((zw &&& (Int64.ofNat 31)).toInt32.toInt) + Int32.ofInt ((96 : Int))).toInt)]) [] h1 Q1 ∧ ∀ w h2, (∀ x, w = some x → mi_ok x) → Q1 w h2 → me_E (d + 1) 218 13 [some (.inr (.inr 109)), some (.inr (.inl (zw))), none, none, none] (mi_back w []) h2 Q)) : me_E (d + 1) 218 0 [some (.inr (.inr 109)), some (.inr (.inl (zw))), none, none, none] [] h Q := ms_l2A_0 hS (fun h1 W => (k0) h1 W.1 (W.2.2.2.2.2 _ rfl))
set_option maxRecDepth 20000 in
theorem mp_l2B_0 (h : sm_H) (d : Nat) (zw : Int64) : mi_path [(218, (5, 0, sb_218))] sx_sk h 2 [] (d + 1, 218, 13, [some (.inr (.inr 109)), some (.inr (.inl (zw))), none, none, none], [], [], []) = some ((d + 1, 218, 15, [some (.inr (.inr 109)), some (.inr (.inl (zw))), none, some (.inr (.inl (zw))), none], [], [], []), []) := rfl
theorem mi_tab_l2B_0 : ∀ e ∈ ([(218, (5, 0, sb_218))] : mi_T), sc_P e.1 = some e.2 := mi_tb mi_P218 (mi_tb_e)
set_option maxRecDepth 20000 in
theorem ms_l2B_0 {h : sm_H} {d : Nat} {Q : Option mi_V → sm_H → Prop} {zw : Int64} (hS : ab_Sh sx_sk h)  (kon : ∀ h1, me_W [] h h1 → me_E (d + 1) 218 15 [some (.inr (.inr 109)), some (.inr (.inl (zw))), none, some (.inr (.inl (zw))), none] [] h1 Q) : me_E (d + 1) 218 13 [some (.inr (.inr 109)), some (.inr (.inl (zw))), none, none, none] [] h Q := me_seg (mp_l2B_0 h d zw) (mi_tab_l2B_0) hS (mi_okL_c (trivial) (mi_okL_c (trivial) (mi_okL_n (mi_okL_n (mi_okL_n (mi_okL_e)))))) (mi_okS_e) (mi_al_e) (fun h1 W _ hst => kon h1 W)
set_option maxRecDepth 20000 in
theorem mt_l2B {h : sm_H} {d : Nat} {Q : Option mi_V → sm_H → Prop} {zw : Int64} (hS : ab_Sh sx_sk h)  (k0 : (∀ h1, ab_Sh sx_sk h1 → ab_Fr [] h h1 → me_E (d + 1) 218 15 [some (.inr (.inr 109)), some (.inr (.inl (zw))), none, some (.inr (.inl (zw))), none] [] h1 Q)) : me_E (d + 1) 218 13 [some (.inr (.inr 109)), some (.inr (.inl (zw))), none, none, none] [] h Q := ms_l2B_0 hS (fun h1 W => (k0) h1 W.1 (W.2.2.2.2.2 _ rfl))
set_option maxRecDepth 20000 in
theorem mp_l2C_0 (h : sm_H) (d : Nat) (zw zv : Int64) : mi_path [(218, (5, 0, sb_218))] sx_sk h 4 [1] (d + 1, 218, 15, [some (.inr (.inr 109)), some (.inr (.inl (zw))), none, some (.inr (.inl (zv))), none], [], [], []) = some ((d + 1, 218, 41, [some (.inr (.inr 109)), some (.inr (.inl (zw))), none, some (.inr (.inl (zv))), none], [], [], []), [((lg_cmp zv (Int64.ofNat 0)).toInt) ≤ ((0 : Int))]) := rfl
theorem mi_tab_l2C_0 : ∀ e ∈ ([(218, (5, 0, sb_218))] : mi_T), sc_P e.1 = some e.2 := mi_tb mi_P218 (mi_tb_e)
set_option maxRecDepth 20000 in
theorem ms_l2C_0 {h : sm_H} {d : Nat} {Q : Option mi_V → sm_H → Prop} {zw zv : Int64} (hS : ab_Sh sx_sk h)  (ho : (((lg_cmp zv (Int64.ofNat 0)).toInt) ≤ ((0 : Int)))) (kon : ∀ h1, me_W [] h h1 → Q none h1) : me_E (d + 1) 218 15 [some (.inr (.inr 109)), some (.inr (.inl (zw))), none, some (.inr (.inl (zv))), none] [] h Q := me_seg (mp_l2C_0 h d zw zv) (mi_tab_l2C_0) hS (mi_okL_c (trivial) (mi_okL_c (trivial) (mi_okL_n (mi_okL_c (trivial) (mi_okL_n (mi_okL_e)))))) (mi_okS_e) (mi_al (ho) (mi_al_e)) (fun h1 W _ hst => me_ret (M := (5, 0, sb_218)) rfl rfl rfl hst (mi_al_e) (kon h1 W))
set_option maxRecDepth 20000 in
theorem mp_l2C_1 (h : sm_H) (d : Nat) (zw zv : Int64) : mi_path [(218, (5, 0, sb_218))] sx_sk h 11 [0, 9] (d + 1, 218, 15, [some (.inr (.inr 109)), some (.inr (.inl (zw))), none, some (.inr (.inl (zv))), none], [], [], []) = some ((d + 1, 218, 31, [some (.inr (.inr 109)), some (.inr (.inl (zw))), none, some (.inr (.inl (zv))), none], [.inl ((Int32.ofInt ((zv &&& (Int64.ofNat 31)).toInt32.toInt) + Int32.ofInt ((96 : Int))).toInt), .inr (.inr 109)], [], []), [((0 : Int)) < ((lg_cmp zv (Int64.ofNat 0)).toInt)]) := rfl
theorem mi_tab_l2C_1 : ∀ e ∈ ([(218, (5, 0, sb_218))] : mi_T), sc_P e.1 = some e.2 := mi_tb mi_P218 (mi_tb_e)
set_option maxRecDepth 20000 in
theorem ms_l2C_1 {h : sm_H} {d : Nat} {Q : Option mi_V → sm_H → Prop} {zw zv : Int64} (hS : ab_Sh sx_sk h)  (ho : (((0 : Int)) < ((lg_cmp zv (Int64.ofNat 0)).toInt))) (kon : ∀ h1, me_W [] h h1 → ∃ Q1, me_E (d + 0) 220 0 (mi_entry 2 [.inr (.inr 109), .inl ((Int32.ofInt ((zv &&& (Int64.ofNat 31)).toInt32.toInt) + Int32.ofInt ((96 : Int))).toInt)]) [] h1 Q1 ∧ ∀ w h2, (∀ x, w = some x → mi_ok x) → Q1 w h2 → me_E (d + 1) 218 34 [some (.inr (.inr 109)), some (.inr (.inl (zw))), none, some (.inr (.inl (zv))), none] (mi_back w []) h2 Q) : me_E (d + 1) 218 15 [some (.inr (.inr 109)), some (.inr (.inl (zw))), none, some (.inr (.inl (zv))), none] [] h Q := me_seg (mp_l2C_1 h d zw zv) (mi_tab_l2C_1) hS (mi_okL_c (trivial) (mi_okL_c (trivial) (mi_okL_n (mi_okL_c (trivial) (mi_okL_n (mi_okL_e)))))) (mi_okS_e) (mi_al (ho) (mi_al_e)) (fun h1 W _ hst => let ⟨_, k1, k2⟩ := kon h1 W; me_call (M := (5, 0, sb_218)) (M' := (2, 0, sb_220)) rfl rfl rfl rfl (Nat.le_of_ble_eq_true rfl) (Nat.le_of_ble_eq_true rfl) W.1 k1 k2)
set_option maxRecDepth 20000 in
theorem mt_l2C {h : sm_H} {d : Nat} {Q : Option mi_V → sm_H → Prop} {zw zv : Int64} (hS : ab_Sh sx_sk h)  (k0 : (((lg_cmp zv (Int64.ofNat 0)).toInt) ≤ ((0 : Int))) → (∀ h1, ab_Sh sx_sk h1 → ab_Fr [] h h1 → Q none h1)) (k1 : (((0 : Int)) < ((lg_cmp zv (Int64.ofNat 0)).toInt)) → (∀ h1, ab_Sh sx_sk h1 → ab_Fr [] h h1 → ∃ Q1, me_E (d + 0) 220 0 (mi_entry 2 [.inr (.inr 109), .inl ((Int32.ofInt ((zv &&& (Int64.ofNat 31)).toInt32.toInt) + Int32.ofInt ((96 : Int))).toInt)]) [] h1 Q1 ∧ ∀ w h2, (∀ x, w = some x → mi_ok x) → Q1 w h2 → me_E (d + 1) 218 34 [some (.inr (.inr 109)), some (.inr (.inl (zw))), none, some (.inr (.inl (zv))), none] (mi_back w []) h2 Q)) : me_E (d + 1) 218 15 [some (.inr (.inr 109)), some (.inr (.inl (zw))), none, some (.inr (.inl (zv))), none] [] h Q := Or.elim (mi_em .le (((lg_cmp zv (Int64.ofNat 0)).toInt)) (((0 : Int)))) (fun c0 => ms_l2C_0 hS (c0) (fun h1 W => (k0 c0) h1 W.1 (W.2.2.2.2.2 _ rfl))) (fun c0 => ms_l2C_1 hS (c0) (fun h1 W => (k1 c0) h1 W.1 (W.2.2.2.2.2 _ rfl)))
set_option maxRecDepth 20000 in
theorem mp_l2D_0 (h : sm_H) (d : Nat) (zw zv : Int64) : mi_path [(218, (5, 0, sb_218))] sx_sk h 5 [] (d + 1, 218, 34, [some (.inr (.inr 109)), some (.inr (.inl (zw))), none, some (.inr (.inl (zv))), none], [], [], []) = some ((d + 1, 218, 15, [some (.inr (.inr 109)), some (.inr (.inl (zw))), none, some (.inr (.inl (zv >>> ((Int32.ofInt ((5 : Int))).toInt64 &&& 63)))), none], [], [], []), []) := rfl
theorem mi_tab_l2D_0 : ∀ e ∈ ([(218, (5, 0, sb_218))] : mi_T), sc_P e.1 = some e.2 := mi_tb mi_P218 (mi_tb_e)
set_option maxRecDepth 20000 in
theorem ms_l2D_0 {h : sm_H} {d : Nat} {Q : Option mi_V → sm_H → Prop} {zw zv : Int64} (hS : ab_Sh sx_sk h)  (kon : ∀ h1, me_W [] h h1 → me_E (d + 1) 218 15 [some (.inr (.inr 109)), some (.inr (.inl (zw))), none, some (.inr (.inl (zv >>> ((Int32.ofInt ((5 : Int))).toInt64 &&& 63)))), none] [] h1 Q) : me_E (d + 1) 218 34 [some (.inr (.inr 109)), some (.inr (.inl (zw))), none, some (.inr (.inl (zv))), none] [] h Q := me_seg (mp_l2D_0 h d zw zv) (mi_tab_l2D_0) hS (mi_okL_c (trivial) (mi_okL_c (trivial) (mi_okL_n (mi_okL_c (trivial) (mi_okL_n (mi_okL_e)))))) (mi_okS_e) (mi_al_e) (fun h1 W _ hst => kon h1 W)
set_option maxRecDepth 20000 in
theorem mt_l2D {h : sm_H} {d : Nat} {Q : Option mi_V → sm_H → Prop} {zw zv : Int64} (hS : ab_Sh sx_sk h)  (k0 : (∀ h1, ab_Sh sx_sk h1 → ab_Fr [] h h1 → me_E (d + 1) 218 15 [some (.inr (.inr 109)), some (.inr (.inl (zw))), none, some (.inr (.inl (zv >>> ((Int32.ofInt ((5 : Int))).toInt64 &&& 63)))), none] [] h1 Q)) : me_E (d + 1) 218 34 [some (.inr (.inr 109)), some (.inr (.inl (zw))), none, some (.inr (.inl (zv))), none] [] h Q := ms_l2D_0 hS (fun h1 W => (k0) h1 W.1 (W.2.2.2.2.2 _ rfl))
set_option maxRecDepth 20000 in
theorem mp_shA_0 (h : sm_H) (d : Nat) (zu : Int) : mi_path [(217, (7, 0, sb_217))] sx_sk h 37 [1, 9, 1] (d + 1, 217, 0, [some (.inr (.inr 109)), some (.inl (zu)), none, none, none, none, none], [], [], []) = some ((d + 1, 217, 119, [some (.inr (.inr 109)), some (.inl (zu)), some (.inr (.inl (mx_b h 162 (Int.toNat (mi_f h 14033))))), none, some (.inl (((((mx_b h 162 (Int.toNat (mi_f h 14033))) - ((Int32.ofInt (mi_a h 120 (Int.toNat zu))).toInt64)) + (Int64.ofNat 10000)) - (((mx_b h 162 (Int.toNat (mi_f h 14033))) - ((Int32.ofInt (mi_a h 120 (Int.toNat zu))).toInt64)) + (Int64.ofNat 10000)) / (Int64.ofNat 10000) * (Int64.ofNat 10000)).toInt32.toInt)), none, none], [], [.inl (14033, (Int32.ofInt (mi_f h 14033) + Int32.ofInt ((1 : Int))).toInt)], []), [0 ≤ zu ∧ zu < 60, (mi_a h 119 (Int.toNat zu)) ≠ ((8 : Int)), 0 ≤ (mi_f h 14033) ∧ (mi_f h 14033) < 100, 0 ≤ zu ∧ zu < 60, (mi_a h 119 (Int.toNat zu)) ≠ ((2 : Int)), 0 ≤ zu ∧ zu < 60, (Int64.ofNat 10000) ≠ 0]) := rfl
theorem mi_tab_shA_0 : ∀ e ∈ ([(217, (7, 0, sb_217))] : mi_T), sc_P e.1 = some e.2 := mi_tb mi_P217 (mi_tb_e)
set_option maxRecDepth 20000 in
theorem ms_shA_0 {h : sm_H} {d : Nat} {Q : Option mi_V → sm_H → Prop} {zu : Int} (hS : ab_Sh sx_sk h) (ok_zu : mi_in zu) (ho : (0 ≤ zu ∧ zu < 60) ∧ ((mi_a h 119 (Int.toNat zu)) ≠ ((8 : Int))) ∧ (0 ≤ (mi_f h 14033) ∧ (mi_f h 14033) < 100) ∧ (0 ≤ zu ∧ zu < 60) ∧ ((mi_a h 119 (Int.toNat zu)) ≠ ((2 : Int))) ∧ (0 ≤ zu ∧ zu < 60) ∧ ((Int64.ofNat 10000) ≠ 0)) (kon : ∀ h1, me_W [.inl (14033, (Int32.ofInt (mi_f h 14033) + Int32.ofInt ((1 : Int))).toInt)] h h1 → me_E (d + 1) 217 119 [some (.inr (.inr 109)), some (.inl (zu)), some (.inr (.inl (mx_b h 162 (Int.toNat (mi_f h 14033))))), none, some (.inl (((((mx_b h 162 (Int.toNat (mi_f h 14033))) - ((Int32.ofInt (mi_a h 120 (Int.toNat zu))).toInt64)) + (Int64.ofNat 10000)) - (((mx_b h 162 (Int.toNat (mi_f h 14033))) - ((Int32.ofInt (mi_a h 120 (Int.toNat zu))).toInt64)) + (Int64.ofNat 10000)) / (Int64.ofNat 10000) * (Int64.ofNat 10000)).toInt32.toInt)), none, none] [] h1 Q) : me_E (d + 1) 217 0 [some (.inr (.inr 109)), some (.inl (zu)), none, none, none, none, none] [] h Q := me_seg (mp_shA_0 h d zu) (mi_tab_shA_0) hS (mi_okL_c (trivial) (mi_okL_c (ok_zu) (mi_okL_n (mi_okL_n (mi_okL_n (mi_okL_n (mi_okL_n (mi_okL_e)))))))) (mi_okS_e) (mi_al (ho.1) (mi_al (ho.2.1) (mi_al (ho.2.2.1) (mi_al (ho.2.2.2.1) (mi_al (ho.2.2.2.2.1) (mi_al (ho.2.2.2.2.2.1) (mi_al (ho.2.2.2.2.2.2) (mi_al_e)))))))) (fun h1 W _ hst => kon h1 W)
set_option maxRecDepth 20000 in
theorem mp_shA_1 (h : sm_H) (d : Nat) (zu : Int) : mi_path [(217, (7, 0, sb_217))] sx_sk h 26 [1, 9, 0] (d + 1, 217, 0, [some (.inr (.inr 109)), some (.inl (zu)), none, none, none, none, none], [], [], []) = some ((d + 1, 217, 95, [some (.inr (.inr 109)), some (.inl (zu)), some (.inr (.inl (mx_b h 162 (Int.toNat (mi_f h 14033))))), none, none, none, none], [.inr (.inl (mx_b h 162 (Int.toNat (mi_f h 14033)))), .inr (.inr 109)], [.inl (14033, (Int32.ofInt (mi_f h 14033) + Int32.ofInt ((1 : Int))).toInt)], []), [0 ≤ zu ∧ zu < 60, (mi_a h 119 (Int.toNat zu)) ≠ ((8 : Int)), 0 ≤ (mi_f h 14033) ∧ (mi_f h 14033) < 100, 0 ≤ zu ∧ zu < 60, (mi_a h 119 (Int.toNat zu)) = ((2 : Int))]) := rfl
theorem mi_tab_shA_1 : ∀ e ∈ ([(217, (7, 0, sb_217))] : mi_T), sc_P e.1 = some e.2 := mi_tb mi_P217 (mi_tb_e)
set_option maxRecDepth 20000 in
theorem ms_shA_1 {h : sm_H} {d : Nat} {Q : Option mi_V → sm_H → Prop} {zu : Int} (hS : ab_Sh sx_sk h) (ok_zu : mi_in zu) (ho : (0 ≤ zu ∧ zu < 60) ∧ ((mi_a h 119 (Int.toNat zu)) ≠ ((8 : Int))) ∧ (0 ≤ (mi_f h 14033) ∧ (mi_f h 14033) < 100) ∧ (0 ≤ zu ∧ zu < 60) ∧ ((mi_a h 119 (Int.toNat zu)) = ((2 : Int)))) (kon : ∀ h1, me_W [.inl (14033, (Int32.ofInt (mi_f h 14033) + Int32.ofInt ((1 : Int))).toInt)] h h1 → ∃ Q1, me_E (d + 0) 218 0 (mi_entry 5 [.inr (.inr 109), .inr (.inl (mx_b h 162 (Int.toNat (mi_f h 14033))))]) [] h1 Q1 ∧ ∀ w h2, (∀ x, w = some x → mi_ok x) → Q1 w h2 → me_E (d + 1) 217 98 [some (.inr (.inr 109)), some (.inl (zu)), some (.inr (.inl (mx_b h 162 (Int.toNat (mi_f h 14033))))), none, none, none, none] (mi_back w []) h2 Q) : me_E (d + 1) 217 0 [some (.inr (.inr 109)), some (.inl (zu)), none, none, none, none, none] [] h Q := me_seg (mp_shA_1 h d zu) (mi_tab_shA_1) hS (mi_okL_c (trivial) (mi_okL_c (ok_zu) (mi_okL_n (mi_okL_n (mi_okL_n (mi_okL_n (mi_okL_n (mi_okL_e)))))))) (mi_okS_e) (mi_al (ho.1) (mi_al (ho.2.1) (mi_al (ho.2.2.1) (mi_al (ho.2.2.2.1) (mi_al (ho.2.2.2.2) (mi_al_e)))))) (fun h1 W _ hst => let ⟨_, k1, k2⟩ := kon h1 W; me_call (M := (7, 0, sb_217)) (M' := (5, 0, sb_218)) rfl rfl rfl rfl (Nat.le_of_ble_eq_true rfl) (Nat.le_of_ble_eq_true rfl) W.1 k1 k2)
set_option maxRecDepth 20000 in
theorem mp_shA_2 (h : sm_H) (d : Nat) (zu : Int) : mi_path [(217, (7, 0, sb_217))] sx_sk h 23 [0, 1] (d + 1, 217, 0, [some (.inr (.inr 109)), some (.inl (zu)), none, none, none, none, none], [], [], []) = some ((d + 1, 217, 49, [some (.inr (.inr 109)), some (.inl (zu)), some (.inl (mi_a h 120 (Int.toNat zu))), none, none, none, none], [.inl (mi_a h 117 (Int.toNat (mi_a h 120 (Int.toNat zu)))), .inr (.inr 109)], [], []), [0 ≤ zu ∧ zu < 60, (mi_a h 119 (Int.toNat zu)) = ((8 : Int)), 0 ≤ zu ∧ zu < 60, 0 ≤ (mi_a h 120 (Int.toNat zu)) ∧ (mi_a h 120 (Int.toNat zu)) < 20, ((lg_cmp (mx_b h 118 (Int.toNat (mi_a h 120 (Int.toNat zu)))) (Int64.ofNat 0)).toInt) = ((0 : Int)), 0 ≤ (mi_a h 120 (Int.toNat zu)) ∧ (mi_a h 120 (Int.toNat zu)) < 20]) := rfl
theorem mi_tab_shA_2 : ∀ e ∈ ([(217, (7, 0, sb_217))] : mi_T), sc_P e.1 = some e.2 := mi_tb mi_P217 (mi_tb_e)
set_option maxRecDepth 20000 in
theorem ms_shA_2 {h : sm_H} {d : Nat} {Q : Option mi_V → sm_H → Prop} {zu : Int} (hS : ab_Sh sx_sk h) (ok_zu : mi_in zu) (ho : (0 ≤ zu ∧ zu < 60) ∧ ((mi_a h 119 (Int.toNat zu)) = ((8 : Int))) ∧ (0 ≤ zu ∧ zu < 60) ∧ (0 ≤ (mi_a h 120 (Int.toNat zu)) ∧ (mi_a h 120 (Int.toNat zu)) < 20) ∧ (((lg_cmp (mx_b h 118 (Int.toNat (mi_a h 120 (Int.toNat zu)))) (Int64.ofNat 0)).toInt) = ((0 : Int))) ∧ (0 ≤ (mi_a h 120 (Int.toNat zu)) ∧ (mi_a h 120 (Int.toNat zu)) < 20)) (kon : ∀ h1, me_W [] h h1 → ∃ Q1, me_E (d + 0) 219 0 (mi_entry 3 [.inr (.inr 109), .inl (mi_a h 117 (Int.toNat (mi_a h 120 (Int.toNat zu))))]) [] h1 Q1 ∧ ∀ w h2, (∀ x, w = some x → mi_ok x) → Q1 w h2 → me_E (d + 1) 217 52 [some (.inr (.inr 109)), some (.inl (zu)), some (.inl (mi_a h 120 (Int.toNat zu))), none, none, none, none] (mi_back w []) h2 Q) : me_E (d + 1) 217 0 [some (.inr (.inr 109)), some (.inl (zu)), none, none, none, none, none] [] h Q := me_seg (mp_shA_2 h d zu) (mi_tab_shA_2) hS (mi_okL_c (trivial) (mi_okL_c (ok_zu) (mi_okL_n (mi_okL_n (mi_okL_n (mi_okL_n (mi_okL_n (mi_okL_e)))))))) (mi_okS_e) (mi_al (ho.1) (mi_al (ho.2.1) (mi_al (ho.2.2.1) (mi_al (ho.2.2.2.1) (mi_al (ho.2.2.2.2.1) (mi_al (ho.2.2.2.2.2) (mi_al_e))))))) (fun h1 W _ hst => let ⟨_, k1, k2⟩ := kon h1 W; me_call (M := (7, 0, sb_217)) (M' := (3, 0, sb_219)) rfl rfl rfl rfl (Nat.le_of_ble_eq_true rfl) (Nat.le_of_ble_eq_true rfl) W.1 k1 k2)
set_option maxRecDepth 20000 in
theorem mp_shA_3 (h : sm_H) (d : Nat) (zu : Int) : mi_path [(217, (7, 0, sb_217))] sx_sk h 23 [0, 0] (d + 1, 217, 0, [some (.inr (.inr 109)), some (.inl (zu)), none, none, none, none, none], [], [], []) = some ((d + 1, 217, 36, [some (.inr (.inr 109)), some (.inl (zu)), some (.inl (mi_a h 120 (Int.toNat zu))), none, none, none, none], [.inr (.inl (mx_b h 118 (Int.toNat (mi_a h 120 (Int.toNat zu))))), .inr (.inr 109)], [], []), [0 ≤ zu ∧ zu < 60, (mi_a h 119 (Int.toNat zu)) = ((8 : Int)), 0 ≤ zu ∧ zu < 60, 0 ≤ (mi_a h 120 (Int.toNat zu)) ∧ (mi_a h 120 (Int.toNat zu)) < 20, ((lg_cmp (mx_b h 118 (Int.toNat (mi_a h 120 (Int.toNat zu)))) (Int64.ofNat 0)).toInt) ≠ ((0 : Int)), 0 ≤ (mi_a h 120 (Int.toNat zu)) ∧ (mi_a h 120 (Int.toNat zu)) < 20]) := rfl
theorem mi_tab_shA_3 : ∀ e ∈ ([(217, (7, 0, sb_217))] : mi_T), sc_P e.1 = some e.2 := mi_tb mi_P217 (mi_tb_e)
set_option maxRecDepth 20000 in
theorem ms_shA_3 {h : sm_H} {d : Nat} {Q : Option mi_V → sm_H → Prop} {zu : Int} (hS : ab_Sh sx_sk h) (ok_zu : mi_in zu) (ho : (0 ≤ zu ∧ zu < 60) ∧ ((mi_a h 119 (Int.toNat zu)) = ((8 : Int))) ∧ (0 ≤ zu ∧ zu < 60) ∧ (0 ≤ (mi_a h 120 (Int.toNat zu)) ∧ (mi_a h 120 (Int.toNat zu)) < 20) ∧ (((lg_cmp (mx_b h 118 (Int.toNat (mi_a h 120 (Int.toNat zu)))) (Int64.ofNat 0)).toInt) ≠ ((0 : Int))) ∧ (0 ≤ (mi_a h 120 (Int.toNat zu)) ∧ (mi_a h 120 (Int.toNat zu)) < 20)) (kon : ∀ h1, me_W [] h h1 → ∃ Q1, me_E (d + 0) 218 0 (mi_entry 5 [.inr (.inr 109), .inr (.inl (mx_b h 118 (Int.toNat (mi_a h 120 (Int.toNat zu)))))]) [] h1 Q1 ∧ ∀ w h2, (∀ x, w = some x → mi_ok x) → Q1 w h2 → me_E (d + 1) 217 39 [some (.inr (.inr 109)), some (.inl (zu)), some (.inl (mi_a h 120 (Int.toNat zu))), none, none, none, none] (mi_back w []) h2 Q) : me_E (d + 1) 217 0 [some (.inr (.inr 109)), some (.inl (zu)), none, none, none, none, none] [] h Q := me_seg (mp_shA_3 h d zu) (mi_tab_shA_3) hS (mi_okL_c (trivial) (mi_okL_c (ok_zu) (mi_okL_n (mi_okL_n (mi_okL_n (mi_okL_n (mi_okL_n (mi_okL_e)))))))) (mi_okS_e) (mi_al (ho.1) (mi_al (ho.2.1) (mi_al (ho.2.2.1) (mi_al (ho.2.2.2.1) (mi_al (ho.2.2.2.2.1) (mi_al (ho.2.2.2.2.2) (mi_al_e))))))) (fun h1 W _ hst => let ⟨_, k1, k2⟩ := kon h1 W; me_call (M := (7, 0, sb_217)) (M' := (5, 0, sb_218)) rfl rfl rfl rfl (Nat.le_of_ble_eq_true rfl) (Nat.le_of_ble_eq_true rfl) W.1 k1 k2)
set_option maxRecDepth 20000 in
theorem mt_shA {h : sm_H} {d : Nat} {Q : Option mi_V → sm_H → Prop} {zu : Int} (hS : ab_Sh sx_sk h) (ok_zu : mi_in zu) (k0 : ((-2147483648) ≤ mi_f h 14033 ∧ mi_f h 14033 ≤ 2147483647) → ((mi_a h 119 (Int.toNat zu)) ≠ ((8 : Int))) → ((mi_a h 119 (Int.toNat zu)) ≠ ((2 : Int))) → ((0 ≤ zu ∧ zu < 60) ∧ (0 ≤ (mi_f h 14033) ∧ (mi_f h 14033) < 100)) ∧ (∀ h1, ab_Sh sx_sk h1 → mi_f h1 14033 = (Int32.ofInt (mi_f h 14033) + Int32.ofInt ((1 : Int))).toInt → ab_Fr [(14033, 14034)] h h1 → me_E (d + 1) 217 119 [some (.inr (.inr 109)), some (.inl (zu)), some (.inr (.inl (mx_b h 162 (Int.toNat (mi_f h 14033))))), none, some (.inl (((((mx_b h 162 (Int.toNat (mi_f h 14033))) - ((Int32.ofInt (mi_a h 120 (Int.toNat zu))).toInt64)) + (Int64.ofNat 10000)) - (((mx_b h 162 (Int.toNat (mi_f h 14033))) - ((Int32.ofInt (mi_a h 120 (Int.toNat zu))).toInt64)) + (Int64.ofNat 10000)) / (Int64.ofNat 10000) * (Int64.ofNat 10000)).toInt32.toInt)), none, none] [] h1 Q)) (k1 : ((-2147483648) ≤ mi_f h 14033 ∧ mi_f h 14033 ≤ 2147483647) → ((mi_a h 119 (Int.toNat zu)) ≠ ((8 : Int))) → ((mi_a h 119 (Int.toNat zu)) = ((2 : Int))) → ((0 ≤ zu ∧ zu < 60) ∧ (0 ≤ (mi_f h 14033) ∧ (mi_f h 14033) < 100)) ∧ (∀ h1, ab_Sh sx_sk h1 → mi_f h1 14033 = (Int32.ofInt (mi_f h 14033) + Int32.ofInt ((1 : Int))).toInt → ab_Fr [(14033, 14034)] h h1 → ∃ Q1, me_E (d + 0) 218 0 (mi_entry 5 [.inr (.inr 109), .inr (.inl (mx_b h 162 (Int.toNat (mi_f h 14033))))]) [] h1 Q1 ∧ ∀ w h2, (∀ x, w = some x → mi_ok x) → Q1 w h2 → me_E (d + 1) 217 98 [some (.inr (.inr 109)), some (.inl (zu)), some (.inr (.inl (mx_b h 162 (Int.toNat (mi_f h 14033))))), none, none, none, none] (mi_back w []) h2 Q)) (k2 : ((mi_a h 119 (Int.toNat zu)) = ((8 : Int))) → (((lg_cmp (mx_b h 118 (Int.toNat (mi_a h 120 (Int.toNat zu)))) (Int64.ofNat 0)).toInt) = ((0 : Int))) → ((0 ≤ zu ∧ zu < 60) ∧ (0 ≤ (mi_a h 120 (Int.toNat zu)) ∧ (mi_a h 120 (Int.toNat zu)) < 20)) ∧ (∀ h1, ab_Sh sx_sk h1 → ab_Fr [] h h1 → ∃ Q1, me_E (d + 0) 219 0 (mi_entry 3 [.inr (.inr 109), .inl (mi_a h 117 (Int.toNat (mi_a h 120 (Int.toNat zu))))]) [] h1 Q1 ∧ ∀ w h2, (∀ x, w = some x → mi_ok x) → Q1 w h2 → me_E (d + 1) 217 52 [some (.inr (.inr 109)), some (.inl (zu)), some (.inl (mi_a h 120 (Int.toNat zu))), none, none, none, none] (mi_back w []) h2 Q)) (k3 : ((mi_a h 119 (Int.toNat zu)) = ((8 : Int))) → (((lg_cmp (mx_b h 118 (Int.toNat (mi_a h 120 (Int.toNat zu)))) (Int64.ofNat 0)).toInt) ≠ ((0 : Int))) → ((0 ≤ zu ∧ zu < 60) ∧ (0 ≤ (mi_a h 120 (Int.toNat zu)) ∧ (mi_a h 120 (Int.toNat zu)) < 20)) ∧ (∀ h1, ab_Sh sx_sk h1 → ab_Fr [] h h1 → ∃ Q1, me_E (d + 0) 218 0 (mi_entry 5 [.inr (.inr 109), .inr (.inl (mx_b h 118 (Int.toNat (mi_a h 120 (Int.toNat zu)))))]) [] h1 Q1 ∧ ∀ w h2, (∀ x, w = some x → mi_ok x) → Q1 w h2 → me_E (d + 1) 217 39 [some (.inr (.inr 109)), some (.inl (zu)), some (.inl (mi_a h 120 (Int.toNat zu))), none, none, none, none] (mi_back w []) h2 Q)) : me_E (d + 1) 217 0 [some (.inr (.inr 109)), some (.inl (zu)), none, none, none, none, none] [] h Q := Or.elim (mi_em .ne ((mi_a h 119 (Int.toNat zu))) (((8 : Int)))) (fun c0 => Or.elim (mi_em .ne ((mi_a h 119 (Int.toNat zu))) (((2 : Int)))) (fun c1 => ms_shA_0 hS ok_zu ⟨(k0 (me_fb hS rfl) c0 c1).1.1, c0, (k0 (me_fb hS rfl) c0 c1).1.2, (k0 (me_fb hS rfl) c0 c1).1.1, c1, (k0 (me_fb hS rfl) c0 c1).1.1, (by decide)⟩ (fun h1 W => (k0 (me_fb hS rfl) c0 c1).2 h1 W.1 (W.2.1 14033) (W.2.2.2.2.2 _ rfl))) (fun c1 => ms_shA_1 hS ok_zu ⟨(k1 (me_fb hS rfl) c0 c1).1.1, c0, (k1 (me_fb hS rfl) c0 c1).1.2, (k1 (me_fb hS rfl) c0 c1).1.1, c1⟩ (fun h1 W => (k1 (me_fb hS rfl) c0 c1).2 h1 W.1 (W.2.1 14033) (W.2.2.2.2.2 _ rfl)))) (fun c0 => Or.elim (mi_em .eq (((lg_cmp (mx_b h 118 (Int.toNat (mi_a h 120 (Int.toNat zu)))) (Int64.ofNat 0)).toInt)) (((0 : Int)))) (fun c1 => ms_shA_2 hS ok_zu ⟨(k2 c0 c1).1.1, c0, (k2 c0 c1).1.1, (k2 c0 c1).1.2, c1, (k2 c0 c1).1.2⟩ (fun h1 W => (k2 c0 c1).2 h1 W.1 (W.2.2.2.2.2 _ rfl))) (fun c1 => ms_shA_3 hS ok_zu ⟨(k3 c0 c1).1.1, c0, (k3 c0 c1).1.1, (k3 c0 c1).1.2, c1, (k3 c0 c1).1.2⟩ (fun h1 W => (k3 c0 c1).2 h1 W.1 (W.2.2.2.2.2 _ rfl))))
set_option maxRecDepth 20000 in
theorem mp_shB_0 (h : sm_H) (d : Nat) (zu zn : Int) (zv : Int64) : mi_path [(217, (7, 0, sb_217))] sx_sk h 11 [1, 1, 1] (d + 1, 217, 119, [some (.inr (.inr 109)), some (.inl (zu)), some (.inr (.inl (zv))), none, some (.inl (zn)), none, none], [], [], []) = some ((d + 1, 217, 160, [some (.inr (.inr 109)), some (.inl (zu)), some (.inr (.inl (zv))), none, some (.inl (zn)), some (.inl ((1 : Int))), none], [], [], []), [zn ≤ ((999 : Int)), zn ≤ ((99 : Int)), zn ≤ ((9 : Int))]) := rfl
theorem mi_tab_shB_0 : ∀ e ∈ ([(217, (7, 0, sb_217))] : mi_T), sc_P e.1 = some e.2 := mi_tb mi_P217 (mi_tb_e)
set_option maxRecDepth 20000 in
theorem ms_shB_0 {h : sm_H} {d : Nat} {Q : Option mi_V → sm_H → Prop} {zu zn : Int} {zv : Int64} (hS : ab_Sh sx_sk h) (ok_zu : mi_in zu) (ok_zn : mi_in zn) (ho : (zn ≤ ((999 : Int))) ∧ (zn ≤ ((99 : Int))) ∧ (zn ≤ ((9 : Int)))) (kon : ∀ h1, me_W [] h h1 → me_E (d + 1) 217 160 [some (.inr (.inr 109)), some (.inl (zu)), some (.inr (.inl (zv))), none, some (.inl (zn)), some (.inl ((1 : Int))), none] [] h1 Q) : me_E (d + 1) 217 119 [some (.inr (.inr 109)), some (.inl (zu)), some (.inr (.inl (zv))), none, some (.inl (zn)), none, none] [] h Q := me_seg (mp_shB_0 h d zu zn zv) (mi_tab_shB_0) hS (mi_okL_c (trivial) (mi_okL_c (ok_zu) (mi_okL_c (trivial) (mi_okL_n (mi_okL_c (ok_zn) (mi_okL_n (mi_okL_n (mi_okL_e)))))))) (mi_okS_e) (mi_al (ho.1) (mi_al (ho.2.1) (mi_al (ho.2.2) (mi_al_e)))) (fun h1 W _ hst => kon h1 W)
set_option maxRecDepth 20000 in
theorem mp_shB_1 (h : sm_H) (d : Nat) (zu zn : Int) (zv : Int64) : mi_path [(217, (7, 0, sb_217))] sx_sk h 12 [1, 1, 0] (d + 1, 217, 119, [some (.inr (.inr 109)), some (.inl (zu)), some (.inr (.inl (zv))), none, some (.inl (zn)), none, none], [], [], []) = some ((d + 1, 217, 160, [some (.inr (.inr 109)), some (.inl (zu)), some (.inr (.inl (zv))), none, some (.inl (zn)), some (.inl ((10 : Int))), none], [], [], []), [zn ≤ ((999 : Int)), zn ≤ ((99 : Int)), ((9 : Int)) < zn]) := rfl
theorem mi_tab_shB_1 : ∀ e ∈ ([(217, (7, 0, sb_217))] : mi_T), sc_P e.1 = some e.2 := mi_tb mi_P217 (mi_tb_e)
set_option maxRecDepth 20000 in
theorem ms_shB_1 {h : sm_H} {d : Nat} {Q : Option mi_V → sm_H → Prop} {zu zn : Int} {zv : Int64} (hS : ab_Sh sx_sk h) (ok_zu : mi_in zu) (ok_zn : mi_in zn) (ho : (zn ≤ ((999 : Int))) ∧ (zn ≤ ((99 : Int))) ∧ (((9 : Int)) < zn)) (kon : ∀ h1, me_W [] h h1 → me_E (d + 1) 217 160 [some (.inr (.inr 109)), some (.inl (zu)), some (.inr (.inl (zv))), none, some (.inl (zn)), some (.inl ((10 : Int))), none] [] h1 Q) : me_E (d + 1) 217 119 [some (.inr (.inr 109)), some (.inl (zu)), some (.inr (.inl (zv))), none, some (.inl (zn)), none, none] [] h Q := me_seg (mp_shB_1 h d zu zn zv) (mi_tab_shB_1) hS (mi_okL_c (trivial) (mi_okL_c (ok_zu) (mi_okL_c (trivial) (mi_okL_n (mi_okL_c (ok_zn) (mi_okL_n (mi_okL_n (mi_okL_e)))))))) (mi_okS_e) (mi_al (ho.1) (mi_al (ho.2.1) (mi_al (ho.2.2) (mi_al_e)))) (fun h1 W _ hst => kon h1 W)
set_option maxRecDepth 20000 in
theorem mp_shB_2 (h : sm_H) (d : Nat) (zu zn : Int) (zv : Int64) : mi_path [(217, (7, 0, sb_217))] sx_sk h 9 [1, 0] (d + 1, 217, 119, [some (.inr (.inr 109)), some (.inl (zu)), some (.inr (.inl (zv))), none, some (.inl (zn)), none, none], [], [], []) = some ((d + 1, 217, 160, [some (.inr (.inr 109)), some (.inl (zu)), some (.inr (.inl (zv))), none, some (.inl (zn)), some (.inl ((100 : Int))), none], [], [], []), [zn ≤ ((999 : Int)), ((99 : Int)) < zn]) := rfl
theorem mi_tab_shB_2 : ∀ e ∈ ([(217, (7, 0, sb_217))] : mi_T), sc_P e.1 = some e.2 := mi_tb mi_P217 (mi_tb_e)
set_option maxRecDepth 20000 in
theorem ms_shB_2 {h : sm_H} {d : Nat} {Q : Option mi_V → sm_H → Prop} {zu zn : Int} {zv : Int64} (hS : ab_Sh sx_sk h) (ok_zu : mi_in zu) (ok_zn : mi_in zn) (ho : (zn ≤ ((999 : Int))) ∧ (((99 : Int)) < zn)) (kon : ∀ h1, me_W [] h h1 → me_E (d + 1) 217 160 [some (.inr (.inr 109)), some (.inl (zu)), some (.inr (.inl (zv))), none, some (.inl (zn)), some (.inl ((100 : Int))), none] [] h1 Q) : me_E (d + 1) 217 119 [some (.inr (.inr 109)), some (.inl (zu)), some (.inr (.inl (zv))), none, some (.inl (zn)), none, none] [] h Q := me_seg (mp_shB_2 h d zu zn zv) (mi_tab_shB_2) hS (mi_okL_c (trivial) (mi_okL_c (ok_zu) (mi_okL_c (trivial) (mi_okL_n (mi_okL_c (ok_zn) (mi_okL_n (mi_okL_n (mi_okL_e)))))))) (mi_okS_e) (mi_al (ho.1) (mi_al (ho.2) (mi_al_e))) (fun h1 W _ hst => kon h1 W)
set_option maxRecDepth 20000 in
theorem mp_shB_3 (h : sm_H) (d : Nat) (zu zn : Int) (zv : Int64) : mi_path [(217, (7, 0, sb_217))] sx_sk h 6 [0] (d + 1, 217, 119, [some (.inr (.inr 109)), some (.inl (zu)), some (.inr (.inl (zv))), none, some (.inl (zn)), none, none], [], [], []) = some ((d + 1, 217, 160, [some (.inr (.inr 109)), some (.inl (zu)), some (.inr (.inl (zv))), none, some (.inl (zn)), some (.inl ((1000 : Int))), none], [], [], []), [((999 : Int)) < zn]) := rfl
theorem mi_tab_shB_3 : ∀ e ∈ ([(217, (7, 0, sb_217))] : mi_T), sc_P e.1 = some e.2 := mi_tb mi_P217 (mi_tb_e)
set_option maxRecDepth 20000 in
theorem ms_shB_3 {h : sm_H} {d : Nat} {Q : Option mi_V → sm_H → Prop} {zu zn : Int} {zv : Int64} (hS : ab_Sh sx_sk h) (ok_zu : mi_in zu) (ok_zn : mi_in zn) (ho : (((999 : Int)) < zn)) (kon : ∀ h1, me_W [] h h1 → me_E (d + 1) 217 160 [some (.inr (.inr 109)), some (.inl (zu)), some (.inr (.inl (zv))), none, some (.inl (zn)), some (.inl ((1000 : Int))), none] [] h1 Q) : me_E (d + 1) 217 119 [some (.inr (.inr 109)), some (.inl (zu)), some (.inr (.inl (zv))), none, some (.inl (zn)), none, none] [] h Q := me_seg (mp_shB_3 h d zu zn zv) (mi_tab_shB_3) hS (mi_okL_c (trivial) (mi_okL_c (ok_zu) (mi_okL_c (trivial) (mi_okL_n (mi_okL_c (ok_zn) (mi_okL_n (mi_okL_n (mi_okL_e)))))))) (mi_okS_e) (mi_al (ho) (mi_al_e)) (fun h1 W _ hst => kon h1 W)
set_option maxRecDepth 20000 in
theorem mt_shB {h : sm_H} {d : Nat} {Q : Option mi_V → sm_H → Prop} {zu zn : Int} {zv : Int64} (hS : ab_Sh sx_sk h) (ok_zu : mi_in zu) (ok_zn : mi_in zn) (k0 : (zn ≤ ((999 : Int))) → (zn ≤ ((99 : Int))) → (zn ≤ ((9 : Int))) → (∀ h1, ab_Sh sx_sk h1 → ab_Fr [] h h1 → me_E (d + 1) 217 160 [some (.inr (.inr 109)), some (.inl (zu)), some (.inr (.inl (zv))), none, some (.inl (zn)), some (.inl ((1 : Int))), none] [] h1 Q)) (k1 : (zn ≤ ((999 : Int))) → (zn ≤ ((99 : Int))) → (((9 : Int)) < zn) → (∀ h1, ab_Sh sx_sk h1 → ab_Fr [] h h1 → me_E (d + 1) 217 160 [some (.inr (.inr 109)), some (.inl (zu)), some (.inr (.inl (zv))), none, some (.inl (zn)), some (.inl ((10 : Int))), none] [] h1 Q)) (k2 : (zn ≤ ((999 : Int))) → (((99 : Int)) < zn) → (∀ h1, ab_Sh sx_sk h1 → ab_Fr [] h h1 → me_E (d + 1) 217 160 [some (.inr (.inr 109)), some (.inl (zu)), some (.inr (.inl (zv))), none, some (.inl (zn)), some (.inl ((100 : Int))), none] [] h1 Q)) (k3 : (((999 : Int)) < zn) → (∀ h1, ab_Sh sx_sk h1 → ab_Fr [] h h1 → me_E (d + 1) 217 160 [some (.inr (.inr 109)), some (.inl (zu)), some (.inr (.inl (zv))), none, some (.inl (zn)), some (.inl ((1000 : Int))), none] [] h1 Q)) : me_E (d + 1) 217 119 [some (.inr (.inr 109)), some (.inl (zu)), some (.inr (.inl (zv))), none, some (.inl (zn)), none, none] [] h Q := Or.elim (mi_em .le (zn) (((999 : Int)))) (fun c0 => Or.elim (mi_em .le (zn) (((99 : Int)))) (fun c1 => Or.elim (mi_em .le (zn) (((9 : Int)))) (fun c2 => ms_shB_0 hS ok_zu ok_zn ⟨c0, c1, c2⟩ (fun h1 W => (k0 c0 c1 c2) h1 W.1 (W.2.2.2.2.2 _ rfl))) (fun c2 => ms_shB_1 hS ok_zu ok_zn ⟨c0, c1, c2⟩ (fun h1 W => (k1 c0 c1 c2) h1 W.1 (W.2.2.2.2.2 _ rfl)))) (fun c1 => ms_shB_2 hS ok_zu ok_zn ⟨c0, c1⟩ (fun h1 W => (k2 c0 c1) h1 W.1 (W.2.2.2.2.2 _ rfl)))) (fun c0 => ms_shB_3 hS ok_zu ok_zn (c0) (fun h1 W => (k3 c0) h1 W.1 (W.2.2.2.2.2 _ rfl)))
set_option maxRecDepth 20000 in
theorem mp_shC_0 (h : sm_H) (d : Nat) (zu zn zd : Int) (zv : Int64) : mi_path [(217, (7, 0, sb_217))] sx_sk h 6 [9] (d + 1, 217, 160, [some (.inr (.inr 109)), some (.inl (zu)), some (.inr (.inl (zv))), none, some (.inl (zn)), some (.inl (zd)), none], [], [], []) = some ((d + 1, 217, 169, [some (.inr (.inr 109)), some (.inl (zu)), some (.inr (.inl (zv))), none, some (.inl (zn)), some (.inl (zd)), none], [.inl ((Int32.ofInt ((48 : Int)) + Int32.ofInt ((Int32.ofInt zn / Int32.ofInt zd).toInt)).toInt), .inr (.inr 109)], [], []), [zd ≠ 0]) := rfl
theorem mi_tab_shC_0 : ∀ e ∈ ([(217, (7, 0, sb_217))] : mi_T), sc_P e.1 = some e.2 := mi_tb mi_P217 (mi_tb_e)
set_option maxRecDepth 20000 in
theorem ms_shC_0 {h : sm_H} {d : Nat} {Q : Option mi_V → sm_H → Prop} {zu zn zd : Int} {zv : Int64} (hS : ab_Sh sx_sk h) (ok_zu : mi_in zu) (ok_zn : mi_in zn) (ok_zd : mi_in zd) (ho : (zd ≠ 0)) (kon : ∀ h1, me_W [] h h1 → ∃ Q1, me_E (d + 0) 219 0 (mi_entry 3 [.inr (.inr 109), .inl ((Int32.ofInt ((48 : Int)) + Int32.ofInt ((Int32.ofInt zn / Int32.ofInt zd).toInt)).toInt)]) [] h1 Q1 ∧ ∀ w h2, (∀ x, w = some x → mi_ok x) → Q1 w h2 → me_E (d + 1) 217 172 [some (.inr (.inr 109)), some (.inl (zu)), some (.inr (.inl (zv))), none, some (.inl (zn)), some (.inl (zd)), none] (mi_back w []) h2 Q) : me_E (d + 1) 217 160 [some (.inr (.inr 109)), some (.inl (zu)), some (.inr (.inl (zv))), none, some (.inl (zn)), some (.inl (zd)), none] [] h Q := me_seg (mp_shC_0 h d zu zn zd zv) (mi_tab_shC_0) hS (mi_okL_c (trivial) (mi_okL_c (ok_zu) (mi_okL_c (trivial) (mi_okL_n (mi_okL_c (ok_zn) (mi_okL_c (ok_zd) (mi_okL_n (mi_okL_e)))))))) (mi_okS_e) (mi_al (ho) (mi_al_e)) (fun h1 W _ hst => let ⟨_, k1, k2⟩ := kon h1 W; me_call (M := (7, 0, sb_217)) (M' := (3, 0, sb_219)) rfl rfl rfl rfl (Nat.le_of_ble_eq_true rfl) (Nat.le_of_ble_eq_true rfl) W.1 k1 k2)
set_option maxRecDepth 20000 in
theorem mt_shC {h : sm_H} {d : Nat} {Q : Option mi_V → sm_H → Prop} {zu zn zd : Int} {zv : Int64} (hS : ab_Sh sx_sk h) (ok_zu : mi_in zu) (ok_zn : mi_in zn) (ok_zd : mi_in zd) (k0 : ((zd ≠ 0)) ∧ (∀ h1, ab_Sh sx_sk h1 → ab_Fr [] h h1 → ∃ Q1, me_E (d + 0) 219 0 (mi_entry 3 [.inr (.inr 109), .inl ((Int32.ofInt ((48 : Int)) + Int32.ofInt ((Int32.ofInt zn / Int32.ofInt zd).toInt)).toInt)]) [] h1 Q1 ∧ ∀ w h2, (∀ x, w = some x → mi_ok x) → Q1 w h2 → me_E (d + 1) 217 172 [some (.inr (.inr 109)), some (.inl (zu)), some (.inr (.inl (zv))), none, some (.inl (zn)), some (.inl (zd)), none] (mi_back w []) h2 Q)) : me_E (d + 1) 217 160 [some (.inr (.inr 109)), some (.inl (zu)), some (.inr (.inl (zv))), none, some (.inl (zn)), some (.inl (zd)), none] [] h Q := ms_shC_0 hS ok_zu ok_zn ok_zd ((k0).1) (fun h1 W => (k0).2 h1 W.1 (W.2.2.2.2.2 _ rfl))
set_option maxRecDepth 20000 in
theorem mp_shD_0 (h : sm_H) (d : Nat) (zu zn zd : Int) (zv : Int64) : mi_path [(217, (7, 0, sb_217))] sx_sk h 2 [] (d + 1, 217, 172, [some (.inr (.inr 109)), some (.inl (zu)), some (.inr (.inl (zv))), none, some (.inl (zn)), some (.inl (zd)), none], [], [], []) = some ((d + 1, 217, 176, [some (.inr (.inr 109)), some (.inl (zu)), some (.inr (.inl (zv))), none, some (.inl (zn)), some (.inl (zd)), some (.inl (zd))], [], [], []), []) := rfl
theorem mi_tab_shD_0 : ∀ e ∈ ([(217, (7, 0, sb_217))] : mi_T), sc_P e.1 = some e.2 := mi_tb mi_P217 (mi_tb_e)
set_option maxRecDepth 20000 in
theorem ms_shD_0 {h : sm_H} {d : Nat} {Q : Option mi_V → sm_H → Prop} {zu zn zd : Int} {zv : Int64} (hS : ab_Sh sx_sk h) (ok_zu : mi_in zu) (ok_zn : mi_in zn) (ok_zd : mi_in zd) (kon : ∀ h1, me_W [] h h1 → me_E (d + 1) 217 176 [some (.inr (.inr 109)), some (.inl (zu)), some (.inr (.inl (zv))), none, some (.inl (zn)), some (.inl (zd)), some (.inl (zd))] [] h1 Q) : me_E (d + 1) 217 172 [some (.inr (.inr 109)), some (.inl (zu)), some (.inr (.inl (zv))), none, some (.inl (zn)), some (.inl (zd)), none] [] h Q := me_seg (mp_shD_0 h d zu zn zd zv) (mi_tab_shD_0) hS (mi_okL_c (trivial) (mi_okL_c (ok_zu) (mi_okL_c (trivial) (mi_okL_n (mi_okL_c (ok_zn) (mi_okL_c (ok_zd) (mi_okL_n (mi_okL_e)))))))) (mi_okS_e) (mi_al_e) (fun h1 W _ hst => kon h1 W)
set_option maxRecDepth 20000 in
theorem mt_shD {h : sm_H} {d : Nat} {Q : Option mi_V → sm_H → Prop} {zu zn zd : Int} {zv : Int64} (hS : ab_Sh sx_sk h) (ok_zu : mi_in zu) (ok_zn : mi_in zn) (ok_zd : mi_in zd) (k0 : (∀ h1, ab_Sh sx_sk h1 → ab_Fr [] h h1 → me_E (d + 1) 217 176 [some (.inr (.inr 109)), some (.inl (zu)), some (.inr (.inl (zv))), none, some (.inl (zn)), some (.inl (zd)), some (.inl (zd))] [] h1 Q)) : me_E (d + 1) 217 172 [some (.inr (.inr 109)), some (.inl (zu)), some (.inr (.inl (zv))), none, some (.inl (zn)), some (.inl (zd)), none] [] h Q := ms_shD_0 hS ok_zu ok_zn ok_zd (fun h1 W => (k0) h1 W.1 (W.2.2.2.2.2 _ rfl))
set_option maxRecDepth 20000 in
theorem mp_shE_0 (h : sm_H) (d : Nat) (zu zn zd ze : Int) (zv : Int64) : mi_path [(217, (7, 0, sb_217))] sx_sk h 2 [1] (d + 1, 217, 176, [some (.inr (.inr 109)), some (.inl (zu)), some (.inr (.inl (zv))), none, some (.inl (zn)), some (.inl (zd)), some (.inl (ze))], [], [], []) = some ((d + 1, 217, 206, [some (.inr (.inr 109)), some (.inl (zu)), some (.inr (.inl (zv))), none, some (.inl (zn)), some (.inl (zd)), some (.inl (ze))], [], [], []), [ze ≤ ((0 : Int))]) := rfl
theorem mi_tab_shE_0 : ∀ e ∈ ([(217, (7, 0, sb_217))] : mi_T), sc_P e.1 = some e.2 := mi_tb mi_P217 (mi_tb_e)
set_option maxRecDepth 20000 in
theorem ms_shE_0 {h : sm_H} {d : Nat} {Q : Option mi_V → sm_H → Prop} {zu zn zd ze : Int} {zv : Int64} (hS : ab_Sh sx_sk h) (ok_zu : mi_in zu) (ok_zn : mi_in zn) (ok_zd : mi_in zd) (ok_ze : mi_in ze) (ho : (ze ≤ ((0 : Int)))) (kon : ∀ h1, me_W [] h h1 → Q none h1) : me_E (d + 1) 217 176 [some (.inr (.inr 109)), some (.inl (zu)), some (.inr (.inl (zv))), none, some (.inl (zn)), some (.inl (zd)), some (.inl (ze))] [] h Q := me_seg (mp_shE_0 h d zu zn zd ze zv) (mi_tab_shE_0) hS (mi_okL_c (trivial) (mi_okL_c (ok_zu) (mi_okL_c (trivial) (mi_okL_n (mi_okL_c (ok_zn) (mi_okL_c (ok_zd) (mi_okL_c (ok_ze) (mi_okL_e)))))))) (mi_okS_e) (mi_al (ho) (mi_al_e)) (fun h1 W _ hst => me_ret (M := (7, 0, sb_217)) rfl rfl rfl hst (mi_al_e) (kon h1 W))
set_option maxRecDepth 20000 in
theorem mp_shE_1 (h : sm_H) (d : Nat) (zu zn zd ze : Int) (zv : Int64) : mi_path [(217, (7, 0, sb_217))] sx_sk h 10 [0, 9] (d + 1, 217, 176, [some (.inr (.inr 109)), some (.inl (zu)), some (.inr (.inl (zv))), none, some (.inl (zn)), some (.inl (zd)), some (.inl (ze))], [], [], []) = some ((d + 1, 217, 193, [some (.inr (.inr 109)), some (.inl (zu)), some (.inr (.inl (zv))), none, some (.inl (zn)), some (.inl (zd)), some (.inl (ze))], [.inl ((Int32.ofInt ((48 : Int)) + Int32.ofInt ((Int32.ofInt ((Int32.ofInt zn / Int32.ofInt ze).toInt) - Int32.ofInt ((Int32.ofInt zn / Int32.ofInt ze).toInt) / Int32.ofInt ((10 : Int)) * Int32.ofInt ((10 : Int))).toInt)).toInt), .inr (.inr 109)], [], []), [((0 : Int)) < ze, ze ≠ 0, ((10 : Int)) ≠ 0]) := rfl
theorem mi_tab_shE_1 : ∀ e ∈ ([(217, (7, 0, sb_217))] : mi_T), sc_P e.1 = some e.2 := mi_tb mi_P217 (mi_tb_e)
set_option maxRecDepth 20000 in
theorem ms_shE_1 {h : sm_H} {d : Nat} {Q : Option mi_V → sm_H → Prop} {zu zn zd ze : Int} {zv : Int64} (hS : ab_Sh sx_sk h) (ok_zu : mi_in zu) (ok_zn : mi_in zn) (ok_zd : mi_in zd) (ok_ze : mi_in ze) (ho : (((0 : Int)) < ze) ∧ (ze ≠ 0) ∧ (((10 : Int)) ≠ 0)) (kon : ∀ h1, me_W [] h h1 → ∃ Q1, me_E (d + 0) 220 0 (mi_entry 2 [.inr (.inr 109), .inl ((Int32.ofInt ((48 : Int)) + Int32.ofInt ((Int32.ofInt ((Int32.ofInt zn / Int32.ofInt ze).toInt) - Int32.ofInt ((Int32.ofInt zn / Int32.ofInt ze).toInt) / Int32.ofInt ((10 : Int)) * Int32.ofInt ((10 : Int))).toInt)).toInt)]) [] h1 Q1 ∧ ∀ w h2, (∀ x, w = some x → mi_ok x) → Q1 w h2 → me_E (d + 1) 217 196 [some (.inr (.inr 109)), some (.inl (zu)), some (.inr (.inl (zv))), none, some (.inl (zn)), some (.inl (zd)), some (.inl (ze))] (mi_back w []) h2 Q) : me_E (d + 1) 217 176 [some (.inr (.inr 109)), some (.inl (zu)), some (.inr (.inl (zv))), none, some (.inl (zn)), some (.inl (zd)), some (.inl (ze))] [] h Q := me_seg (mp_shE_1 h d zu zn zd ze zv) (mi_tab_shE_1) hS (mi_okL_c (trivial) (mi_okL_c (ok_zu) (mi_okL_c (trivial) (mi_okL_n (mi_okL_c (ok_zn) (mi_okL_c (ok_zd) (mi_okL_c (ok_ze) (mi_okL_e)))))))) (mi_okS_e) (mi_al (ho.1) (mi_al (ho.2.1) (mi_al (ho.2.2) (mi_al_e)))) (fun h1 W _ hst => let ⟨_, k1, k2⟩ := kon h1 W; me_call (M := (7, 0, sb_217)) (M' := (2, 0, sb_220)) rfl rfl rfl rfl (Nat.le_of_ble_eq_true rfl) (Nat.le_of_ble_eq_true rfl) W.1 k1 k2)
set_option maxRecDepth 20000 in
theorem mt_shE {h : sm_H} {d : Nat} {Q : Option mi_V → sm_H → Prop} {zu zn zd ze : Int} {zv : Int64} (hS : ab_Sh sx_sk h) (ok_zu : mi_in zu) (ok_zn : mi_in zn) (ok_zd : mi_in zd) (ok_ze : mi_in ze) (k0 : (ze ≤ ((0 : Int))) → (∀ h1, ab_Sh sx_sk h1 → ab_Fr [] h h1 → Q none h1)) (k1 : (((0 : Int)) < ze) → ((ze ≠ 0)) ∧ (∀ h1, ab_Sh sx_sk h1 → ab_Fr [] h h1 → ∃ Q1, me_E (d + 0) 220 0 (mi_entry 2 [.inr (.inr 109), .inl ((Int32.ofInt ((48 : Int)) + Int32.ofInt ((Int32.ofInt ((Int32.ofInt zn / Int32.ofInt ze).toInt) - Int32.ofInt ((Int32.ofInt zn / Int32.ofInt ze).toInt) / Int32.ofInt ((10 : Int)) * Int32.ofInt ((10 : Int))).toInt)).toInt)]) [] h1 Q1 ∧ ∀ w h2, (∀ x, w = some x → mi_ok x) → Q1 w h2 → me_E (d + 1) 217 196 [some (.inr (.inr 109)), some (.inl (zu)), some (.inr (.inl (zv))), none, some (.inl (zn)), some (.inl (zd)), some (.inl (ze))] (mi_back w []) h2 Q)) : me_E (d + 1) 217 176 [some (.inr (.inr 109)), some (.inl (zu)), some (.inr (.inl (zv))), none, some (.inl (zn)), some (.inl (zd)), some (.inl (ze))] [] h Q := Or.elim (mi_em .le (ze) (((0 : Int)))) (fun c0 => ms_shE_0 hS ok_zu ok_zn ok_zd ok_ze (c0) (fun h1 W => (k0 c0) h1 W.1 (W.2.2.2.2.2 _ rfl))) (fun c0 => ms_shE_1 hS ok_zu ok_zn ok_zd ok_ze ⟨c0, (k1 c0).1, (by decide)⟩ (fun h1 W => (k1 c0).2 h1 W.1 (W.2.2.2.2.2 _ rfl)))
set_option maxRecDepth 20000 in
theorem mp_shF_0 (h : sm_H) (d : Nat) (zu zn zd ze : Int) (zv : Int64) : mi_path [(217, (7, 0, sb_217))] sx_sk h 5 [] (d + 1, 217, 196, [some (.inr (.inr 109)), some (.inl (zu)), some (.inr (.inl (zv))), none, some (.inl (zn)), some (.inl (zd)), some (.inl (ze))], [], [], []) = some ((d + 1, 217, 176, [some (.inr (.inr 109)), some (.inl (zu)), some (.inr (.inl (zv))), none, some (.inl (zn)), some (.inl (zd)), some (.inl ((Int32.ofInt ze / Int32.ofInt ((10 : Int))).toInt))], [], [], []), [((10 : Int)) ≠ 0]) := rfl
theorem mi_tab_shF_0 : ∀ e ∈ ([(217, (7, 0, sb_217))] : mi_T), sc_P e.1 = some e.2 := mi_tb mi_P217 (mi_tb_e)
set_option maxRecDepth 20000 in
theorem ms_shF_0 {h : sm_H} {d : Nat} {Q : Option mi_V → sm_H → Prop} {zu zn zd ze : Int} {zv : Int64} (hS : ab_Sh sx_sk h) (ok_zu : mi_in zu) (ok_zn : mi_in zn) (ok_zd : mi_in zd) (ok_ze : mi_in ze) (ho : (((10 : Int)) ≠ 0)) (kon : ∀ h1, me_W [] h h1 → me_E (d + 1) 217 176 [some (.inr (.inr 109)), some (.inl (zu)), some (.inr (.inl (zv))), none, some (.inl (zn)), some (.inl (zd)), some (.inl ((Int32.ofInt ze / Int32.ofInt ((10 : Int))).toInt))] [] h1 Q) : me_E (d + 1) 217 196 [some (.inr (.inr 109)), some (.inl (zu)), some (.inr (.inl (zv))), none, some (.inl (zn)), some (.inl (zd)), some (.inl (ze))] [] h Q := me_seg (mp_shF_0 h d zu zn zd ze zv) (mi_tab_shF_0) hS (mi_okL_c (trivial) (mi_okL_c (ok_zu) (mi_okL_c (trivial) (mi_okL_n (mi_okL_c (ok_zn) (mi_okL_c (ok_zd) (mi_okL_c (ok_ze) (mi_okL_e)))))))) (mi_okS_e) (mi_al (ho) (mi_al_e)) (fun h1 W _ hst => kon h1 W)
set_option maxRecDepth 20000 in
theorem mt_shF {h : sm_H} {d : Nat} {Q : Option mi_V → sm_H → Prop} {zu zn zd ze : Int} {zv : Int64} (hS : ab_Sh sx_sk h) (ok_zu : mi_in zu) (ok_zn : mi_in zn) (ok_zd : mi_in zd) (ok_ze : mi_in ze) (k0 : (∀ h1, ab_Sh sx_sk h1 → ab_Fr [] h h1 → me_E (d + 1) 217 176 [some (.inr (.inr 109)), some (.inl (zu)), some (.inr (.inl (zv))), none, some (.inl (zn)), some (.inl (zd)), some (.inl ((Int32.ofInt ze / Int32.ofInt ((10 : Int))).toInt))] [] h1 Q)) : me_E (d + 1) 217 196 [some (.inr (.inr 109)), some (.inl (zu)), some (.inr (.inl (zv))), none, some (.inl (zn)), some (.inl (zd)), some (.inl (ze))] [] h Q := ms_shF_0 hS ok_zu ok_zn ok_zd ok_ze ((by decide)) (fun h1 W => (k0) h1 W.1 (W.2.2.2.2.2 _ rfl))
set_option maxRecDepth 20000 in
theorem mp_shG_0 (h : sm_H) (d : Nat) (zu zl : Int) : mi_path [(217, (7, 0, sb_217))] sx_sk h 5 [] (d + 1, 217, 52, [some (.inr (.inr 109)), some (.inl (zu)), some (.inl (zl)), none, none, none, none], [], [], []) = some ((d + 1, 217, 59, [some (.inr (.inr 109)), some (.inl (zu)), some (.inl (zl)), none, none, none, none], [.inl (mi_a h 117 (Int.toNat zl)), .inr (.inr 109)], [], []), [0 ≤ zl ∧ zl < 20]) := rfl
theorem mi_tab_shG_0 : ∀ e ∈ ([(217, (7, 0, sb_217))] : mi_T), sc_P e.1 = some e.2 := mi_tb mi_P217 (mi_tb_e)
set_option maxRecDepth 20000 in
theorem ms_shG_0 {h : sm_H} {d : Nat} {Q : Option mi_V → sm_H → Prop} {zu zl : Int} (hS : ab_Sh sx_sk h) (ok_zu : mi_in zu) (ok_zl : mi_in zl) (ho : (0 ≤ zl ∧ zl < 20)) (kon : ∀ h1, me_W [] h h1 → ∃ Q1, me_E (d + 0) 220 0 (mi_entry 2 [.inr (.inr 109), .inl (mi_a h 117 (Int.toNat zl))]) [] h1 Q1 ∧ ∀ w h2, (∀ x, w = some x → mi_ok x) → Q1 w h2 → me_E (d + 1) 217 62 [some (.inr (.inr 109)), some (.inl (zu)), some (.inl (zl)), none, none, none, none] (mi_back w []) h2 Q) : me_E (d + 1) 217 52 [some (.inr (.inr 109)), some (.inl (zu)), some (.inl (zl)), none, none, none, none] [] h Q := me_seg (mp_shG_0 h d zu zl) (mi_tab_shG_0) hS (mi_okL_c (trivial) (mi_okL_c (ok_zu) (mi_okL_c (ok_zl) (mi_okL_n (mi_okL_n (mi_okL_n (mi_okL_n (mi_okL_e)))))))) (mi_okS_e) (mi_al (ho) (mi_al_e)) (fun h1 W _ hst => let ⟨_, k1, k2⟩ := kon h1 W; me_call (M := (7, 0, sb_217)) (M' := (2, 0, sb_220)) rfl rfl rfl rfl (Nat.le_of_ble_eq_true rfl) (Nat.le_of_ble_eq_true rfl) W.1 k1 k2)
set_option maxRecDepth 20000 in
theorem mt_shG {h : sm_H} {d : Nat} {Q : Option mi_V → sm_H → Prop} {zu zl : Int} (hS : ab_Sh sx_sk h) (ok_zu : mi_in zu) (ok_zl : mi_in zl) (k0 : ((0 ≤ zl ∧ zl < 20)) ∧ (∀ h1, ab_Sh sx_sk h1 → ab_Fr [] h h1 → ∃ Q1, me_E (d + 0) 220 0 (mi_entry 2 [.inr (.inr 109), .inl (mi_a h 117 (Int.toNat zl))]) [] h1 Q1 ∧ ∀ w h2, (∀ x, w = some x → mi_ok x) → Q1 w h2 → me_E (d + 1) 217 62 [some (.inr (.inr 109)), some (.inl (zu)), some (.inl (zl)), none, none, none, none] (mi_back w []) h2 Q)) : me_E (d + 1) 217 52 [some (.inr (.inr 109)), some (.inl (zu)), some (.inl (zl)), none, none, none, none] [] h Q := ms_shG_0 hS ok_zu ok_zl ((k0).1) (fun h1 W => (k0).2 h1 W.1 (W.2.2.2.2.2 _ rfl))
set_option maxRecDepth 20000 in
theorem mp_shH_0 (h : sm_H) (d : Nat) (zu zl : Int) : mi_path [(217, (7, 0, sb_217))] sx_sk h 0 [] (d + 1, 217, 62, [some (.inr (.inr 109)), some (.inl (zu)), some (.inl (zl)), none, none, none, none], [], [], []) = some ((d + 1, 217, 62, [some (.inr (.inr 109)), some (.inl (zu)), some (.inl (zl)), none, none, none, none], [], [], []), []) := rfl
theorem mi_tab_shH_0 : ∀ e ∈ ([(217, (7, 0, sb_217))] : mi_T), sc_P e.1 = some e.2 := mi_tb mi_P217 (mi_tb_e)
set_option maxRecDepth 20000 in
theorem ms_shH_0 {h : sm_H} {d : Nat} {Q : Option mi_V → sm_H → Prop} {zu zl : Int} (hS : ab_Sh sx_sk h) (ok_zu : mi_in zu) (ok_zl : mi_in zl) (kon : ∀ h1, me_W [] h h1 → Q none h1) : me_E (d + 1) 217 62 [some (.inr (.inr 109)), some (.inl (zu)), some (.inl (zl)), none, none, none, none] [] h Q := me_seg (mp_shH_0 h d zu zl) (mi_tab_shH_0) hS (mi_okL_c (trivial) (mi_okL_c (ok_zu) (mi_okL_c (ok_zl) (mi_okL_n (mi_okL_n (mi_okL_n (mi_okL_n (mi_okL_e)))))))) (mi_okS_e) (mi_al_e) (fun h1 W _ hst => me_ret (M := (7, 0, sb_217)) rfl rfl rfl hst (mi_al_e) (kon h1 W))
set_option maxRecDepth 20000 in
theorem mt_shH {h : sm_H} {d : Nat} {Q : Option mi_V → sm_H → Prop} {zu zl : Int} (hS : ab_Sh sx_sk h) (ok_zu : mi_in zu) (ok_zl : mi_in zl) (k0 : (∀ h1, ab_Sh sx_sk h1 → ab_Fr [] h h1 → Q none h1)) : me_E (d + 1) 217 62 [some (.inr (.inr 109)), some (.inl (zu)), some (.inl (zl)), none, none, none, none] [] h Q := ms_shH_0 hS ok_zu ok_zl (fun h1 W => (k0) h1 W.1 (W.2.2.2.2.2 _ rfl))
set_option maxRecDepth 20000 in
theorem mp_shI_0 (h : sm_H) (d : Nat) (zu zl : Int) : mi_path [(217, (7, 0, sb_217))] sx_sk h 1 [] (d + 1, 217, 39, [some (.inr (.inr 109)), some (.inl (zu)), some (.inl (zl)), none, none, none, none], [], [], []) = some ((d + 1, 217, 62, [some (.inr (.inr 109)), some (.inl (zu)), some (.inl (zl)), none, none, none, none], [], [], []), []) := rfl
theorem mi_tab_shI_0 : ∀ e ∈ ([(217, (7, 0, sb_217))] : mi_T), sc_P e.1 = some e.2 := mi_tb mi_P217 (mi_tb_e)
set_option maxRecDepth 20000 in
theorem ms_shI_0 {h : sm_H} {d : Nat} {Q : Option mi_V → sm_H → Prop} {zu zl : Int} (hS : ab_Sh sx_sk h) (ok_zu : mi_in zu) (ok_zl : mi_in zl) (kon : ∀ h1, me_W [] h h1 → Q none h1) : me_E (d + 1) 217 39 [some (.inr (.inr 109)), some (.inl (zu)), some (.inl (zl)), none, none, none, none] [] h Q := me_seg (mp_shI_0 h d zu zl) (mi_tab_shI_0) hS (mi_okL_c (trivial) (mi_okL_c (ok_zu) (mi_okL_c (ok_zl) (mi_okL_n (mi_okL_n (mi_okL_n (mi_okL_n (mi_okL_e)))))))) (mi_okS_e) (mi_al_e) (fun h1 W _ hst => me_ret (M := (7, 0, sb_217)) rfl rfl rfl hst (mi_al_e) (kon h1 W))
set_option maxRecDepth 20000 in
theorem mt_shI {h : sm_H} {d : Nat} {Q : Option mi_V → sm_H → Prop} {zu zl : Int} (hS : ab_Sh sx_sk h) (ok_zu : mi_in zu) (ok_zl : mi_in zl) (k0 : (∀ h1, ab_Sh sx_sk h1 → ab_Fr [] h h1 → Q none h1)) : me_E (d + 1) 217 39 [some (.inr (.inr 109)), some (.inl (zu)), some (.inl (zl)), none, none, none, none] [] h Q := ms_shI_0 hS ok_zu ok_zl (fun h1 W => (k0) h1 W.1 (W.2.2.2.2.2 _ rfl))
set_option maxRecDepth 20000 in
theorem mp_shJ_0 (h : sm_H) (d : Nat) (zu : Int) (zv : Int64) : mi_path [(217, (7, 0, sb_217))] sx_sk h 0 [] (d + 1, 217, 98, [some (.inr (.inr 109)), some (.inl (zu)), some (.inr (.inl (zv))), none, none, none, none], [], [], []) = some ((d + 1, 217, 98, [some (.inr (.inr 109)), some (.inl (zu)), some (.inr (.inl (zv))), none, none, none, none], [], [], []), []) := rfl
theorem mi_tab_shJ_0 : ∀ e ∈ ([(217, (7, 0, sb_217))] : mi_T), sc_P e.1 = some e.2 := mi_tb mi_P217 (mi_tb_e)
set_option maxRecDepth 20000 in
theorem ms_shJ_0 {h : sm_H} {d : Nat} {Q : Option mi_V → sm_H → Prop} {zu : Int} {zv : Int64} (hS : ab_Sh sx_sk h) (ok_zu : mi_in zu) (kon : ∀ h1, me_W [] h h1 → Q none h1) : me_E (d + 1) 217 98 [some (.inr (.inr 109)), some (.inl (zu)), some (.inr (.inl (zv))), none, none, none, none] [] h Q := me_seg (mp_shJ_0 h d zu zv) (mi_tab_shJ_0) hS (mi_okL_c (trivial) (mi_okL_c (ok_zu) (mi_okL_c (trivial) (mi_okL_n (mi_okL_n (mi_okL_n (mi_okL_n (mi_okL_e)))))))) (mi_okS_e) (mi_al_e) (fun h1 W _ hst => me_ret (M := (7, 0, sb_217)) rfl rfl rfl hst (mi_al_e) (kon h1 W))
set_option maxRecDepth 20000 in
theorem mt_shJ {h : sm_H} {d : Nat} {Q : Option mi_V → sm_H → Prop} {zu : Int} {zv : Int64} (hS : ab_Sh sx_sk h) (ok_zu : mi_in zu) (k0 : (∀ h1, ab_Sh sx_sk h1 → ab_Fr [] h h1 → Q none h1)) : me_E (d + 1) 217 98 [some (.inr (.inr 109)), some (.inl (zu)), some (.inr (.inl (zv))), none, none, none, none] [] h Q := ms_shJ_0 hS ok_zu (fun h1 W => (k0) h1 W.1 (W.2.2.2.2.2 _ rfl))
/-! letters2, shown -/
section SHO
variable {h : sm_H} {d : Nat}
def wr_pr : List (Nat × Nat) := [(14037, 14038), (14044, 14047), (21760, 21761)]
theorem lg_pos {x : Int64} (h : 0 < (lg_cmp x (Int64.ofNat 0)).toInt) : 0 < x.toInt := by
  unfold lg_cmp at h
  split at h
  · next hc =>
    rw [gt_iff_lt, Int64.lt_iff_toInt_lt] at hc
    exact hc
  · split at h
    · exfalso; revert h; decide
    · exfalso; revert h; decide
theorem lg_shr5 (x : Int64) : (x >>> ((Int32.ofInt ((5 : Int))).toInt64 &&& 63)).toInt = x.toInt / 32 := by
  show (x >>> ((Int32.ofInt ((5 : Int))).toInt64 &&& 63)).toBitVec.toInt = _
  rw [Int64.toBitVec_shiftRight]
  have e : ((Int32.ofInt ((5 : Int))).toInt64 &&& 63).toBitVec.smod 64 = 5#64 := by decide
  rw [e]
  show (x.toBitVec.sshiftRight 5).toInt = _
  rw [BitVec.toInt_sshiftRight, Int.shiftRight_eq_div_pow]
  rfl
theorem me_wr {zc : Int} (hS : ab_Sh sx_sk h) (ok : mi_in zc) : me_E d 220 0 [some (.inr (.inr 109)), some (.inl zc)] [] h (fun w h' => w = none ∧ ab_Sh sx_sk h' ∧ ab_Fr wr_pr h h') := by
  have := me_abs (M := (2, 0, sb_220)) (as := [.inr (.inr 109), .inl zc]) xo_v_write rfl hS ⟨rfl, me_nv1 ok ok.1 ok.2, trivial⟩ (fun e he => by cases he) (by decide)
  exact (me_E.deep (d' := d) this (Nat.zero_le _)).imp (fun w h' hq => ⟨by obtain ⟨-, -, p, -, hp, -⟩ := hq; unfold mi_res at hp; rw [if_pos rfl] at hp; exact hp, hq.1, hq.2.1.wide (fun c hc => ab_swr_ok (by decide) hc)⟩)
theorem me_be {zc : Int} (hS : ab_Sh sx_sk h) (ok : mi_in zc) : me_E (d + 2) 219 0 [some (.inr (.inr 109)), some (.inl zc), none] [] h (fun w h' => w = none ∧ ab_Sh sx_sk h' ∧ ab_Fr wr_pr h h') := by
  have := me_abs (M := (3, 0, sb_219)) (as := [.inr (.inr 109), .inl zc]) xo_v_between rfl hS ⟨rfl, me_nv1 ok ok.1 ok.2, trivial⟩ (fun e he => by cases he) (by decide)
  exact (me_E.deep (d' := d + 2) this (Nat.le_add_left _ _)).imp (fun w h' hq => ⟨by obtain ⟨-, -, p, -, hp, -⟩ := hq; unfold mi_res at hp; rw [if_pos rfl] at hp; exact hp, hq.1, hq.2.1.wide (fun c hc => ab_swr_ok (by decide) hc)⟩)
theorem me_l2C {zw : Int64} : ∀ (N : Nat) (zv : Int64) (h : sm_H), zv.toInt < N → ab_Sh sx_sk h → me_E (d + 1) 218 15 [some (.inr (.inr 109)), some (.inr (.inl zw)), none, some (.inr (.inl zv)), none] [] h (fun w h' => w = none ∧ ab_Sh sx_sk h' ∧ ab_Fr wr_pr h h') := by
  intro N
  induction N with
  | zero =>
    intro zv h hv hS
    refine mt_l2C hS ?_ ?_
    · intro c h1 g1 g2
      exact ⟨rfl, g1, g2.wide (fun c hc => by cases hc)⟩
    · intro c
      have := lg_pos c
      omega
  | succ N ih =>
    intro zv h hv hS
    refine mt_l2C hS ?_ ?_
    · intro c h1 g1 g2
      exact ⟨rfl, g1, g2.wide (fun c hc => by cases hc)⟩
    · intro c h1 g1 g2
      have hp := lg_pos c
      refine ⟨_, me_wr g1 (mi_inT _), ?_⟩
      intro w h2 hw hq
      obtain ⟨rfl, q1, q2⟩ := hq
      refine mt_l2D q1 ?_
      intro h3 r1 r2
      refine (ih _ h3 ?_ r1).imp (fun w h' hq => ⟨hq.1, hq.2.1, (((g2.wide (fun c hc => by cases hc)).trans q2).trans (r2.wide (fun c hc => by cases hc))).trans hq.2.2⟩)
      rw [lg_shr5]
      omega
theorem me_letters2 {zw : Int64} (hS : ab_Sh sx_sk h) : me_E (d + 3) 218 0 [some (.inr (.inr 109)), some (.inr (.inl zw)), none, none, none] [] h (fun w h' => w = none ∧ ab_Sh sx_sk h' ∧ ab_Fr wr_pr h h') := by
  refine mt_l2A (d := d + 2) hS ?_
  intro h1 g1 g2
  refine ⟨_, me_be g1 (mi_inT _), ?_⟩
  intro w h2 hw hq
  obtain ⟨rfl, q1, q2⟩ := hq
  refine mt_l2B q1 ?_
  intro h3 r1 r2
  exact (me_l2C (zw.toInt.toNat + 1) zw h3 (by omega) r1).imp (fun w h' hq => ⟨hq.1, hq.2.1, (((g2.wide (fun c hc => by cases hc)).trans q2).trans (r2.wide (fun c hc => by cases hc))).trans hq.2.2⟩)
theorem sh_div (z : Int) (h0 : 0 ≤ z) (h1 : z ≤ 2147483647) : (Int32.ofInt z / Int32.ofInt ((10 : Int))).toInt = z / 10 := by
  have e : (Int32.ofInt ((10 : Int))).toInt = 10 := rfl
  rw [Int32.toInt_div, mi_ti ⟨by omega, h1⟩, e, Int.tdiv_eq_ediv_of_nonneg h0]
  exact Int.bmod_eq_of_le (by omega) (by omega)
theorem me_shE {zu zn zd : Int} {zv : Int64} (ou : mi_in zu) (on : mi_in zn) (od : mi_in zd) : ∀ (N : Nat) (ze : Int) (h : sm_H), ze < N → mi_in ze → ab_Sh sx_sk h → me_E (d + 1) 217 176 [some (.inr (.inr 109)), some (.inl zu), some (.inr (.inl zv)), none, some (.inl zn), some (.inl zd), some (.inl ze)] [] h (fun w h' => w = none ∧ ab_Sh sx_sk h' ∧ ab_Fr wr_pr h h') := by
  intro N
  induction N with
  | zero =>
    intro ze h hv oe hS
    refine mt_shE hS ou on od oe ?_ ?_
    · intro c h1 g1 g2
      exact ⟨rfl, g1, g2.wide (fun c hc => by cases hc)⟩
    · intro c
      exfalso; omega
  | succ N ih =>
    intro ze h hv oe hS
    refine mt_shE hS ou on od oe ?_ ?_
    · intro c h1 g1 g2
      exact ⟨rfl, g1, g2.wide (fun c hc => by cases hc)⟩
    · intro c
      refine ⟨by omega, fun h1 g1 g2 => ⟨_, me_wr g1 (mi_inT _), ?_⟩⟩
      intro w h2 hw hq
      obtain ⟨rfl, q1, q2⟩ := hq
      refine mt_shF q1 ou on od oe ?_
      intro h3 r1 r2
      rw [sh_div ze (by omega) oe.2]
      exact (ih _ h3 (by omega) ⟨by have := oe.2; omega, by have := oe.2; omega⟩ r1).imp (fun w h' hq => ⟨hq.1, hq.2.1, (((g2.wide (fun c hc => by cases hc)).trans q2).trans (r2.wide (fun c hc => by cases hc))).trans hq.2.2⟩)
theorem me_sh160 {zu zn zd : Int} {zv : Int64} (ou : mi_in zu) (on : mi_in zn) (hS : ab_Sh sx_sk h) (h0 : 0 < zd) (h1 : zd ≤ 1000) : me_E (d + 3) 217 160 [some (.inr (.inr 109)), some (.inl zu), some (.inr (.inl zv)), none, some (.inl zn), some (.inl zd), none] [] h (fun w h' => w = none ∧ ab_Sh sx_sk h' ∧ ab_Fr wr_pr h h') := by
  have od : mi_in zd := ⟨by omega, by omega⟩
  refine mt_shC (d := d + 2) hS ou on od ?_
  refine ⟨by omega, fun h1 g1 g2 => ⟨_, me_be g1 (mi_inT _), ?_⟩⟩
  intro w h2 hw hq
  obtain ⟨rfl, q1, q2⟩ := hq
  refine mt_shD q1 ou on od ?_
  intro h3 r1 r2
  exact (me_shE ou on od 2000 zd h3 (by omega) od r1).imp (fun w h' hq => ⟨hq.1, hq.2.1, (((g2.wide (fun c hc => by cases hc)).trans q2).trans (r2.wide (fun c hc => by cases hc))).trans hq.2.2⟩)
theorem me_sh119 {zu zn : Int} {zv : Int64} (ou : mi_in zu) (on : mi_in zn) (hS : ab_Sh sx_sk h) : me_E (d + 3) 217 119 [some (.inr (.inr 109)), some (.inl zu), some (.inr (.inl zv)), none, some (.inl zn), none, none] [] h (fun w h' => w = none ∧ ab_Sh sx_sk h' ∧ ab_Fr wr_pr h h') := by
  have go : ∀ (zd : Int), 0 < zd → zd ≤ 1000 → ∀ h1, ab_Sh sx_sk h1 → ab_Fr [] h h1 → me_E (d + 3) 217 160 [some (.inr (.inr 109)), some (.inl zu), some (.inr (.inl zv)), none, some (.inl zn), some (.inl zd), none] [] h1 (fun w h' => w = none ∧ ab_Sh sx_sk h' ∧ ab_Fr wr_pr h h') := fun zd z0 z1 h1 g1 g2 => (me_sh160 ou on g1 z0 z1).imp (fun w h' hq => ⟨hq.1, hq.2.1, (g2.wide (fun c hc => by cases hc)).trans hq.2.2⟩)
  refine mt_shB (d := d + 2) hS ou on ?_ ?_ ?_ ?_
  · intro c1 c2 c3
    exact go 1 (by decide) (by decide)
  · intro c1 c2 c3
    exact go 10 (by decide) (by decide)
  · intro c1 c2
    exact go 100 (by decide) (by decide)
  · intro c1
    exact go 1000 (by decide) (by decide)
def wr_sh : List (Nat × Nat) := [(14033, 14034), (14037, 14038), (14044, 14047), (21760, 21761)]
theorem me_shown {zu : Int} (hS : ab_Sh sx_sk h) (hu0 : 0 ≤ zu) (hu1 : zu < 60) (hs : mi_a h 119 zu.toNat = 1 ∨ mi_a h 119 zu.toNat = 2 ∨ mi_a h 119 zu.toNat = 8) (hl : mi_a h 119 zu.toNat = 8 → 0 ≤ mi_a h 120 zu.toNat ∧ mi_a h 120 zu.toNat < 20) (hn : mi_a h 119 zu.toNat ≠ 8 → 0 ≤ mi_f h 14033 ∧ mi_f h 14033 < 100) : me_E (d + 4) 217 0 [some (.inr (.inr 109)), some (.inl zu), none, none, none, none, none] [] h (fun w h' => w = none ∧ ab_Sh sx_sk h' ∧ ab_Fr wr_sh h h' ∧ mi_f h' 14033 = if mi_a h 119 zu.toNat = 8 then mi_f h 14033 else mi_f h 14033 + 1) := by
  have ou : mi_in zu := ⟨by omega, by omega⟩
  have hnx : mi_a h 119 zu.toNat ≠ 8 → (Int32.ofInt (mi_f h 14033) + Int32.ofInt ((1 : Int))).toInt = mi_f h 14033 + 1 := fun e => by
    have := hn e
    rw [← Int32.ofInt_add, mi_ti ⟨by omega, by omega⟩]
  have fin : ∀ {w : Option mi_V} {h1 h2 : sm_H}, mi_a h 119 zu.toNat ≠ 8 → ab_Sh sx_sk h1 → mi_f h1 14033 = (Int32.ofInt (mi_f h 14033) + Int32.ofInt ((1 : Int))).toInt → ab_Fr [(14033, 14034)] h h1 → (w = none ∧ ab_Sh sx_sk h2 ∧ ab_Fr wr_pr h1 h2) → (w = none ∧ ab_Sh sx_sk h2 ∧ ab_Fr wr_sh h h2 ∧ mi_f h2 14033 = if mi_a h 119 zu.toNat = 8 then mi_f h 14033 else mi_f h 14033 + 1) := fun e g1 g2 g3 hq => by
    refine ⟨hq.1, hq.2.1, (g3.wide (fun c hc => ab_swr_ok (by decide) hc)).trans (hq.2.2.wide (fun c hc => ab_swr_ok (by decide) hc)), ?_⟩
    rw [if_neg e, me_f (c := 14033) hq.2.2 g1 rfl rfl, g2, hnx e]
  have lit : ∀ {w : Option mi_V} {h2 : sm_H}, mi_a h 119 zu.toNat = 8 → (w = none ∧ ab_Sh sx_sk h2 ∧ ab_Fr wr_pr h h2) → (w = none ∧ ab_Sh sx_sk h2 ∧ ab_Fr wr_sh h h2 ∧ mi_f h2 14033 = if mi_a h 119 zu.toNat = 8 then mi_f h 14033 else mi_f h 14033 + 1) := fun e hq => by
    refine ⟨hq.1, hq.2.1, hq.2.2.wide (fun c hc => ab_swr_ok (by decide) hc), ?_⟩
    rw [if_pos e, me_f (c := 14033) hq.2.2 hS rfl rfl]
  refine mt_shA (d := d + 3) hS ou ?_ ?_ ?_ ?_
  · intro b c1 c2
    have hn := hn c1
    refine ⟨by omega, fun h1 g1 g2 g3 => ?_⟩
    exact (me_sh119 (d := d + 1) ou (mi_inT _) g1).imp (fun w h' hq => fin c1 g1 g2 g3 hq)
  · intro b c1 c2
    have hn := hn c1
    refine ⟨by omega, fun h1 g1 g2 g3 => ⟨_, me_letters2 (d := d) g1, ?_⟩⟩
    intro w h2 hw hq
    obtain ⟨rfl, q1, q2⟩ := hq
    refine mt_shJ (d := d + 3) q1 ou ?_
    intro h3 r1 r2
    exact fin c1 g1 g2 g3 ⟨rfl, r1, q2.trans (r2.wide (fun c hc => by cases hc))⟩
  · intro c1 c2
    have hl := hl c1
    refine ⟨by omega, fun h1 g1 g2 => ⟨_, me_be (d := d + 1) g1 (mi_inT _), ?_⟩⟩
    intro w h2 hw hq
    obtain ⟨rfl, q1, q2⟩ := hq
    refine mt_shG (d := d + 3) q1 ou (mi_inT _) ?_
    refine ⟨by omega, fun h3 r1 r2 => ⟨_, me_wr r1 (mi_inT _), ?_⟩⟩
    intro w h4 hw4 hq4
    obtain ⟨rfl, t1, t2⟩ := hq4
    refine mt_shH (d := d + 3) t1 ou (mi_inT _) ?_
    intro h5 u1 u2
    exact lit c1 ⟨rfl, u1, ((((g2.wide (fun c hc => by cases hc)).trans q2).trans (r2.wide (fun c hc => by cases hc))).trans t2).trans (u2.wide (fun c hc => by cases hc))⟩
  · intro c1 c2
    have hl := hl c1
    refine ⟨by omega, fun h1 g1 g2 => ⟨_, me_letters2 (d := d) g1, ?_⟩⟩
    intro w h2 hw hq
    obtain ⟨rfl, q1, q2⟩ := hq
    refine mt_shI (d := d + 3) q1 ou (mi_inT _) ?_
    intro h3 r1 r2
    exact lit c1 ⟨rfl, r1, ((g2.wide (fun c hc => by cases hc)).trans q2).trans (r2.wide (fun c hc => by cases hc))⟩
end SHO
/-! segments: single -/
set_option maxRecDepth 20000 in
theorem mp_sg_0 (h : sm_H) (d : Nat) (zu : Int) : mi_path [(213, (2, 0, sb_213)), (209, (4, 0, sb_209))] sx_sk h 14 [0, 1, 1] (d + 5, 213, 0, [some (.inr (.inr 109)), some (.inl (zu))], [], [], []) = some ((d + 5, 213, 126, [some (.inr (.inr 109)), some (.inl (zu))], [.inl (zu), .inr (.inr 109)], [], []), [0 ≤ zu ∧ zu < 60, (mi_a h 119 (Int.toNat zu)) = 1 + 0 ∧ (mi_a h 119 (Int.toNat zu)) ≤ 10, (mi_f h 14028) ≠ ((0 : Int)), (mi_f h 14028) ≠ ((1 : Int))]) := rfl
theorem mi_tab_sg_0 : ∀ e ∈ ([(213, (2, 0, sb_213)), (209, (4, 0, sb_209))] : mi_T), sc_P e.1 = some e.2 := mi_tb mi_P213 (mi_tb mi_P209 (mi_tb_e))
set_option maxRecDepth 20000 in
theorem ms_sg_0 {h : sm_H} {d : Nat} {Q : Option mi_V → sm_H → Prop} {zu : Int} (hS : ab_Sh sx_sk h) (ok_zu : mi_in zu) (ho : (0 ≤ zu ∧ zu < 60) ∧ ((mi_a h 119 (Int.toNat zu)) = 1 + 0 ∧ (mi_a h 119 (Int.toNat zu)) ≤ 10) ∧ ((mi_f h 14028) ≠ ((0 : Int))) ∧ ((mi_f h 14028) ≠ ((1 : Int)))) (kon : ∀ h1, me_W [] h h1 → ∃ Q1, me_E (d + 4) 217 0 (mi_entry 7 [.inr (.inr 109), .inl (zu)]) [] h1 Q1 ∧ ∀ w h2, (∀ x, w = some x → mi_ok x) → Q1 w h2 → me_E (d + 5) 213 129 [some (.inr (.inr 109)), some (.inl (zu))] (mi_back w []) h2 Q) : me_E (d + 5) 213 0 [some (.inr (.inr 109)), some (.inl (zu))] [] h Q := me_seg (mp_sg_0 h d zu) (mi_tab_sg_0) hS (mi_okL_c (trivial) (mi_okL_c (ok_zu) (mi_okL_e))) (mi_okS_e) (mi_al (ho.1) (mi_al (ho.2.1) (mi_al (ho.2.2.1) (mi_al (ho.2.2.2) (mi_al_e))))) (fun h1 W _ hst => let ⟨_, k1, k2⟩ := kon h1 W; me_call (M := (2, 0, sb_213)) (M' := (7, 0, sb_217)) rfl rfl rfl rfl (Nat.le_of_ble_eq_true rfl) (Nat.le_of_ble_eq_true rfl) W.1 k1 k2)
set_option maxRecDepth 20000 in
theorem mp_sg_1 (h : sm_H) (d : Nat) (zu : Int) : mi_path [(213, (2, 0, sb_213)), (209, (4, 0, sb_209))] sx_sk h 14 [0, 1, 0] (d + 5, 213, 0, [some (.inr (.inr 109)), some (.inl (zu))], [], [], []) = some ((d + 5, 213, 118, [some (.inr (.inr 109)), some (.inl (zu))], [.inl (zu), .inr (.inr 109)], [], []), [0 ≤ zu ∧ zu < 60, (mi_a h 119 (Int.toNat zu)) = 1 + 0 ∧ (mi_a h 119 (Int.toNat zu)) ≤ 10, (mi_f h 14028) ≠ ((0 : Int)), (mi_f h 14028) = ((1 : Int))]) := rfl
theorem mi_tab_sg_1 : ∀ e ∈ ([(213, (2, 0, sb_213)), (209, (4, 0, sb_209))] : mi_T), sc_P e.1 = some e.2 := mi_tb mi_P213 (mi_tb mi_P209 (mi_tb_e))
set_option maxRecDepth 20000 in
theorem ms_sg_1 {h : sm_H} {d : Nat} {Q : Option mi_V → sm_H → Prop} {zu : Int} (hS : ab_Sh sx_sk h) (ok_zu : mi_in zu) (ho : (0 ≤ zu ∧ zu < 60) ∧ ((mi_a h 119 (Int.toNat zu)) = 1 + 0 ∧ (mi_a h 119 (Int.toNat zu)) ≤ 10) ∧ ((mi_f h 14028) ≠ ((0 : Int))) ∧ ((mi_f h 14028) = ((1 : Int)))) (kon : ∀ h1, me_W [] h h1 → ∃ Q1, me_E (d + 4) 215 0 (mi_entry 6 [.inr (.inr 109), .inl (zu)]) [] h1 Q1 ∧ ∀ w h2, (∀ x, w = some x → mi_ok x) → Q1 w h2 → me_E (d + 5) 213 121 [some (.inr (.inr 109)), some (.inl (zu))] (mi_back w []) h2 Q) : me_E (d + 5) 213 0 [some (.inr (.inr 109)), some (.inl (zu))] [] h Q := me_seg (mp_sg_1 h d zu) (mi_tab_sg_1) hS (mi_okL_c (trivial) (mi_okL_c (ok_zu) (mi_okL_e))) (mi_okS_e) (mi_al (ho.1) (mi_al (ho.2.1) (mi_al (ho.2.2.1) (mi_al (ho.2.2.2) (mi_al_e))))) (fun h1 W _ hst => let ⟨_, k1, k2⟩ := kon h1 W; me_call (M := (2, 0, sb_213)) (M' := (6, 0, sb_215)) rfl rfl rfl rfl (Nat.le_of_ble_eq_true rfl) (Nat.le_of_ble_eq_true rfl) W.1 k1 k2)
set_option maxRecDepth 20000 in
theorem mp_sg_2 (h : sm_H) (d : Nat) (zu : Int) : mi_path [(213, (2, 0, sb_213)), (209, (4, 0, sb_209))] sx_sk h 10 [0, 0] (d + 5, 213, 0, [some (.inr (.inr 109)), some (.inl (zu))], [], [], []) = some ((d + 5, 213, 102, [some (.inr (.inr 109)), some (.inl (zu))], [.inl (zu), .inr (.inr 109)], [], []), [0 ≤ zu ∧ zu < 60, (mi_a h 119 (Int.toNat zu)) = 1 + 0 ∧ (mi_a h 119 (Int.toNat zu)) ≤ 10, (mi_f h 14028) = ((0 : Int))]) := rfl
theorem mi_tab_sg_2 : ∀ e ∈ ([(213, (2, 0, sb_213)), (209, (4, 0, sb_209))] : mi_T), sc_P e.1 = some e.2 := mi_tb mi_P213 (mi_tb mi_P209 (mi_tb_e))
set_option maxRecDepth 20000 in
theorem ms_sg_2 {h : sm_H} {d : Nat} {Q : Option mi_V → sm_H → Prop} {zu : Int} (hS : ab_Sh sx_sk h) (ok_zu : mi_in zu) (ho : (0 ≤ zu ∧ zu < 60) ∧ ((mi_a h 119 (Int.toNat zu)) = 1 + 0 ∧ (mi_a h 119 (Int.toNat zu)) ≤ 10) ∧ ((mi_f h 14028) = ((0 : Int)))) (kon : ∀ h1, me_W [] h h1 → ∃ Q1, me_E (d + 4) 214 0 (mi_entry 3 [.inr (.inr 109), .inl (zu)]) [] h1 Q1 ∧ ∀ w h2, (∀ x, w = some x → mi_ok x) → Q1 w h2 → me_E (d + 5) 213 105 [some (.inr (.inr 109)), some (.inl (zu))] (mi_back w []) h2 Q) : me_E (d + 5) 213 0 [some (.inr (.inr 109)), some (.inl (zu))] [] h Q := me_seg (mp_sg_2 h d zu) (mi_tab_sg_2) hS (mi_okL_c (trivial) (mi_okL_c (ok_zu) (mi_okL_e))) (mi_okS_e) (mi_al (ho.1) (mi_al (ho.2.1) (mi_al (ho.2.2) (mi_al_e)))) (fun h1 W _ hst => let ⟨_, k1, k2⟩ := kon h1 W; me_call (M := (2, 0, sb_213)) (M' := (3, 0, sb_214)) rfl rfl rfl rfl (Nat.le_of_ble_eq_true rfl) (Nat.le_of_ble_eq_true rfl) W.1 k1 k2)
set_option maxRecDepth 20000 in
theorem mp_sg_3 (h : sm_H) (d : Nat) (zu : Int) : mi_path [(213, (2, 0, sb_213)), (209, (4, 0, sb_209))] sx_sk h 14 [1, 1, 1] (d + 5, 213, 0, [some (.inr (.inr 109)), some (.inl (zu))], [], [], []) = some ((d + 5, 213, 126, [some (.inr (.inr 109)), some (.inl (zu))], [.inl (zu), .inr (.inr 109)], [], []), [0 ≤ zu ∧ zu < 60, (mi_a h 119 (Int.toNat zu)) = 1 + 1 ∧ (mi_a h 119 (Int.toNat zu)) ≤ 10, (mi_f h 14028) ≠ ((0 : Int)), (mi_f h 14028) ≠ ((1 : Int))]) := rfl
theorem mi_tab_sg_3 : ∀ e ∈ ([(213, (2, 0, sb_213)), (209, (4, 0, sb_209))] : mi_T), sc_P e.1 = some e.2 := mi_tb mi_P213 (mi_tb mi_P209 (mi_tb_e))
set_option maxRecDepth 20000 in
theorem ms_sg_3 {h : sm_H} {d : Nat} {Q : Option mi_V → sm_H → Prop} {zu : Int} (hS : ab_Sh sx_sk h) (ok_zu : mi_in zu) (ho : (0 ≤ zu ∧ zu < 60) ∧ ((mi_a h 119 (Int.toNat zu)) = 1 + 1 ∧ (mi_a h 119 (Int.toNat zu)) ≤ 10) ∧ ((mi_f h 14028) ≠ ((0 : Int))) ∧ ((mi_f h 14028) ≠ ((1 : Int)))) (kon : ∀ h1, me_W [] h h1 → ∃ Q1, me_E (d + 4) 217 0 (mi_entry 7 [.inr (.inr 109), .inl (zu)]) [] h1 Q1 ∧ ∀ w h2, (∀ x, w = some x → mi_ok x) → Q1 w h2 → me_E (d + 5) 213 129 [some (.inr (.inr 109)), some (.inl (zu))] (mi_back w []) h2 Q) : me_E (d + 5) 213 0 [some (.inr (.inr 109)), some (.inl (zu))] [] h Q := me_seg (mp_sg_3 h d zu) (mi_tab_sg_3) hS (mi_okL_c (trivial) (mi_okL_c (ok_zu) (mi_okL_e))) (mi_okS_e) (mi_al (ho.1) (mi_al (ho.2.1) (mi_al (ho.2.2.1) (mi_al (ho.2.2.2) (mi_al_e))))) (fun h1 W _ hst => let ⟨_, k1, k2⟩ := kon h1 W; me_call (M := (2, 0, sb_213)) (M' := (7, 0, sb_217)) rfl rfl rfl rfl (Nat.le_of_ble_eq_true rfl) (Nat.le_of_ble_eq_true rfl) W.1 k1 k2)
set_option maxRecDepth 20000 in
theorem mp_sg_4 (h : sm_H) (d : Nat) (zu : Int) : mi_path [(213, (2, 0, sb_213)), (209, (4, 0, sb_209))] sx_sk h 14 [1, 1, 0] (d + 5, 213, 0, [some (.inr (.inr 109)), some (.inl (zu))], [], [], []) = some ((d + 5, 213, 118, [some (.inr (.inr 109)), some (.inl (zu))], [.inl (zu), .inr (.inr 109)], [], []), [0 ≤ zu ∧ zu < 60, (mi_a h 119 (Int.toNat zu)) = 1 + 1 ∧ (mi_a h 119 (Int.toNat zu)) ≤ 10, (mi_f h 14028) ≠ ((0 : Int)), (mi_f h 14028) = ((1 : Int))]) := rfl
theorem mi_tab_sg_4 : ∀ e ∈ ([(213, (2, 0, sb_213)), (209, (4, 0, sb_209))] : mi_T), sc_P e.1 = some e.2 := mi_tb mi_P213 (mi_tb mi_P209 (mi_tb_e))
set_option maxRecDepth 20000 in
theorem ms_sg_4 {h : sm_H} {d : Nat} {Q : Option mi_V → sm_H → Prop} {zu : Int} (hS : ab_Sh sx_sk h) (ok_zu : mi_in zu) (ho : (0 ≤ zu ∧ zu < 60) ∧ ((mi_a h 119 (Int.toNat zu)) = 1 + 1 ∧ (mi_a h 119 (Int.toNat zu)) ≤ 10) ∧ ((mi_f h 14028) ≠ ((0 : Int))) ∧ ((mi_f h 14028) = ((1 : Int)))) (kon : ∀ h1, me_W [] h h1 → ∃ Q1, me_E (d + 4) 215 0 (mi_entry 6 [.inr (.inr 109), .inl (zu)]) [] h1 Q1 ∧ ∀ w h2, (∀ x, w = some x → mi_ok x) → Q1 w h2 → me_E (d + 5) 213 121 [some (.inr (.inr 109)), some (.inl (zu))] (mi_back w []) h2 Q) : me_E (d + 5) 213 0 [some (.inr (.inr 109)), some (.inl (zu))] [] h Q := me_seg (mp_sg_4 h d zu) (mi_tab_sg_4) hS (mi_okL_c (trivial) (mi_okL_c (ok_zu) (mi_okL_e))) (mi_okS_e) (mi_al (ho.1) (mi_al (ho.2.1) (mi_al (ho.2.2.1) (mi_al (ho.2.2.2) (mi_al_e))))) (fun h1 W _ hst => let ⟨_, k1, k2⟩ := kon h1 W; me_call (M := (2, 0, sb_213)) (M' := (6, 0, sb_215)) rfl rfl rfl rfl (Nat.le_of_ble_eq_true rfl) (Nat.le_of_ble_eq_true rfl) W.1 k1 k2)
set_option maxRecDepth 20000 in
theorem mp_sg_5 (h : sm_H) (d : Nat) (zu : Int) : mi_path [(213, (2, 0, sb_213)), (209, (4, 0, sb_209))] sx_sk h 10 [1, 0] (d + 5, 213, 0, [some (.inr (.inr 109)), some (.inl (zu))], [], [], []) = some ((d + 5, 213, 102, [some (.inr (.inr 109)), some (.inl (zu))], [.inl (zu), .inr (.inr 109)], [], []), [0 ≤ zu ∧ zu < 60, (mi_a h 119 (Int.toNat zu)) = 1 + 1 ∧ (mi_a h 119 (Int.toNat zu)) ≤ 10, (mi_f h 14028) = ((0 : Int))]) := rfl
theorem mi_tab_sg_5 : ∀ e ∈ ([(213, (2, 0, sb_213)), (209, (4, 0, sb_209))] : mi_T), sc_P e.1 = some e.2 := mi_tb mi_P213 (mi_tb mi_P209 (mi_tb_e))
set_option maxRecDepth 20000 in
theorem ms_sg_5 {h : sm_H} {d : Nat} {Q : Option mi_V → sm_H → Prop} {zu : Int} (hS : ab_Sh sx_sk h) (ok_zu : mi_in zu) (ho : (0 ≤ zu ∧ zu < 60) ∧ ((mi_a h 119 (Int.toNat zu)) = 1 + 1 ∧ (mi_a h 119 (Int.toNat zu)) ≤ 10) ∧ ((mi_f h 14028) = ((0 : Int)))) (kon : ∀ h1, me_W [] h h1 → ∃ Q1, me_E (d + 4) 214 0 (mi_entry 3 [.inr (.inr 109), .inl (zu)]) [] h1 Q1 ∧ ∀ w h2, (∀ x, w = some x → mi_ok x) → Q1 w h2 → me_E (d + 5) 213 105 [some (.inr (.inr 109)), some (.inl (zu))] (mi_back w []) h2 Q) : me_E (d + 5) 213 0 [some (.inr (.inr 109)), some (.inl (zu))] [] h Q := me_seg (mp_sg_5 h d zu) (mi_tab_sg_5) hS (mi_okL_c (trivial) (mi_okL_c (ok_zu) (mi_okL_e))) (mi_okS_e) (mi_al (ho.1) (mi_al (ho.2.1) (mi_al (ho.2.2) (mi_al_e)))) (fun h1 W _ hst => let ⟨_, k1, k2⟩ := kon h1 W; me_call (M := (2, 0, sb_213)) (M' := (3, 0, sb_214)) rfl rfl rfl rfl (Nat.le_of_ble_eq_true rfl) (Nat.le_of_ble_eq_true rfl) W.1 k1 k2)
set_option maxRecDepth 20000 in
theorem mp_sg_6 (h : sm_H) (d : Nat) (zu : Int) : mi_path [(213, (2, 0, sb_213)), (209, (4, 0, sb_209))] sx_sk h 10 [2] (d + 5, 213, 0, [some (.inr (.inr 109)), some (.inl (zu))], [], [], []) = some ((d + 5, 213, 139, [some (.inr (.inr 109)), some (.inl (zu))], [.inl (mi_a h 119 (Int.toNat zu)), .inr (.inr 109)], [], []), [0 ≤ zu ∧ zu < 60, (mi_a h 119 (Int.toNat zu)) = 1 + 2 ∧ (mi_a h 119 (Int.toNat zu)) ≤ 10, 0 ≤ zu ∧ zu < 60]) := rfl
theorem mi_tab_sg_6 : ∀ e ∈ ([(213, (2, 0, sb_213)), (209, (4, 0, sb_209))] : mi_T), sc_P e.1 = some e.2 := mi_tb mi_P213 (mi_tb mi_P209 (mi_tb_e))
set_option maxRecDepth 20000 in
theorem ms_sg_6 {h : sm_H} {d : Nat} {Q : Option mi_V → sm_H → Prop} {zu : Int} (hS : ab_Sh sx_sk h) (ok_zu : mi_in zu) (ho : (0 ≤ zu ∧ zu < 60) ∧ ((mi_a h 119 (Int.toNat zu)) = 1 + 2 ∧ (mi_a h 119 (Int.toNat zu)) ≤ 10) ∧ (0 ≤ zu ∧ zu < 60)) (kon : ∀ h1, me_W [] h h1 → ∃ Q1, me_E (d + 4) 222 0 (mi_entry 2 [.inr (.inr 109), .inl (mi_a h 119 (Int.toNat zu))]) [] h1 Q1 ∧ ∀ w h2, (∀ x, w = some x → mi_ok x) → Q1 w h2 → me_E (d + 5) 213 142 [some (.inr (.inr 109)), some (.inl (zu))] (mi_back w []) h2 Q) : me_E (d + 5) 213 0 [some (.inr (.inr 109)), some (.inl (zu))] [] h Q := me_seg (mp_sg_6 h d zu) (mi_tab_sg_6) hS (mi_okL_c (trivial) (mi_okL_c (ok_zu) (mi_okL_e))) (mi_okS_e) (mi_al (ho.1) (mi_al (ho.2.1) (mi_al (ho.2.2) (mi_al_e)))) (fun h1 W _ hst => let ⟨_, k1, k2⟩ := kon h1 W; me_call (M := (2, 0, sb_213)) (M' := (2, 0, sb_222)) rfl rfl rfl rfl (Nat.le_of_ble_eq_true rfl) (Nat.le_of_ble_eq_true rfl) W.1 k1 k2)
set_option maxRecDepth 20000 in
theorem mp_sg_7 (h : sm_H) (d : Nat) (zu : Int) : mi_path [(213, (2, 0, sb_213)), (209, (4, 0, sb_209))] sx_sk h 10 [3] (d + 5, 213, 0, [some (.inr (.inr 109)), some (.inl (zu))], [], [], []) = some ((d + 5, 213, 139, [some (.inr (.inr 109)), some (.inl (zu))], [.inl (mi_a h 119 (Int.toNat zu)), .inr (.inr 109)], [], []), [0 ≤ zu ∧ zu < 60, (mi_a h 119 (Int.toNat zu)) = 1 + 3 ∧ (mi_a h 119 (Int.toNat zu)) ≤ 10, 0 ≤ zu ∧ zu < 60]) := rfl
theorem mi_tab_sg_7 : ∀ e ∈ ([(213, (2, 0, sb_213)), (209, (4, 0, sb_209))] : mi_T), sc_P e.1 = some e.2 := mi_tb mi_P213 (mi_tb mi_P209 (mi_tb_e))
set_option maxRecDepth 20000 in
theorem ms_sg_7 {h : sm_H} {d : Nat} {Q : Option mi_V → sm_H → Prop} {zu : Int} (hS : ab_Sh sx_sk h) (ok_zu : mi_in zu) (ho : (0 ≤ zu ∧ zu < 60) ∧ ((mi_a h 119 (Int.toNat zu)) = 1 + 3 ∧ (mi_a h 119 (Int.toNat zu)) ≤ 10) ∧ (0 ≤ zu ∧ zu < 60)) (kon : ∀ h1, me_W [] h h1 → ∃ Q1, me_E (d + 4) 222 0 (mi_entry 2 [.inr (.inr 109), .inl (mi_a h 119 (Int.toNat zu))]) [] h1 Q1 ∧ ∀ w h2, (∀ x, w = some x → mi_ok x) → Q1 w h2 → me_E (d + 5) 213 142 [some (.inr (.inr 109)), some (.inl (zu))] (mi_back w []) h2 Q) : me_E (d + 5) 213 0 [some (.inr (.inr 109)), some (.inl (zu))] [] h Q := me_seg (mp_sg_7 h d zu) (mi_tab_sg_7) hS (mi_okL_c (trivial) (mi_okL_c (ok_zu) (mi_okL_e))) (mi_okS_e) (mi_al (ho.1) (mi_al (ho.2.1) (mi_al (ho.2.2) (mi_al_e)))) (fun h1 W _ hst => let ⟨_, k1, k2⟩ := kon h1 W; me_call (M := (2, 0, sb_213)) (M' := (2, 0, sb_222)) rfl rfl rfl rfl (Nat.le_of_ble_eq_true rfl) (Nat.le_of_ble_eq_true rfl) W.1 k1 k2)
set_option maxRecDepth 20000 in
theorem mp_sg_8 (h : sm_H) (d : Nat) (zu : Int) : mi_path [(213, (2, 0, sb_213)), (209, (4, 0, sb_209))] sx_sk h 10 [4] (d + 5, 213, 0, [some (.inr (.inr 109)), some (.inl (zu))], [], [], []) = some ((d + 5, 213, 139, [some (.inr (.inr 109)), some (.inl (zu))], [.inl (mi_a h 119 (Int.toNat zu)), .inr (.inr 109)], [], []), [0 ≤ zu ∧ zu < 60, (mi_a h 119 (Int.toNat zu)) = 1 + 4 ∧ (mi_a h 119 (Int.toNat zu)) ≤ 10, 0 ≤ zu ∧ zu < 60]) := rfl
theorem mi_tab_sg_8 : ∀ e ∈ ([(213, (2, 0, sb_213)), (209, (4, 0, sb_209))] : mi_T), sc_P e.1 = some e.2 := mi_tb mi_P213 (mi_tb mi_P209 (mi_tb_e))
set_option maxRecDepth 20000 in
theorem ms_sg_8 {h : sm_H} {d : Nat} {Q : Option mi_V → sm_H → Prop} {zu : Int} (hS : ab_Sh sx_sk h) (ok_zu : mi_in zu) (ho : (0 ≤ zu ∧ zu < 60) ∧ ((mi_a h 119 (Int.toNat zu)) = 1 + 4 ∧ (mi_a h 119 (Int.toNat zu)) ≤ 10) ∧ (0 ≤ zu ∧ zu < 60)) (kon : ∀ h1, me_W [] h h1 → ∃ Q1, me_E (d + 4) 222 0 (mi_entry 2 [.inr (.inr 109), .inl (mi_a h 119 (Int.toNat zu))]) [] h1 Q1 ∧ ∀ w h2, (∀ x, w = some x → mi_ok x) → Q1 w h2 → me_E (d + 5) 213 142 [some (.inr (.inr 109)), some (.inl (zu))] (mi_back w []) h2 Q) : me_E (d + 5) 213 0 [some (.inr (.inr 109)), some (.inl (zu))] [] h Q := me_seg (mp_sg_8 h d zu) (mi_tab_sg_8) hS (mi_okL_c (trivial) (mi_okL_c (ok_zu) (mi_okL_e))) (mi_okS_e) (mi_al (ho.1) (mi_al (ho.2.1) (mi_al (ho.2.2) (mi_al_e)))) (fun h1 W _ hst => let ⟨_, k1, k2⟩ := kon h1 W; me_call (M := (2, 0, sb_213)) (M' := (2, 0, sb_222)) rfl rfl rfl rfl (Nat.le_of_ble_eq_true rfl) (Nat.le_of_ble_eq_true rfl) W.1 k1 k2)
set_option maxRecDepth 20000 in
theorem mp_sg_9 (h : sm_H) (d : Nat) (zu : Int) : mi_path [(213, (2, 0, sb_213)), (209, (4, 0, sb_209))] sx_sk h 10 [5] (d + 5, 213, 0, [some (.inr (.inr 109)), some (.inl (zu))], [], [], []) = some ((d + 5, 213, 139, [some (.inr (.inr 109)), some (.inl (zu))], [.inl (mi_a h 119 (Int.toNat zu)), .inr (.inr 109)], [], []), [0 ≤ zu ∧ zu < 60, (mi_a h 119 (Int.toNat zu)) = 1 + 5 ∧ (mi_a h 119 (Int.toNat zu)) ≤ 10, 0 ≤ zu ∧ zu < 60]) := rfl
theorem mi_tab_sg_9 : ∀ e ∈ ([(213, (2, 0, sb_213)), (209, (4, 0, sb_209))] : mi_T), sc_P e.1 = some e.2 := mi_tb mi_P213 (mi_tb mi_P209 (mi_tb_e))
set_option maxRecDepth 20000 in
theorem ms_sg_9 {h : sm_H} {d : Nat} {Q : Option mi_V → sm_H → Prop} {zu : Int} (hS : ab_Sh sx_sk h) (ok_zu : mi_in zu) (ho : (0 ≤ zu ∧ zu < 60) ∧ ((mi_a h 119 (Int.toNat zu)) = 1 + 5 ∧ (mi_a h 119 (Int.toNat zu)) ≤ 10) ∧ (0 ≤ zu ∧ zu < 60)) (kon : ∀ h1, me_W [] h h1 → ∃ Q1, me_E (d + 4) 222 0 (mi_entry 2 [.inr (.inr 109), .inl (mi_a h 119 (Int.toNat zu))]) [] h1 Q1 ∧ ∀ w h2, (∀ x, w = some x → mi_ok x) → Q1 w h2 → me_E (d + 5) 213 142 [some (.inr (.inr 109)), some (.inl (zu))] (mi_back w []) h2 Q) : me_E (d + 5) 213 0 [some (.inr (.inr 109)), some (.inl (zu))] [] h Q := me_seg (mp_sg_9 h d zu) (mi_tab_sg_9) hS (mi_okL_c (trivial) (mi_okL_c (ok_zu) (mi_okL_e))) (mi_okS_e) (mi_al (ho.1) (mi_al (ho.2.1) (mi_al (ho.2.2) (mi_al_e)))) (fun h1 W _ hst => let ⟨_, k1, k2⟩ := kon h1 W; me_call (M := (2, 0, sb_213)) (M' := (2, 0, sb_222)) rfl rfl rfl rfl (Nat.le_of_ble_eq_true rfl) (Nat.le_of_ble_eq_true rfl) W.1 k1 k2)
set_option maxRecDepth 20000 in
theorem mp_sg_10 (h : sm_H) (d : Nat) (zu : Int) : mi_path [(213, (2, 0, sb_213)), (209, (4, 0, sb_209))] sx_sk h 10 [6] (d + 5, 213, 0, [some (.inr (.inr 109)), some (.inl (zu))], [], [], []) = some ((d + 5, 213, 139, [some (.inr (.inr 109)), some (.inl (zu))], [.inl (mi_a h 119 (Int.toNat zu)), .inr (.inr 109)], [], []), [0 ≤ zu ∧ zu < 60, (mi_a h 119 (Int.toNat zu)) = 1 + 6 ∧ (mi_a h 119 (Int.toNat zu)) ≤ 10, 0 ≤ zu ∧ zu < 60]) := rfl
theorem mi_tab_sg_10 : ∀ e ∈ ([(213, (2, 0, sb_213)), (209, (4, 0, sb_209))] : mi_T), sc_P e.1 = some e.2 := mi_tb mi_P213 (mi_tb mi_P209 (mi_tb_e))
set_option maxRecDepth 20000 in
theorem ms_sg_10 {h : sm_H} {d : Nat} {Q : Option mi_V → sm_H → Prop} {zu : Int} (hS : ab_Sh sx_sk h) (ok_zu : mi_in zu) (ho : (0 ≤ zu ∧ zu < 60) ∧ ((mi_a h 119 (Int.toNat zu)) = 1 + 6 ∧ (mi_a h 119 (Int.toNat zu)) ≤ 10) ∧ (0 ≤ zu ∧ zu < 60)) (kon : ∀ h1, me_W [] h h1 → ∃ Q1, me_E (d + 4) 222 0 (mi_entry 2 [.inr (.inr 109), .inl (mi_a h 119 (Int.toNat zu))]) [] h1 Q1 ∧ ∀ w h2, (∀ x, w = some x → mi_ok x) → Q1 w h2 → me_E (d + 5) 213 142 [some (.inr (.inr 109)), some (.inl (zu))] (mi_back w []) h2 Q) : me_E (d + 5) 213 0 [some (.inr (.inr 109)), some (.inl (zu))] [] h Q := me_seg (mp_sg_10 h d zu) (mi_tab_sg_10) hS (mi_okL_c (trivial) (mi_okL_c (ok_zu) (mi_okL_e))) (mi_okS_e) (mi_al (ho.1) (mi_al (ho.2.1) (mi_al (ho.2.2) (mi_al_e)))) (fun h1 W _ hst => let ⟨_, k1, k2⟩ := kon h1 W; me_call (M := (2, 0, sb_213)) (M' := (2, 0, sb_222)) rfl rfl rfl rfl (Nat.le_of_ble_eq_true rfl) (Nat.le_of_ble_eq_true rfl) W.1 k1 k2)
set_option maxRecDepth 20000 in
theorem mp_sg_11 (h : sm_H) (d : Nat) (zu : Int) : mi_path [(213, (2, 0, sb_213)), (209, (4, 0, sb_209))] sx_sk h 14 [7, 1, 1] (d + 5, 213, 0, [some (.inr (.inr 109)), some (.inl (zu))], [], [], []) = some ((d + 5, 213, 126, [some (.inr (.inr 109)), some (.inl (zu))], [.inl (zu), .inr (.inr 109)], [], []), [0 ≤ zu ∧ zu < 60, (mi_a h 119 (Int.toNat zu)) = 1 + 7 ∧ (mi_a h 119 (Int.toNat zu)) ≤ 10, (mi_f h 14028) ≠ ((0 : Int)), (mi_f h 14028) ≠ ((1 : Int))]) := rfl
theorem mi_tab_sg_11 : ∀ e ∈ ([(213, (2, 0, sb_213)), (209, (4, 0, sb_209))] : mi_T), sc_P e.1 = some e.2 := mi_tb mi_P213 (mi_tb mi_P209 (mi_tb_e))
set_option maxRecDepth 20000 in
theorem ms_sg_11 {h : sm_H} {d : Nat} {Q : Option mi_V → sm_H → Prop} {zu : Int} (hS : ab_Sh sx_sk h) (ok_zu : mi_in zu) (ho : (0 ≤ zu ∧ zu < 60) ∧ ((mi_a h 119 (Int.toNat zu)) = 1 + 7 ∧ (mi_a h 119 (Int.toNat zu)) ≤ 10) ∧ ((mi_f h 14028) ≠ ((0 : Int))) ∧ ((mi_f h 14028) ≠ ((1 : Int)))) (kon : ∀ h1, me_W [] h h1 → ∃ Q1, me_E (d + 4) 217 0 (mi_entry 7 [.inr (.inr 109), .inl (zu)]) [] h1 Q1 ∧ ∀ w h2, (∀ x, w = some x → mi_ok x) → Q1 w h2 → me_E (d + 5) 213 129 [some (.inr (.inr 109)), some (.inl (zu))] (mi_back w []) h2 Q) : me_E (d + 5) 213 0 [some (.inr (.inr 109)), some (.inl (zu))] [] h Q := me_seg (mp_sg_11 h d zu) (mi_tab_sg_11) hS (mi_okL_c (trivial) (mi_okL_c (ok_zu) (mi_okL_e))) (mi_okS_e) (mi_al (ho.1) (mi_al (ho.2.1) (mi_al (ho.2.2.1) (mi_al (ho.2.2.2) (mi_al_e))))) (fun h1 W _ hst => let ⟨_, k1, k2⟩ := kon h1 W; me_call (M := (2, 0, sb_213)) (M' := (7, 0, sb_217)) rfl rfl rfl rfl (Nat.le_of_ble_eq_true rfl) (Nat.le_of_ble_eq_true rfl) W.1 k1 k2)
set_option maxRecDepth 20000 in
theorem mp_sg_12 (h : sm_H) (d : Nat) (zu : Int) : mi_path [(213, (2, 0, sb_213)), (209, (4, 0, sb_209))] sx_sk h 14 [7, 1, 0] (d + 5, 213, 0, [some (.inr (.inr 109)), some (.inl (zu))], [], [], []) = some ((d + 5, 213, 118, [some (.inr (.inr 109)), some (.inl (zu))], [.inl (zu), .inr (.inr 109)], [], []), [0 ≤ zu ∧ zu < 60, (mi_a h 119 (Int.toNat zu)) = 1 + 7 ∧ (mi_a h 119 (Int.toNat zu)) ≤ 10, (mi_f h 14028) ≠ ((0 : Int)), (mi_f h 14028) = ((1 : Int))]) := rfl
theorem mi_tab_sg_12 : ∀ e ∈ ([(213, (2, 0, sb_213)), (209, (4, 0, sb_209))] : mi_T), sc_P e.1 = some e.2 := mi_tb mi_P213 (mi_tb mi_P209 (mi_tb_e))
set_option maxRecDepth 20000 in
theorem ms_sg_12 {h : sm_H} {d : Nat} {Q : Option mi_V → sm_H → Prop} {zu : Int} (hS : ab_Sh sx_sk h) (ok_zu : mi_in zu) (ho : (0 ≤ zu ∧ zu < 60) ∧ ((mi_a h 119 (Int.toNat zu)) = 1 + 7 ∧ (mi_a h 119 (Int.toNat zu)) ≤ 10) ∧ ((mi_f h 14028) ≠ ((0 : Int))) ∧ ((mi_f h 14028) = ((1 : Int)))) (kon : ∀ h1, me_W [] h h1 → ∃ Q1, me_E (d + 4) 215 0 (mi_entry 6 [.inr (.inr 109), .inl (zu)]) [] h1 Q1 ∧ ∀ w h2, (∀ x, w = some x → mi_ok x) → Q1 w h2 → me_E (d + 5) 213 121 [some (.inr (.inr 109)), some (.inl (zu))] (mi_back w []) h2 Q) : me_E (d + 5) 213 0 [some (.inr (.inr 109)), some (.inl (zu))] [] h Q := me_seg (mp_sg_12 h d zu) (mi_tab_sg_12) hS (mi_okL_c (trivial) (mi_okL_c (ok_zu) (mi_okL_e))) (mi_okS_e) (mi_al (ho.1) (mi_al (ho.2.1) (mi_al (ho.2.2.1) (mi_al (ho.2.2.2) (mi_al_e))))) (fun h1 W _ hst => let ⟨_, k1, k2⟩ := kon h1 W; me_call (M := (2, 0, sb_213)) (M' := (6, 0, sb_215)) rfl rfl rfl rfl (Nat.le_of_ble_eq_true rfl) (Nat.le_of_ble_eq_true rfl) W.1 k1 k2)
set_option maxRecDepth 20000 in
theorem mp_sg_13 (h : sm_H) (d : Nat) (zu : Int) : mi_path [(213, (2, 0, sb_213)), (209, (4, 0, sb_209))] sx_sk h 10 [7, 0] (d + 5, 213, 0, [some (.inr (.inr 109)), some (.inl (zu))], [], [], []) = some ((d + 5, 213, 102, [some (.inr (.inr 109)), some (.inl (zu))], [.inl (zu), .inr (.inr 109)], [], []), [0 ≤ zu ∧ zu < 60, (mi_a h 119 (Int.toNat zu)) = 1 + 7 ∧ (mi_a h 119 (Int.toNat zu)) ≤ 10, (mi_f h 14028) = ((0 : Int))]) := rfl
theorem mi_tab_sg_13 : ∀ e ∈ ([(213, (2, 0, sb_213)), (209, (4, 0, sb_209))] : mi_T), sc_P e.1 = some e.2 := mi_tb mi_P213 (mi_tb mi_P209 (mi_tb_e))
set_option maxRecDepth 20000 in
theorem ms_sg_13 {h : sm_H} {d : Nat} {Q : Option mi_V → sm_H → Prop} {zu : Int} (hS : ab_Sh sx_sk h) (ok_zu : mi_in zu) (ho : (0 ≤ zu ∧ zu < 60) ∧ ((mi_a h 119 (Int.toNat zu)) = 1 + 7 ∧ (mi_a h 119 (Int.toNat zu)) ≤ 10) ∧ ((mi_f h 14028) = ((0 : Int)))) (kon : ∀ h1, me_W [] h h1 → ∃ Q1, me_E (d + 4) 214 0 (mi_entry 3 [.inr (.inr 109), .inl (zu)]) [] h1 Q1 ∧ ∀ w h2, (∀ x, w = some x → mi_ok x) → Q1 w h2 → me_E (d + 5) 213 105 [some (.inr (.inr 109)), some (.inl (zu))] (mi_back w []) h2 Q) : me_E (d + 5) 213 0 [some (.inr (.inr 109)), some (.inl (zu))] [] h Q := me_seg (mp_sg_13 h d zu) (mi_tab_sg_13) hS (mi_okL_c (trivial) (mi_okL_c (ok_zu) (mi_okL_e))) (mi_okS_e) (mi_al (ho.1) (mi_al (ho.2.1) (mi_al (ho.2.2) (mi_al_e)))) (fun h1 W _ hst => let ⟨_, k1, k2⟩ := kon h1 W; me_call (M := (2, 0, sb_213)) (M' := (3, 0, sb_214)) rfl rfl rfl rfl (Nat.le_of_ble_eq_true rfl) (Nat.le_of_ble_eq_true rfl) W.1 k1 k2)
set_option maxRecDepth 20000 in
theorem mp_sg_14 (h : sm_H) (d : Nat) (zu : Int) : mi_path [(213, (2, 0, sb_213)), (209, (4, 0, sb_209))] sx_sk h 13 [8] (d + 5, 213, 0, [some (.inr (.inr 109)), some (.inl (zu))], [], [], []) = some ((d + 5, 213, 72, [some (.inr (.inr 109)), some (.inl (zu))], [.inl (mi_a h 115 (Int.toNat (mi_a h 120 (Int.toNat zu)))), .inr (.inr 109)], [], []), [0 ≤ zu ∧ zu < 60, (mi_a h 119 (Int.toNat zu)) = 1 + 8 ∧ (mi_a h 119 (Int.toNat zu)) ≤ 10, 0 ≤ zu ∧ zu < 60, 0 ≤ (mi_a h 120 (Int.toNat zu)) ∧ (mi_a h 120 (Int.toNat zu)) < 26]) := rfl
theorem mi_tab_sg_14 : ∀ e ∈ ([(213, (2, 0, sb_213)), (209, (4, 0, sb_209))] : mi_T), sc_P e.1 = some e.2 := mi_tb mi_P213 (mi_tb mi_P209 (mi_tb_e))
set_option maxRecDepth 20000 in
theorem ms_sg_14 {h : sm_H} {d : Nat} {Q : Option mi_V → sm_H → Prop} {zu : Int} (hS : ab_Sh sx_sk h) (ok_zu : mi_in zu) (ho : (0 ≤ zu ∧ zu < 60) ∧ ((mi_a h 119 (Int.toNat zu)) = 1 + 8 ∧ (mi_a h 119 (Int.toNat zu)) ≤ 10) ∧ (0 ≤ zu ∧ zu < 60) ∧ (0 ≤ (mi_a h 120 (Int.toNat zu)) ∧ (mi_a h 120 (Int.toNat zu)) < 26)) (kon : ∀ h1, me_W [] h h1 → ∃ Q1, me_E (d + 4) 207 0 (mi_entry 2 [.inr (.inr 109), .inl (mi_a h 115 (Int.toNat (mi_a h 120 (Int.toNat zu))))]) [] h1 Q1 ∧ ∀ w h2, (∀ x, w = some x → mi_ok x) → Q1 w h2 → me_E (d + 5) 213 75 [some (.inr (.inr 109)), some (.inl (zu))] (mi_back w []) h2 Q) : me_E (d + 5) 213 0 [some (.inr (.inr 109)), some (.inl (zu))] [] h Q := me_seg (mp_sg_14 h d zu) (mi_tab_sg_14) hS (mi_okL_c (trivial) (mi_okL_c (ok_zu) (mi_okL_e))) (mi_okS_e) (mi_al (ho.1) (mi_al (ho.2.1) (mi_al (ho.2.2.1) (mi_al (ho.2.2.2) (mi_al_e))))) (fun h1 W _ hst => let ⟨_, k1, k2⟩ := kon h1 W; me_call (M := (2, 0, sb_213)) (M' := (2, 0, sb_207)) rfl rfl rfl rfl (Nat.le_of_ble_eq_true rfl) (Nat.le_of_ble_eq_true rfl) W.1 k1 k2)
set_option maxRecDepth 20000 in
theorem mp_sg_15 (h : sm_H) (d : Nat) (zu : Int) : mi_path [(213, (2, 0, sb_213)), (209, (4, 0, sb_209))] sx_sk h 38 [9, 8] (d + 5, 213, 0, [some (.inr (.inr 109)), some (.inl (zu))], [], [], []) = some ((d + 5, 213, 142, [some (.inr (.inr 109)), some (.inl (zu))], [], [.inr (.inr (.inl (167, Int.toNat (mi_f h 14029), (0 : Int)))), .inl (14029, (mi_f h 14029) + ((1 : Int))), .inr (.inr (.inl (166, Int.toNat (mi_f h 14029), mi_a h 120 (Int.toNat zu)))), .inr (.inr (.inl (165, Int.toNat (mi_f h 14029), (1 : Int))))], []), [0 ≤ zu ∧ zu < 60, (mi_a h 119 (Int.toNat zu)) = 1 + 9 ∧ (mi_a h 119 (Int.toNat zu)) ≤ 10, 0 ≤ zu ∧ zu < 60, 0 ≤ (mi_f h 14029) ∧ (mi_f h 14029) < 3000, 0 ≤ (mi_f h 14029) ∧ (mi_f h 14029) < 3000, -2147483648 ≤ (mi_f h 14029) + ((1 : Int)) ∧ (mi_f h 14029) + ((1 : Int)) ≤ 2147483647, 0 ≤ (mi_f h 14029) ∧ (mi_f h 14029) < 3000]) := rfl
theorem mi_tab_sg_15 : ∀ e ∈ ([(213, (2, 0, sb_213)), (209, (4, 0, sb_209))] : mi_T), sc_P e.1 = some e.2 := mi_tb mi_P213 (mi_tb mi_P209 (mi_tb_e))
set_option maxRecDepth 20000 in
theorem ms_sg_15 {h : sm_H} {d : Nat} {Q : Option mi_V → sm_H → Prop} {zu : Int} (hS : ab_Sh sx_sk h) (ok_zu : mi_in zu) (ho : (0 ≤ zu ∧ zu < 60) ∧ ((mi_a h 119 (Int.toNat zu)) = 1 + 9 ∧ (mi_a h 119 (Int.toNat zu)) ≤ 10) ∧ (0 ≤ zu ∧ zu < 60) ∧ (0 ≤ (mi_f h 14029) ∧ (mi_f h 14029) < 3000) ∧ (0 ≤ (mi_f h 14029) ∧ (mi_f h 14029) < 3000) ∧ (-2147483648 ≤ (mi_f h 14029) + ((1 : Int)) ∧ (mi_f h 14029) + ((1 : Int)) ≤ 2147483647) ∧ (0 ≤ (mi_f h 14029) ∧ (mi_f h 14029) < 3000)) (kon : ∀ h1, me_W [.inr (.inr (.inl (167, Int.toNat (mi_f h 14029), (0 : Int)))), .inl (14029, (mi_f h 14029) + ((1 : Int))), .inr (.inr (.inl (166, Int.toNat (mi_f h 14029), mi_a h 120 (Int.toNat zu)))), .inr (.inr (.inl (165, Int.toNat (mi_f h 14029), (1 : Int))))] h h1 → Q none h1) : me_E (d + 5) 213 0 [some (.inr (.inr 109)), some (.inl (zu))] [] h Q := me_seg (mp_sg_15 h d zu) (mi_tab_sg_15) hS (mi_okL_c (trivial) (mi_okL_c (ok_zu) (mi_okL_e))) (mi_okS_e) (mi_al (ho.1) (mi_al (ho.2.1) (mi_al (ho.2.2.1) (mi_al (ho.2.2.2.1) (mi_al (ho.2.2.2.2.1) (mi_al (ho.2.2.2.2.2.1) (mi_al (ho.2.2.2.2.2.2) (mi_al_e)))))))) (fun h1 W _ hst => me_ret (M := (2, 0, sb_213)) rfl rfl rfl hst (mi_al_e) (kon h1 W))
set_option maxRecDepth 20000 in
theorem mp_sg_16 (h : sm_H) (d : Nat) (zu : Int) : mi_path [(213, (2, 0, sb_213)), (209, (4, 0, sb_209))] sx_sk h 10 [1000] (d + 5, 213, 0, [some (.inr (.inr 109)), some (.inl (zu))], [], [], []) = some ((d + 5, 213, 139, [some (.inr (.inr 109)), some (.inl (zu))], [.inl (mi_a h 119 (Int.toNat zu)), .inr (.inr 109)], [], []), [0 ≤ zu ∧ zu < 60, (mi_a h 119 (Int.toNat zu)) < 1 ∨ 10 < (mi_a h 119 (Int.toNat zu)), 0 ≤ zu ∧ zu < 60]) := rfl
theorem mi_tab_sg_16 : ∀ e ∈ ([(213, (2, 0, sb_213)), (209, (4, 0, sb_209))] : mi_T), sc_P e.1 = some e.2 := mi_tb mi_P213 (mi_tb mi_P209 (mi_tb_e))
set_option maxRecDepth 20000 in
theorem ms_sg_16 {h : sm_H} {d : Nat} {Q : Option mi_V → sm_H → Prop} {zu : Int} (hS : ab_Sh sx_sk h) (ok_zu : mi_in zu) (ho : (0 ≤ zu ∧ zu < 60) ∧ ((mi_a h 119 (Int.toNat zu)) < 1 ∨ 10 < (mi_a h 119 (Int.toNat zu))) ∧ (0 ≤ zu ∧ zu < 60)) (kon : ∀ h1, me_W [] h h1 → ∃ Q1, me_E (d + 4) 222 0 (mi_entry 2 [.inr (.inr 109), .inl (mi_a h 119 (Int.toNat zu))]) [] h1 Q1 ∧ ∀ w h2, (∀ x, w = some x → mi_ok x) → Q1 w h2 → me_E (d + 5) 213 142 [some (.inr (.inr 109)), some (.inl (zu))] (mi_back w []) h2 Q) : me_E (d + 5) 213 0 [some (.inr (.inr 109)), some (.inl (zu))] [] h Q := me_seg (mp_sg_16 h d zu) (mi_tab_sg_16) hS (mi_okL_c (trivial) (mi_okL_c (ok_zu) (mi_okL_e))) (mi_okS_e) (mi_al (ho.1) (mi_al (ho.2.1) (mi_al (ho.2.2) (mi_al_e)))) (fun h1 W _ hst => let ⟨_, k1, k2⟩ := kon h1 W; me_call (M := (2, 0, sb_213)) (M' := (2, 0, sb_222)) rfl rfl rfl rfl (Nat.le_of_ble_eq_true rfl) (Nat.le_of_ble_eq_true rfl) W.1 k1 k2)
set_option maxRecDepth 20000 in
theorem mt_sg {h : sm_H} {d : Nat} {Q : Option mi_V → sm_H → Prop} {zu : Int} (hS : ab_Sh sx_sk h) (ok_zu : mi_in zu) (k0 : ((-2147483648) ≤ mi_f h 14028 ∧ mi_f h 14028 ≤ 2147483647) → ((mi_a h 119 (Int.toNat zu)) = 1 + 0 ∧ (mi_a h 119 (Int.toNat zu)) ≤ 10) → ((mi_f h 14028) ≠ ((0 : Int))) → ((mi_f h 14028) ≠ ((1 : Int))) → ((0 ≤ zu ∧ zu < 60)) ∧ (∀ h1, ab_Sh sx_sk h1 → ab_Fr [] h h1 → ∃ Q1, me_E (d + 4) 217 0 (mi_entry 7 [.inr (.inr 109), .inl (zu)]) [] h1 Q1 ∧ ∀ w h2, (∀ x, w = some x → mi_ok x) → Q1 w h2 → me_E (d + 5) 213 129 [some (.inr (.inr 109)), some (.inl (zu))] (mi_back w []) h2 Q)) (k1 : ((-2147483648) ≤ mi_f h 14028 ∧ mi_f h 14028 ≤ 2147483647) → ((mi_a h 119 (Int.toNat zu)) = 1 + 0 ∧ (mi_a h 119 (Int.toNat zu)) ≤ 10) → ((mi_f h 14028) ≠ ((0 : Int))) → ((mi_f h 14028) = ((1 : Int))) → ((0 ≤ zu ∧ zu < 60)) ∧ (∀ h1, ab_Sh sx_sk h1 → ab_Fr [] h h1 → ∃ Q1, me_E (d + 4) 215 0 (mi_entry 6 [.inr (.inr 109), .inl (zu)]) [] h1 Q1 ∧ ∀ w h2, (∀ x, w = some x → mi_ok x) → Q1 w h2 → me_E (d + 5) 213 121 [some (.inr (.inr 109)), some (.inl (zu))] (mi_back w []) h2 Q)) (k2 : ((-2147483648) ≤ mi_f h 14028 ∧ mi_f h 14028 ≤ 2147483647) → ((mi_a h 119 (Int.toNat zu)) = 1 + 0 ∧ (mi_a h 119 (Int.toNat zu)) ≤ 10) → ((mi_f h 14028) = ((0 : Int))) → ((0 ≤ zu ∧ zu < 60)) ∧ (∀ h1, ab_Sh sx_sk h1 → ab_Fr [] h h1 → ∃ Q1, me_E (d + 4) 214 0 (mi_entry 3 [.inr (.inr 109), .inl (zu)]) [] h1 Q1 ∧ ∀ w h2, (∀ x, w = some x → mi_ok x) → Q1 w h2 → me_E (d + 5) 213 105 [some (.inr (.inr 109)), some (.inl (zu))] (mi_back w []) h2 Q)) (k3 : ((-2147483648) ≤ mi_f h 14028 ∧ mi_f h 14028 ≤ 2147483647) → ((mi_a h 119 (Int.toNat zu)) = 1 + 1 ∧ (mi_a h 119 (Int.toNat zu)) ≤ 10) → ((mi_f h 14028) ≠ ((0 : Int))) → ((mi_f h 14028) ≠ ((1 : Int))) → ((0 ≤ zu ∧ zu < 60)) ∧ (∀ h1, ab_Sh sx_sk h1 → ab_Fr [] h h1 → ∃ Q1, me_E (d + 4) 217 0 (mi_entry 7 [.inr (.inr 109), .inl (zu)]) [] h1 Q1 ∧ ∀ w h2, (∀ x, w = some x → mi_ok x) → Q1 w h2 → me_E (d + 5) 213 129 [some (.inr (.inr 109)), some (.inl (zu))] (mi_back w []) h2 Q)) (k4 : ((-2147483648) ≤ mi_f h 14028 ∧ mi_f h 14028 ≤ 2147483647) → ((mi_a h 119 (Int.toNat zu)) = 1 + 1 ∧ (mi_a h 119 (Int.toNat zu)) ≤ 10) → ((mi_f h 14028) ≠ ((0 : Int))) → ((mi_f h 14028) = ((1 : Int))) → ((0 ≤ zu ∧ zu < 60)) ∧ (∀ h1, ab_Sh sx_sk h1 → ab_Fr [] h h1 → ∃ Q1, me_E (d + 4) 215 0 (mi_entry 6 [.inr (.inr 109), .inl (zu)]) [] h1 Q1 ∧ ∀ w h2, (∀ x, w = some x → mi_ok x) → Q1 w h2 → me_E (d + 5) 213 121 [some (.inr (.inr 109)), some (.inl (zu))] (mi_back w []) h2 Q)) (k5 : ((-2147483648) ≤ mi_f h 14028 ∧ mi_f h 14028 ≤ 2147483647) → ((mi_a h 119 (Int.toNat zu)) = 1 + 1 ∧ (mi_a h 119 (Int.toNat zu)) ≤ 10) → ((mi_f h 14028) = ((0 : Int))) → ((0 ≤ zu ∧ zu < 60)) ∧ (∀ h1, ab_Sh sx_sk h1 → ab_Fr [] h h1 → ∃ Q1, me_E (d + 4) 214 0 (mi_entry 3 [.inr (.inr 109), .inl (zu)]) [] h1 Q1 ∧ ∀ w h2, (∀ x, w = some x → mi_ok x) → Q1 w h2 → me_E (d + 5) 213 105 [some (.inr (.inr 109)), some (.inl (zu))] (mi_back w []) h2 Q)) (k6 : ((mi_a h 119 (Int.toNat zu)) = 1 + 2 ∧ (mi_a h 119 (Int.toNat zu)) ≤ 10) → ((0 ≤ zu ∧ zu < 60)) ∧ (∀ h1, ab_Sh sx_sk h1 → ab_Fr [] h h1 → ∃ Q1, me_E (d + 4) 222 0 (mi_entry 2 [.inr (.inr 109), .inl (mi_a h 119 (Int.toNat zu))]) [] h1 Q1 ∧ ∀ w h2, (∀ x, w = some x → mi_ok x) → Q1 w h2 → me_E (d + 5) 213 142 [some (.inr (.inr 109)), some (.inl (zu))] (mi_back w []) h2 Q)) (k7 : ((mi_a h 119 (Int.toNat zu)) = 1 + 3 ∧ (mi_a h 119 (Int.toNat zu)) ≤ 10) → ((0 ≤ zu ∧ zu < 60)) ∧ (∀ h1, ab_Sh sx_sk h1 → ab_Fr [] h h1 → ∃ Q1, me_E (d + 4) 222 0 (mi_entry 2 [.inr (.inr 109), .inl (mi_a h 119 (Int.toNat zu))]) [] h1 Q1 ∧ ∀ w h2, (∀ x, w = some x → mi_ok x) → Q1 w h2 → me_E (d + 5) 213 142 [some (.inr (.inr 109)), some (.inl (zu))] (mi_back w []) h2 Q)) (k8 : ((mi_a h 119 (Int.toNat zu)) = 1 + 4 ∧ (mi_a h 119 (Int.toNat zu)) ≤ 10) → ((0 ≤ zu ∧ zu < 60)) ∧ (∀ h1, ab_Sh sx_sk h1 → ab_Fr [] h h1 → ∃ Q1, me_E (d + 4) 222 0 (mi_entry 2 [.inr (.inr 109), .inl (mi_a h 119 (Int.toNat zu))]) [] h1 Q1 ∧ ∀ w h2, (∀ x, w = some x → mi_ok x) → Q1 w h2 → me_E (d + 5) 213 142 [some (.inr (.inr 109)), some (.inl (zu))] (mi_back w []) h2 Q)) (k9 : ((mi_a h 119 (Int.toNat zu)) = 1 + 5 ∧ (mi_a h 119 (Int.toNat zu)) ≤ 10) → ((0 ≤ zu ∧ zu < 60)) ∧ (∀ h1, ab_Sh sx_sk h1 → ab_Fr [] h h1 → ∃ Q1, me_E (d + 4) 222 0 (mi_entry 2 [.inr (.inr 109), .inl (mi_a h 119 (Int.toNat zu))]) [] h1 Q1 ∧ ∀ w h2, (∀ x, w = some x → mi_ok x) → Q1 w h2 → me_E (d + 5) 213 142 [some (.inr (.inr 109)), some (.inl (zu))] (mi_back w []) h2 Q)) (k10 : ((mi_a h 119 (Int.toNat zu)) = 1 + 6 ∧ (mi_a h 119 (Int.toNat zu)) ≤ 10) → ((0 ≤ zu ∧ zu < 60)) ∧ (∀ h1, ab_Sh sx_sk h1 → ab_Fr [] h h1 → ∃ Q1, me_E (d + 4) 222 0 (mi_entry 2 [.inr (.inr 109), .inl (mi_a h 119 (Int.toNat zu))]) [] h1 Q1 ∧ ∀ w h2, (∀ x, w = some x → mi_ok x) → Q1 w h2 → me_E (d + 5) 213 142 [some (.inr (.inr 109)), some (.inl (zu))] (mi_back w []) h2 Q)) (k11 : ((-2147483648) ≤ mi_f h 14028 ∧ mi_f h 14028 ≤ 2147483647) → ((mi_a h 119 (Int.toNat zu)) = 1 + 7 ∧ (mi_a h 119 (Int.toNat zu)) ≤ 10) → ((mi_f h 14028) ≠ ((0 : Int))) → ((mi_f h 14028) ≠ ((1 : Int))) → ((0 ≤ zu ∧ zu < 60)) ∧ (∀ h1, ab_Sh sx_sk h1 → ab_Fr [] h h1 → ∃ Q1, me_E (d + 4) 217 0 (mi_entry 7 [.inr (.inr 109), .inl (zu)]) [] h1 Q1 ∧ ∀ w h2, (∀ x, w = some x → mi_ok x) → Q1 w h2 → me_E (d + 5) 213 129 [some (.inr (.inr 109)), some (.inl (zu))] (mi_back w []) h2 Q)) (k12 : ((-2147483648) ≤ mi_f h 14028 ∧ mi_f h 14028 ≤ 2147483647) → ((mi_a h 119 (Int.toNat zu)) = 1 + 7 ∧ (mi_a h 119 (Int.toNat zu)) ≤ 10) → ((mi_f h 14028) ≠ ((0 : Int))) → ((mi_f h 14028) = ((1 : Int))) → ((0 ≤ zu ∧ zu < 60)) ∧ (∀ h1, ab_Sh sx_sk h1 → ab_Fr [] h h1 → ∃ Q1, me_E (d + 4) 215 0 (mi_entry 6 [.inr (.inr 109), .inl (zu)]) [] h1 Q1 ∧ ∀ w h2, (∀ x, w = some x → mi_ok x) → Q1 w h2 → me_E (d + 5) 213 121 [some (.inr (.inr 109)), some (.inl (zu))] (mi_back w []) h2 Q)) (k13 : ((-2147483648) ≤ mi_f h 14028 ∧ mi_f h 14028 ≤ 2147483647) → ((mi_a h 119 (Int.toNat zu)) = 1 + 7 ∧ (mi_a h 119 (Int.toNat zu)) ≤ 10) → ((mi_f h 14028) = ((0 : Int))) → ((0 ≤ zu ∧ zu < 60)) ∧ (∀ h1, ab_Sh sx_sk h1 → ab_Fr [] h h1 → ∃ Q1, me_E (d + 4) 214 0 (mi_entry 3 [.inr (.inr 109), .inl (zu)]) [] h1 Q1 ∧ ∀ w h2, (∀ x, w = some x → mi_ok x) → Q1 w h2 → me_E (d + 5) 213 105 [some (.inr (.inr 109)), some (.inl (zu))] (mi_back w []) h2 Q)) (k14 : ((mi_a h 119 (Int.toNat zu)) = 1 + 8 ∧ (mi_a h 119 (Int.toNat zu)) ≤ 10) → ((0 ≤ zu ∧ zu < 60) ∧ (0 ≤ (mi_a h 120 (Int.toNat zu)) ∧ (mi_a h 120 (Int.toNat zu)) < 26)) ∧ (∀ h1, ab_Sh sx_sk h1 → ab_Fr [] h h1 → ∃ Q1, me_E (d + 4) 207 0 (mi_entry 2 [.inr (.inr 109), .inl (mi_a h 115 (Int.toNat (mi_a h 120 (Int.toNat zu))))]) [] h1 Q1 ∧ ∀ w h2, (∀ x, w = some x → mi_ok x) → Q1 w h2 → me_E (d + 5) 213 75 [some (.inr (.inr 109)), some (.inl (zu))] (mi_back w []) h2 Q)) (k15 : ((-2147483648) ≤ mi_f h 14029 ∧ mi_f h 14029 ≤ 2147483647) → ((mi_a h 119 (Int.toNat zu)) = 1 + 9 ∧ (mi_a h 119 (Int.toNat zu)) ≤ 10) → ((0 ≤ zu ∧ zu < 60) ∧ (0 ≤ (mi_f h 14029) ∧ (mi_f h 14029) < 3000) ∧ (-2147483648 ≤ (mi_f h 14029) + ((1 : Int)) ∧ (mi_f h 14029) + ((1 : Int)) ≤ 2147483647)) ∧ (∀ h1, ab_Sh sx_sk h1 → mi_f h1 14029 = (mi_f h 14029) + ((1 : Int)) → (∀ i, mi_a h1 165 i = if i = Int.toNat (mi_f h 14029) then (1 : Int) else (mi_a h 165 i)) → (∀ i, mi_a h1 166 i = if i = Int.toNat (mi_f h 14029) then mi_a h 120 (Int.toNat zu) else (mi_a h 166 i)) → (∀ i, mi_a h1 167 i = if i = Int.toNat (mi_f h 14029) then (0 : Int) else (mi_a h 167 i)) → ab_Fr [(14029, 14030), (21120, 21121), (21248, 21249), (21376, 21377)] h h1 → Q none h1)) (k16 : ((mi_a h 119 (Int.toNat zu)) < 1 ∨ 10 < (mi_a h 119 (Int.toNat zu))) → ((0 ≤ zu ∧ zu < 60)) ∧ (∀ h1, ab_Sh sx_sk h1 → ab_Fr [] h h1 → ∃ Q1, me_E (d + 4) 222 0 (mi_entry 2 [.inr (.inr 109), .inl (mi_a h 119 (Int.toNat zu))]) [] h1 Q1 ∧ ∀ w h2, (∀ x, w = some x → mi_ok x) → Q1 w h2 → me_E (d + 5) 213 142 [some (.inr (.inr 109)), some (.inl (zu))] (mi_back w []) h2 Q)) : me_E (d + 5) 213 0 [some (.inr (.inr 109)), some (.inl (zu))] [] h Q := (by
  by_cases z0 : (mi_a h 119 (Int.toNat zu)) < 1 ∨ 10 < (mi_a h 119 (Int.toNat zu))
  · exact ms_sg_16 hS ok_zu ⟨(k16 z0).1, z0, (k16 z0).1⟩ (fun h1 W => (k16 z0).2 h1 W.1 (W.2.2.2.2.2 _ rfl))
  by_cases e0_0 : (mi_a h 119 (Int.toNat zu)) = 1 + 0
  · have s0_0 : (mi_a h 119 (Int.toNat zu)) = 1 + 0 ∧ (mi_a h 119 (Int.toNat zu)) ≤ 10 := ⟨e0_0, by omega⟩
    exact Or.elim (mi_em .ne ((mi_f h 14028)) (((0 : Int)))) (fun c1 => Or.elim (mi_em .ne ((mi_f h 14028)) (((1 : Int)))) (fun c2 => ms_sg_0 hS ok_zu ⟨(k0 (me_fb hS rfl) s0_0 c1 c2).1, s0_0, c1, c2⟩ (fun h1 W => (k0 (me_fb hS rfl) s0_0 c1 c2).2 h1 W.1 (W.2.2.2.2.2 _ rfl))) (fun c2 => ms_sg_1 hS ok_zu ⟨(k1 (me_fb hS rfl) s0_0 c1 c2).1, s0_0, c1, c2⟩ (fun h1 W => (k1 (me_fb hS rfl) s0_0 c1 c2).2 h1 W.1 (W.2.2.2.2.2 _ rfl)))) (fun c1 => ms_sg_2 hS ok_zu ⟨(k2 (me_fb hS rfl) s0_0 c1).1, s0_0, c1⟩ (fun h1 W => (k2 (me_fb hS rfl) s0_0 c1).2 h1 W.1 (W.2.2.2.2.2 _ rfl)))
  by_cases e0_1 : (mi_a h 119 (Int.toNat zu)) = 1 + 1
  · have s0_1 : (mi_a h 119 (Int.toNat zu)) = 1 + 1 ∧ (mi_a h 119 (Int.toNat zu)) ≤ 10 := ⟨e0_1, by omega⟩
    exact Or.elim (mi_em .ne ((mi_f h 14028)) (((0 : Int)))) (fun c1 => Or.elim (mi_em .ne ((mi_f h 14028)) (((1 : Int)))) (fun c2 => ms_sg_3 hS ok_zu ⟨(k3 (me_fb hS rfl) s0_1 c1 c2).1, s0_1, c1, c2⟩ (fun h1 W => (k3 (me_fb hS rfl) s0_1 c1 c2).2 h1 W.1 (W.2.2.2.2.2 _ rfl))) (fun c2 => ms_sg_4 hS ok_zu ⟨(k4 (me_fb hS rfl) s0_1 c1 c2).1, s0_1, c1, c2⟩ (fun h1 W => (k4 (me_fb hS rfl) s0_1 c1 c2).2 h1 W.1 (W.2.2.2.2.2 _ rfl)))) (fun c1 => ms_sg_5 hS ok_zu ⟨(k5 (me_fb hS rfl) s0_1 c1).1, s0_1, c1⟩ (fun h1 W => (k5 (me_fb hS rfl) s0_1 c1).2 h1 W.1 (W.2.2.2.2.2 _ rfl)))
  by_cases e0_2 : (mi_a h 119 (Int.toNat zu)) = 1 + 2
  · have s0_2 : (mi_a h 119 (Int.toNat zu)) = 1 + 2 ∧ (mi_a h 119 (Int.toNat zu)) ≤ 10 := ⟨e0_2, by omega⟩
    exact ms_sg_6 hS ok_zu ⟨(k6 s0_2).1, s0_2, (k6 s0_2).1⟩ (fun h1 W => (k6 s0_2).2 h1 W.1 (W.2.2.2.2.2 _ rfl))
  by_cases e0_3 : (mi_a h 119 (Int.toNat zu)) = 1 + 3
  · have s0_3 : (mi_a h 119 (Int.toNat zu)) = 1 + 3 ∧ (mi_a h 119 (Int.toNat zu)) ≤ 10 := ⟨e0_3, by omega⟩
    exact ms_sg_7 hS ok_zu ⟨(k7 s0_3).1, s0_3, (k7 s0_3).1⟩ (fun h1 W => (k7 s0_3).2 h1 W.1 (W.2.2.2.2.2 _ rfl))
  by_cases e0_4 : (mi_a h 119 (Int.toNat zu)) = 1 + 4
  · have s0_4 : (mi_a h 119 (Int.toNat zu)) = 1 + 4 ∧ (mi_a h 119 (Int.toNat zu)) ≤ 10 := ⟨e0_4, by omega⟩
    exact ms_sg_8 hS ok_zu ⟨(k8 s0_4).1, s0_4, (k8 s0_4).1⟩ (fun h1 W => (k8 s0_4).2 h1 W.1 (W.2.2.2.2.2 _ rfl))
  by_cases e0_5 : (mi_a h 119 (Int.toNat zu)) = 1 + 5
  · have s0_5 : (mi_a h 119 (Int.toNat zu)) = 1 + 5 ∧ (mi_a h 119 (Int.toNat zu)) ≤ 10 := ⟨e0_5, by omega⟩
    exact ms_sg_9 hS ok_zu ⟨(k9 s0_5).1, s0_5, (k9 s0_5).1⟩ (fun h1 W => (k9 s0_5).2 h1 W.1 (W.2.2.2.2.2 _ rfl))
  by_cases e0_6 : (mi_a h 119 (Int.toNat zu)) = 1 + 6
  · have s0_6 : (mi_a h 119 (Int.toNat zu)) = 1 + 6 ∧ (mi_a h 119 (Int.toNat zu)) ≤ 10 := ⟨e0_6, by omega⟩
    exact ms_sg_10 hS ok_zu ⟨(k10 s0_6).1, s0_6, (k10 s0_6).1⟩ (fun h1 W => (k10 s0_6).2 h1 W.1 (W.2.2.2.2.2 _ rfl))
  by_cases e0_7 : (mi_a h 119 (Int.toNat zu)) = 1 + 7
  · have s0_7 : (mi_a h 119 (Int.toNat zu)) = 1 + 7 ∧ (mi_a h 119 (Int.toNat zu)) ≤ 10 := ⟨e0_7, by omega⟩
    exact Or.elim (mi_em .ne ((mi_f h 14028)) (((0 : Int)))) (fun c1 => Or.elim (mi_em .ne ((mi_f h 14028)) (((1 : Int)))) (fun c2 => ms_sg_11 hS ok_zu ⟨(k11 (me_fb hS rfl) s0_7 c1 c2).1, s0_7, c1, c2⟩ (fun h1 W => (k11 (me_fb hS rfl) s0_7 c1 c2).2 h1 W.1 (W.2.2.2.2.2 _ rfl))) (fun c2 => ms_sg_12 hS ok_zu ⟨(k12 (me_fb hS rfl) s0_7 c1 c2).1, s0_7, c1, c2⟩ (fun h1 W => (k12 (me_fb hS rfl) s0_7 c1 c2).2 h1 W.1 (W.2.2.2.2.2 _ rfl)))) (fun c1 => ms_sg_13 hS ok_zu ⟨(k13 (me_fb hS rfl) s0_7 c1).1, s0_7, c1⟩ (fun h1 W => (k13 (me_fb hS rfl) s0_7 c1).2 h1 W.1 (W.2.2.2.2.2 _ rfl)))
  by_cases e0_8 : (mi_a h 119 (Int.toNat zu)) = 1 + 8
  · have s0_8 : (mi_a h 119 (Int.toNat zu)) = 1 + 8 ∧ (mi_a h 119 (Int.toNat zu)) ≤ 10 := ⟨e0_8, by omega⟩
    exact ms_sg_14 hS ok_zu ⟨(k14 s0_8).1.1, s0_8, (k14 s0_8).1.1, (k14 s0_8).1.2⟩ (fun h1 W => (k14 s0_8).2 h1 W.1 (W.2.2.2.2.2 _ rfl))
  by_cases e0_9 : (mi_a h 119 (Int.toNat zu)) = 1 + 9
  · have s0_9 : (mi_a h 119 (Int.toNat zu)) = 1 + 9 ∧ (mi_a h 119 (Int.toNat zu)) ≤ 10 := ⟨e0_9, by omega⟩
    exact ms_sg_15 hS ok_zu ⟨(k15 (me_fb hS rfl) s0_9).1.1, s0_9, (k15 (me_fb hS rfl) s0_9).1.1, (k15 (me_fb hS rfl) s0_9).1.2.1, (k15 (me_fb hS rfl) s0_9).1.2.1, (k15 (me_fb hS rfl) s0_9).1.2.2, (k15 (me_fb hS rfl) s0_9).1.2.1⟩ (fun h1 W => (k15 (me_fb hS rfl) s0_9).2 h1 W.1 (W.2.1 14029) (fun i => W.2.2.1 165 i) (fun i => W.2.2.1 166 i) (fun i => W.2.2.1 167 i) (W.2.2.2.2.2 _ rfl))
  omega)
set_option maxRecDepth 20000 in
theorem mp_sr75_0 (h : sm_H) (d : Nat) (zu : Int) : mi_path [(213, (2, 0, sb_213))] sx_sk h 1 [] (d + 5, 213, 75, [some (.inr (.inr 109)), some (.inl (zu))], [], [], []) = some ((d + 5, 213, 142, [some (.inr (.inr 109)), some (.inl (zu))], [], [], []), []) := rfl
theorem mi_tab_sr75_0 : ∀ e ∈ ([(213, (2, 0, sb_213))] : mi_T), sc_P e.1 = some e.2 := mi_tb mi_P213 (mi_tb_e)
set_option maxRecDepth 20000 in
theorem ms_sr75_0 {h : sm_H} {d : Nat} {Q : Option mi_V → sm_H → Prop} {zu : Int} (hS : ab_Sh sx_sk h) (ok_zu : mi_in zu) (kon : ∀ h1, me_W [] h h1 → Q none h1) : me_E (d + 5) 213 75 [some (.inr (.inr 109)), some (.inl (zu))] [] h Q := me_seg (mp_sr75_0 h d zu) (mi_tab_sr75_0) hS (mi_okL_c (trivial) (mi_okL_c (ok_zu) (mi_okL_e))) (mi_okS_e) (mi_al_e) (fun h1 W _ hst => me_ret (M := (2, 0, sb_213)) rfl rfl rfl hst (mi_al_e) (kon h1 W))
set_option maxRecDepth 20000 in
theorem mt_sr75 {h : sm_H} {d : Nat} {Q : Option mi_V → sm_H → Prop} {zu : Int} (hS : ab_Sh sx_sk h) (ok_zu : mi_in zu) (k0 : (∀ h1, ab_Sh sx_sk h1 → ab_Fr [] h h1 → Q none h1)) : me_E (d + 5) 213 75 [some (.inr (.inr 109)), some (.inl (zu))] [] h Q := ms_sr75_0 hS ok_zu (fun h1 W => (k0) h1 W.1 (W.2.2.2.2.2 _ rfl))
set_option maxRecDepth 20000 in
theorem mp_sr105_0 (h : sm_H) (d : Nat) (zu : Int) : mi_path [(213, (2, 0, sb_213))] sx_sk h 1 [] (d + 5, 213, 105, [some (.inr (.inr 109)), some (.inl (zu))], [], [], []) = some ((d + 5, 213, 142, [some (.inr (.inr 109)), some (.inl (zu))], [], [], []), []) := rfl
theorem mi_tab_sr105_0 : ∀ e ∈ ([(213, (2, 0, sb_213))] : mi_T), sc_P e.1 = some e.2 := mi_tb mi_P213 (mi_tb_e)
set_option maxRecDepth 20000 in
theorem ms_sr105_0 {h : sm_H} {d : Nat} {Q : Option mi_V → sm_H → Prop} {zu : Int} (hS : ab_Sh sx_sk h) (ok_zu : mi_in zu) (kon : ∀ h1, me_W [] h h1 → Q none h1) : me_E (d + 5) 213 105 [some (.inr (.inr 109)), some (.inl (zu))] [] h Q := me_seg (mp_sr105_0 h d zu) (mi_tab_sr105_0) hS (mi_okL_c (trivial) (mi_okL_c (ok_zu) (mi_okL_e))) (mi_okS_e) (mi_al_e) (fun h1 W _ hst => me_ret (M := (2, 0, sb_213)) rfl rfl rfl hst (mi_al_e) (kon h1 W))
set_option maxRecDepth 20000 in
theorem mt_sr105 {h : sm_H} {d : Nat} {Q : Option mi_V → sm_H → Prop} {zu : Int} (hS : ab_Sh sx_sk h) (ok_zu : mi_in zu) (k0 : (∀ h1, ab_Sh sx_sk h1 → ab_Fr [] h h1 → Q none h1)) : me_E (d + 5) 213 105 [some (.inr (.inr 109)), some (.inl (zu))] [] h Q := ms_sr105_0 hS ok_zu (fun h1 W => (k0) h1 W.1 (W.2.2.2.2.2 _ rfl))
set_option maxRecDepth 20000 in
theorem mp_sr121_0 (h : sm_H) (d : Nat) (zu : Int) : mi_path [(213, (2, 0, sb_213))] sx_sk h 1 [] (d + 5, 213, 121, [some (.inr (.inr 109)), some (.inl (zu))], [], [], []) = some ((d + 5, 213, 142, [some (.inr (.inr 109)), some (.inl (zu))], [], [], []), []) := rfl
theorem mi_tab_sr121_0 : ∀ e ∈ ([(213, (2, 0, sb_213))] : mi_T), sc_P e.1 = some e.2 := mi_tb mi_P213 (mi_tb_e)
set_option maxRecDepth 20000 in
theorem ms_sr121_0 {h : sm_H} {d : Nat} {Q : Option mi_V → sm_H → Prop} {zu : Int} (hS : ab_Sh sx_sk h) (ok_zu : mi_in zu) (kon : ∀ h1, me_W [] h h1 → Q none h1) : me_E (d + 5) 213 121 [some (.inr (.inr 109)), some (.inl (zu))] [] h Q := me_seg (mp_sr121_0 h d zu) (mi_tab_sr121_0) hS (mi_okL_c (trivial) (mi_okL_c (ok_zu) (mi_okL_e))) (mi_okS_e) (mi_al_e) (fun h1 W _ hst => me_ret (M := (2, 0, sb_213)) rfl rfl rfl hst (mi_al_e) (kon h1 W))
set_option maxRecDepth 20000 in
theorem mt_sr121 {h : sm_H} {d : Nat} {Q : Option mi_V → sm_H → Prop} {zu : Int} (hS : ab_Sh sx_sk h) (ok_zu : mi_in zu) (k0 : (∀ h1, ab_Sh sx_sk h1 → ab_Fr [] h h1 → Q none h1)) : me_E (d + 5) 213 121 [some (.inr (.inr 109)), some (.inl (zu))] [] h Q := ms_sr121_0 hS ok_zu (fun h1 W => (k0) h1 W.1 (W.2.2.2.2.2 _ rfl))
set_option maxRecDepth 20000 in
theorem mp_sr129_0 (h : sm_H) (d : Nat) (zu : Int) : mi_path [(213, (2, 0, sb_213))] sx_sk h 1 [] (d + 5, 213, 129, [some (.inr (.inr 109)), some (.inl (zu))], [], [], []) = some ((d + 5, 213, 142, [some (.inr (.inr 109)), some (.inl (zu))], [], [], []), []) := rfl
theorem mi_tab_sr129_0 : ∀ e ∈ ([(213, (2, 0, sb_213))] : mi_T), sc_P e.1 = some e.2 := mi_tb mi_P213 (mi_tb_e)
set_option maxRecDepth 20000 in
theorem ms_sr129_0 {h : sm_H} {d : Nat} {Q : Option mi_V → sm_H → Prop} {zu : Int} (hS : ab_Sh sx_sk h) (ok_zu : mi_in zu) (kon : ∀ h1, me_W [] h h1 → Q none h1) : me_E (d + 5) 213 129 [some (.inr (.inr 109)), some (.inl (zu))] [] h Q := me_seg (mp_sr129_0 h d zu) (mi_tab_sr129_0) hS (mi_okL_c (trivial) (mi_okL_c (ok_zu) (mi_okL_e))) (mi_okS_e) (mi_al_e) (fun h1 W _ hst => me_ret (M := (2, 0, sb_213)) rfl rfl rfl hst (mi_al_e) (kon h1 W))
set_option maxRecDepth 20000 in
theorem mt_sr129 {h : sm_H} {d : Nat} {Q : Option mi_V → sm_H → Prop} {zu : Int} (hS : ab_Sh sx_sk h) (ok_zu : mi_in zu) (k0 : (∀ h1, ab_Sh sx_sk h1 → ab_Fr [] h h1 → Q none h1)) : me_E (d + 5) 213 129 [some (.inr (.inr 109)), some (.inl (zu))] [] h Q := ms_sr129_0 hS ok_zu (fun h1 W => (k0) h1 W.1 (W.2.2.2.2.2 _ rfl))
set_option maxRecDepth 20000 in
theorem mp_sr142_0 (h : sm_H) (d : Nat) (zu : Int) : mi_path [(213, (2, 0, sb_213))] sx_sk h 0 [] (d + 5, 213, 142, [some (.inr (.inr 109)), some (.inl (zu))], [], [], []) = some ((d + 5, 213, 142, [some (.inr (.inr 109)), some (.inl (zu))], [], [], []), []) := rfl
theorem mi_tab_sr142_0 : ∀ e ∈ ([(213, (2, 0, sb_213))] : mi_T), sc_P e.1 = some e.2 := mi_tb mi_P213 (mi_tb_e)
set_option maxRecDepth 20000 in
theorem ms_sr142_0 {h : sm_H} {d : Nat} {Q : Option mi_V → sm_H → Prop} {zu : Int} (hS : ab_Sh sx_sk h) (ok_zu : mi_in zu) (kon : ∀ h1, me_W [] h h1 → Q none h1) : me_E (d + 5) 213 142 [some (.inr (.inr 109)), some (.inl (zu))] [] h Q := me_seg (mp_sr142_0 h d zu) (mi_tab_sr142_0) hS (mi_okL_c (trivial) (mi_okL_c (ok_zu) (mi_okL_e))) (mi_okS_e) (mi_al_e) (fun h1 W _ hst => me_ret (M := (2, 0, sb_213)) rfl rfl rfl hst (mi_al_e) (kon h1 W))
set_option maxRecDepth 20000 in
theorem mt_sr142 {h : sm_H} {d : Nat} {Q : Option mi_V → sm_H → Prop} {zu : Int} (hS : ab_Sh sx_sk h) (ok_zu : mi_in zu) (k0 : (∀ h1, ab_Sh sx_sk h1 → ab_Fr [] h h1 → Q none h1)) : me_E (d + 5) 213 142 [some (.inr (.inr 109)), some (.inl (zu))] [] h Q := ms_sr142_0 hS ok_zu (fun h1 W => (k0) h1 W.1 (W.2.2.2.2.2 _ rfl))
/-! single -/
/-- nothing was written -/
theorem me_nil {h h1 : sm_H} (hF : ab_Fr [] h h1) : h1 = h := by
  refine List.ext_getElem? (fun k => ?_)
  cases hk : h[k]? with
  | none =>
    have hl := List.getElem?_eq_none_iff.mp hk
    exact List.getElem?_eq_none_iff.mpr (by rw [hF.1]; exact hl)
  | some e =>
    have := hF.2.2 k e hk
    rcases e with x | ⟨ci, fs⟩
    · exact this rfl
    · obtain ⟨fs', e1, e2⟩ := this
      have : fs' = fs := List.ext_getElem? (fun f => e2 f rfl)
      rw [e1, this]
/-- what the steps of the walk ask for -/
def wk_in (μ : Int) (h : sm_H) : Prop := ab_Sh sx_sk h ∧ mi_f h 14028 = μ ∧ (μ = 0 ∨ μ = 1 ∨ μ = 2) ∧ mi_f h 14044 = 0 ∧ mi_f h 14034 < 0 ∧ wk_tok μ h ∧ 0 ≤ mi_f h 14029 ∧ 0 ≤ mi_f h 14032 ∧ mi_f h 14032 ≤ 12 ∧ wk_ul (wk_stk h) = mi_f h 14032 ∧ 0 ≤ wk_n μ h
def wk_us (h : sm_H) (u : Int) : Prop := 0 ≤ u ∧ u < 60 ∧ (mi_a h 119 u.toNat = 9 → 0 ≤ mi_a h 120 u.toNat ∧ mi_a h 120 u.toNat < 26 ∧ 0 ≤ mi_a h 115 (mi_a h 120 u.toNat).toNat ∧ mi_a h 115 (mi_a h 120 u.toNat).toNat < 10) ∧ (mi_a h 119 u.toNat = 8 → 0 ≤ mi_a h 120 u.toNat ∧ mi_a h 120 u.toNat < 20)
/-- .. and what they leave -/
def wk_out2 (μ : Int) (h h' : sm_H) : Prop := mi_f h' 14028 = μ ∧ mi_f h' 14044 = 0 ∧ mi_f h' 14034 < 0 ∧ wk_tok μ h' ∧ wk_n μ h ≤ wk_n μ h' ∧ wk_ag μ (wk_n μ h) h h' ∧ (μ = 2 → mi_f h' 14016 = mi_f h 14016)
def sg_Q (μ : Int) (zu : Int) (h : sm_H) (w : Option mi_V) (h' : sm_H) : Prop := w = none ∧ ab_Sh sx_sk h' ∧ ab_Fr wr_W1 h h' ∧ ((mi_f h' 14044 = 1 ∨ (μ = 0 ∧ 0 ≤ mi_f h' 14034)) ∨ (wk_out2 μ h h' ∧ mi_f h' 14032 = wk_sl (mi_a h) zu (mi_f h 14032) ∧ mi_f h' 14032 ≤ 12 ∧ wk_stk h' = wk_sS (mi_a h) zu (wk_stk h) ∧ mi_f h 14029 ≤ mi_f h' 14029 ∧ mi_f h' 14029 ≤ mi_f h 14029 + 2 ∧ wk_sg (mi_a h) (wk_K μ h') zu (wk_stk h) (wk_n μ h).toNat = some (wk_stk h', (wk_n μ h').toNat)))
section SIN
variable {h : sm_H} {d : Nat} {zu μ : Int}
theorem wk_K2 {h h' : sm_H} (hF : ab_Fr wr_W1 h h') (hS : ab_Sh sx_sk h) (k : Nat) : wk_K 2 h' k = wk_K 2 h k := by
  unfold wk_K
  rw [if_pos rfl, if_pos rfl]
  exact me_a (k := 155) hF hS rfl rfl
/-- a leaf -/
theorem sg_leaf {h h' : sm_H} {wr : List (Nat × Nat)} (hi : wk_in μ h) (hu : wk_us h zu) (hS' : ab_Sh sx_sk h') (hF : ab_Fr wr h h') (hw : ab_sub_wr wr wr_W1 = true) (hw2 : (ab_in wr 14029 || ab_in wr 21120 || ab_in wr 21248 || ab_in wr 21376 || ab_in wr 14032) = false) (h2 : μ = 2 → ∃ s', wk_sg (mi_a h) (wk_K 2 h) zu (wk_stk h) (wk_n 2 h).toNat = some s') (hp : mi_f h' 14044 = 0) (hr : mi_f h' 14034 < 0) (ht : wk_tok μ h') (hs : mi_a h 119 zu.toNat = 1 ∨ mi_a h 119 zu.toNat = 2 ∨ mi_a h 119 zu.toNat = 8) (hmk : μ = 2 → mi_f h' 14016 = mi_f h 14016) (hl : wk_leaf μ (mi_a h 119 zu.toNat) h h') : sg_Q μ zu h none h' := by
  obtain ⟨i1, i2, i3, i4, i5, i6, i7, i8, i9, i10, i11⟩ := hi
  have hF1 := hF.wide (fun c hc => ab_swr_ok hw hc)
  simp only [Bool.or_eq_false_iff] at hw2
  have e32 : mi_f h' 14032 = mi_f h 14032 := me_f (c := 14032) hF i1 rfl hw2.2
  have e29 : mi_f h' 14029 = mi_f h 14029 := me_f (c := 14029) hF i1 rfl hw2.1.1.1.1
  have est : wk_stk h' = wk_stk h := wk_stk_fr hF i1 (by simp only [Bool.or_eq_false_iff]; exact hw2.1)
  have e28 : mi_f h' 14028 = mi_f h 14028 := me_f (c := 14028) hF1 i1 rfl rfl
  have n9 : ¬ mi_a h 119 zu.toNat = 9 := by omega
  have n10 : ¬ mi_a h 119 zu.toNat = 10 := by omega
  have eS : wk_sS (mi_a h) zu (wk_stk h) = wk_stk h := by unfold wk_sS; rw [if_neg n9, if_neg n10]
  have eL : wk_sl (mi_a h) zu (mi_f h 14032) = mi_f h 14032 := by unfold wk_sl; rw [if_neg n9]
  refine ⟨rfl, hS', hF1, Or.inr ⟨⟨e28.trans i2, hp, hr, ht, ?_, ?_, hmk⟩, by rw [eL]; exact e32, by omega, by rw [eS]; exact est, by omega, by omega, ?_⟩⟩
  · rcases hl with hl | hl | hl <;> omega
  · rcases hl with hl | hl | hl
    · exact hl.2.2.1
    · exact hl.2.2.1
    · exact hl.2.2
  · unfold wk_sg
    rw [if_neg n9, est]
    rcases hl with ⟨k1, k2, k3, k4⟩ | ⟨k1, k2, k3, k4⟩ | ⟨k1, k2, k3⟩
    · have hK : wk_K μ h' (wk_n μ h).toNat = 2 := by
        by_cases e : μ = 2
        · subst e
          rw [wk_K2 hF1 i1]
          obtain ⟨s', hs'⟩ := h2 rfl
          unfold wk_sg at hs'
          rw [if_neg n9, if_pos k1] at hs'
          split at hs'
          · next hk => exact hk
          · cases hs'
        · exact k4 e
      have e1 : (wk_n μ h').toNat = (wk_n μ h).toNat + 1 := by omega
      rw [if_pos k1, if_pos hK, e1]
    · have n1 : ¬ mi_a h 119 zu.toNat = 1 := by omega
      have hK : wk_K μ h' (wk_n μ h).toNat = 3 := by
        by_cases e : μ = 2
        · subst e
          rw [wk_K2 hF1 i1]
          obtain ⟨s', hs'⟩ := h2 rfl
          unfold wk_sg at hs'
          rw [if_neg n9, if_neg n1, if_pos k1] at hs'
          split at hs'
          · next hk => exact hk
          · cases hs'
        · exact k4 e
      have e1 : (wk_n μ h').toNat = (wk_n μ h).toNat + 1 := by omega
      rw [if_neg n1, if_pos k1, if_pos hK, e1]
    · have n1 : ¬ mi_a h 119 zu.toNat = 1 := by omega
      have n2 : ¬ mi_a h 119 zu.toNat = 2 := by omega
      rw [if_neg n1, if_neg n2, eS, k2]
theorem me_lay {zs : Int} (hS : ab_Sh sx_sk h) (ok : mi_in zs) : me_E d 222 0 [some (.inr (.inr 109)), some (.inl zs)] [] h (fun w h' => w = none ∧ ab_Sh sx_sk h' ∧ ab_Fr [(14036, 14037), (14045, 14047)] h h') := by
  have := me_abs (M := (2, 0, sb_222)) (as := [.inr (.inr 109), .inl zs]) xo_v_layout rfl hS ⟨rfl, me_nv1 ok ok.1 ok.2, trivial⟩ (fun e he => by cases he) (by decide)
  exact (me_E.deep (d' := d) this (Nat.zero_le _)).imp (fun w h' hq => ⟨by obtain ⟨-, -, p, -, hp, -⟩ := hq; unfold mi_res at hp; rw [if_pos rfl] at hp; exact hp, hq.1, hq.2.1⟩)
/-- nothing comes -/
theorem sg_void {h h' : sm_H} (hi : wk_in μ h) (hS' : ab_Sh sx_sk h') (hF : ab_Fr [(14036, 14037), (14045, 14047)] h h') (n1 : ¬ mi_a h 119 zu.toNat = 1) (n2 : ¬ mi_a h 119 zu.toNat = 2) (n9 : ¬ mi_a h 119 zu.toNat = 9) (n10 : ¬ mi_a h 119 zu.toNat = 10) : sg_Q μ zu h none h' := by
  obtain ⟨i1, i2, i3, i4, i5, i6, i7, i8, i9, i10, i11⟩ := hi
  have hF1 : ab_Fr wr_W1 h h' := hF.wide (fun c hc => ab_swr_ok (by decide) hc)
  have est : wk_stk h' = wk_stk h := wk_stk_fr hF i1 rfl
  have eS : wk_sS (mi_a h) zu (wk_stk h) = wk_stk h := by unfold wk_sS; rw [if_neg n9, if_neg n10]
  have eL : wk_sl (mi_a h) zu (mi_f h 14032) = mi_f h 14032 := by unfold wk_sl; rw [if_neg n9]
  have hne : wk_ne μ h h' := wk_ne_fr hF i1 rfl
  have hn := wk_ne_n hne
  have e29 : mi_f h' 14029 = mi_f h 14029 := me_f (c := 14029) hF i1 rfl rfl
  have e32 : mi_f h' 14032 = mi_f h 14032 := me_f (c := 14032) hF i1 rfl rfl
  refine ⟨rfl, hS', hF1, Or.inr ⟨⟨(me_f (c := 14028) hF i1 rfl rfl).trans i2, (me_f (c := 14044) hF i1 rfl rfl).trans i4, by rw [me_f (c := 14034) hF i1 rfl rfl]; exact i5, fun e => ?_, by omega, hne.2.2, fun _ => hne.2.1⟩, by rw [eL]; exact e32, by omega, by rw [eS]; exact est, by omega, by omega, ?_⟩⟩
  · rw [hne.1, me_f (c := 14011) hF i1 rfl rfl, me_a (k := 152) hF i1 rfl rfl]
    exact i6 e
  · unfold wk_sg
    rw [if_neg n9, if_neg n1, if_neg n2, eS, est, hn]
theorem sg_n2 (h2 : ∃ s', wk_sg (mi_a h) (wk_K 2 h) zu (wk_stk h) (wk_n 2 h).toNat = some s' ∧ s'.2 ≤ 100) (hs : mi_a h 119 zu.toNat = 1 ∨ mi_a h 119 zu.toNat = 2) : (wk_n 2 h).toNat < 100 := by
  obtain ⟨s', hs', hle⟩ := h2
  unfold wk_sg at hs'
  rw [if_neg (by omega)] at hs'
  rcases hs with k | k
  · rw [if_pos k] at hs'
    split at hs'
    · cases hs'; exact hle
    · cases hs'
  · rw [if_neg (by omega), if_pos k] at hs'
    split at hs'
    · cases hs'; exact hle
    · cases hs'
/-- the calls of single -/
theorem sg_shown (hi : wk_in μ h) (hu : wk_us h zu) (e2 : μ = 2) (h2 : μ = 2 → ∃ s', wk_sg (mi_a h) (wk_K 2 h) zu (wk_stk h) (wk_n 2 h).toNat = some s' ∧ s'.2 ≤ 100) (hs : mi_a h 119 zu.toNat = 1 ∨ mi_a h 119 zu.toNat = 2 ∨ mi_a h 119 zu.toNat = 8) : ∃ Q1, me_E (d + 4) 217 0 [some (.inr (.inr 109)), some (.inl zu), none, none, none, none, none] [] h Q1 ∧ ∀ w h', (∀ x, w = some x → mi_ok x) → Q1 w h' → me_E (d + 5) 213 129 [some (.inr (.inr 109)), some (.inl zu)] (mi_back w []) h' (sg_Q μ zu h) := by
  have ok : mi_in zu := ⟨by have := hu.1; omega, by have := hu.2.1; omega⟩
  have en : wk_n 2 h = mi_f h 14033 := by unfold wk_n; rw [if_pos rfl]
  have i11 := hi.2.2.2.2.2.2.2.2.2.2
  refine ⟨_, me_shown hi.1 hu.1 hu.2.1 hs hu.2.2.2 (fun n8 => ?_), ?_⟩
  · have := sg_n2 (h2 e2) (by omega)
    rw [e2] at i11
    rw [en] at this i11
    omega
  · intro w h' hw hq
    obtain ⟨rfl, q1, q2, q3⟩ := hq
    refine mt_sr129 q1 ok ?_
    intro h3 r1 r2
    have e3 := me_nil r2
    subst e3
    have b44 := me_fb (c := 14044) q1 rfl
    by_cases hp : mi_f h3 14044 = 1
    · exact ⟨rfl, q1, q2.wide (fun c hc => ab_swr_ok (by decide) hc), Or.inl (Or.inl hp)⟩
    · refine sg_leaf hi hu q1 q2 (by decide) rfl (fun e => by obtain ⟨s', a, -⟩ := h2 e; exact ⟨s', a⟩) (by omega) (by rw [me_f (c := 14034) q2 hi.1 rfl rfl]; exact hi.2.2.2.2.1) (fun e => by omega) hs (fun _ => me_f (c := 14016) q2 hi.1 rfl rfl) ?_
      have hag : wk_ag μ (wk_n μ h) h h3 := by rw [e2]; exact wk_ag_fr (q2.wide (fun c hc => ab_swr_ok (wr' := wr_sh) (by decide) hc)) hi.1 rfl
      have en3 : wk_n 2 h3 = mi_f h3 14033 := by unfold wk_n; rw [if_pos rfl]
      rcases hs with k | k | k
      · rw [if_neg (by omega)] at q3
        exact Or.inl ⟨k, by rw [e2, en, en3]; exact q3, hag, fun e => absurd e2 e⟩
      · rw [if_neg (by omega)] at q3
        exact Or.inr (Or.inl ⟨k, by rw [e2, en, en3]; exact q3, hag, fun e => absurd e2 e⟩)
      · rw [if_pos k] at q3
        exact Or.inr (Or.inr ⟨k, by rw [e2, en, en3]; exact q3, hag⟩)
theorem sg_grown (hi : wk_in μ h) (hu : wk_us h zu) (e1 : μ = 1) (hs : mi_a h 119 zu.toNat = 1 ∨ mi_a h 119 zu.toNat = 2 ∨ mi_a h 119 zu.toNat = 8) : ∃ Q1, me_E (d + 4) 215 0 [some (.inr (.inr 109)), some (.inl zu), none, none, none, none] [] h Q1 ∧ ∀ w h', (∀ x, w = some x → mi_ok x) → Q1 w h' → me_E (d + 5) 213 121 [some (.inr (.inr 109)), some (.inl zu)] (mi_back w []) h' (sg_Q μ zu h) := by
  have ok : mi_in zu := ⟨by have := hu.1; omega, by have := hu.2.1; omega⟩
  refine ⟨_, me_grown (d := d + 3) hi.1 (by rw [hi.2.1]; exact e1) hu.1 hu.2.1 hs hi.2.2.2.1, ?_⟩
  intro w h' hw hq
  obtain ⟨rfl, q1, q2, q3, q4, q5⟩ := hq
  refine mt_sr121 q1 ok ?_
  intro h3 r1 r2
  have e3 := me_nil r2
  subst e3
  rcases q5 with q5 | ⟨q5, q6⟩
  · exact ⟨rfl, q1, q2.wide (fun c hc => ab_swr_ok (by decide) hc), Or.inl (Or.inl q5)⟩
  · subst e1
    exact sg_leaf hi hu q1 q2 (by decide) rfl (fun e => absurd e (by decide)) q5 (by rw [q3]; exact hi.2.2.2.2.1) (fun e => absurd e (by decide)) hs (fun e => absurd e (by decide)) q6
theorem sg_match (hi : wk_in μ h) (hu : wk_us h zu) (e0 : μ = 0) (hs : mi_a h 119 zu.toNat = 1 ∨ mi_a h 119 zu.toNat = 2 ∨ mi_a h 119 zu.toNat = 8) : ∃ Q1, me_E (d + 4) 214 0 [some (.inr (.inr 109)), some (.inl zu), none] [] h Q1 ∧ ∀ w h', (∀ x, w = some x → mi_ok x) → Q1 w h' → me_E (d + 5) 213 105 [some (.inr (.inr 109)), some (.inl zu)] (mi_back w []) h' (sg_Q μ zu h) := by
  have ok : mi_in zu := ⟨by have := hu.1; omega, by have := hu.2.1; omega⟩
  subst e0
  refine ⟨_, me_match (d := d + 3) hi.1 hi.2.1 hu.1 hu.2.1 hs hu.2.2.2 hi.2.2.2.2.2.1 hi.2.2.2.1 hi.2.2.2.2.1, ?_⟩
  intro w h' hw hq
  obtain ⟨rfl, q1, q2, q3⟩ := hq
  refine mt_sr105 q1 ok ?_
  intro h3 r1 r2
  have e3 := me_nil r2
  subst e3
  rcases q3 with q3 | ⟨q3, q4, q5, q6⟩
  · exact ⟨rfl, q1, q2.wide (fun c hc => ab_swr_ok (by decide) hc), Or.inl (q3.imp_right (fun z => ⟨rfl, z⟩))⟩
  · exact sg_leaf hi hu q1 q2 (by decide) rfl (fun e => absurd e (by decide)) q3 q4 q5 hs (fun e => absurd e (by decide)) q6
theorem sg_lay (hi : wk_in μ h) (hu : wk_us h zu) (n1 : ¬ mi_a h 119 zu.toNat = 1) (n2 : ¬ mi_a h 119 zu.toNat = 2) (n9 : ¬ mi_a h 119 zu.toNat = 9) (n10 : ¬ mi_a h 119 zu.toNat = 10) : ∃ Q1, me_E (d + 4) 222 0 [some (.inr (.inr 109)), some (.inl (mi_a h 119 zu.toNat))] [] h Q1 ∧ ∀ w h', (∀ x, w = some x → mi_ok x) → Q1 w h' → me_E (d + 5) 213 142 [some (.inr (.inr 109)), some (.inl zu)] (mi_back w []) h' (sg_Q μ zu h) := by
  have ok : mi_in zu := ⟨by have := hu.1; omega, by have := hu.2.1; omega⟩
  refine ⟨_, me_lay hi.1 (mi_inT _), ?_⟩
  intro w h' hw hq
  obtain ⟨rfl, q1, q2⟩ := hq
  refine mt_sr142 q1 ok ?_
  intro h3 r1 r2
  have e3 := me_nil r2
  subst e3
  exact sg_void hi q1 q2 n1 n2 n9 n10
theorem sg_enter (hi : wk_in μ h) (hu : wk_us h zu) (ht : mi_f h 14029 ≤ 2990) (h2 : μ = 2 → ∃ s', wk_sg (mi_a h) (wk_K 2 h) zu (wk_stk h) (wk_n 2 h).toNat = some s' ∧ s'.2 ≤ 100) (h9 : mi_a h 119 zu.toNat = 9) : ∃ Q1, me_E (d + 4) 207 0 [some (.inr (.inr 109)), some (.inl (mi_a h 115 (mi_a h 120 zu.toNat).toNat))] [] h Q1 ∧ ∀ w h', (∀ x, w = some x → mi_ok x) → Q1 w h' → me_E (d + 5) 213 75 [some (.inr (.inr 109)), some (.inl zu)] (mi_back w []) h' (sg_Q μ zu h) := by
  have ok : mi_in zu := ⟨by have := hu.1; omega, by have := hu.2.1; omega⟩
  obtain ⟨i1, i2, i3, i4, i5, i6, i7, i8, i9, i10, i11⟩ := id hi
  obtain ⟨u1, u2, u3, u4⟩ := hu.2.2.1 h9
  have h2' : μ = 2 → wk_K 2 h (wk_n 2 h).toNat = 1 ∧ mi_f h 14032 < 12 ∧ (wk_n 2 h).toNat < 100 := fun e => by
    obtain ⟨s', hs', hle⟩ := h2 e
    unfold wk_sg at hs'
    rw [if_pos h9] at hs'
    split at hs'
    · next hk =>
      cases hs'
      rw [i10] at hk
      exact ⟨hk.1, hk.2, hle⟩
    · cases hs'
  have en : wk_n 2 h = mi_f h 14033 := by unfold wk_n; rw [if_pos rfl]
  refine ⟨_, me_enter (d := d + 2) μ i1 i2 u3 u4 i7 ht i8 i9 (fun e => ⟨(h2' e).2.1, ?_⟩), ?_⟩
  · have := (h2' e).2.2
    rw [en] at this
    omega
  · intro w h' hw hq
    obtain ⟨rfl, q1, q2, q3, q4⟩ := hq
    refine mt_sr75 q1 ok ?_
    intro h3 r1 r2
    have e3 := me_nil r2
    subst e3
    rcases q4 with q4 | ⟨q4, q5, q6, q7, q8, q9⟩
    · exact ⟨rfl, q1, q2, Or.inl (Or.inl q4)⟩
    · obtain ⟨v1, v2, v3, v4⟩ := q9
      have eS : wk_sS (mi_a h) zu (wk_stk h) = wk_stk h3 := by
        unfold wk_sS
        rw [if_pos h9, q8]
        rfl
      have eL : wk_sl (mi_a h) zu (mi_f h 14032) = mi_f h 14032 + 1 := by unfold wk_sl; rw [if_pos h9]
      refine ⟨rfl, q1, q2, Or.inr ⟨⟨(me_f (c := 14028) q2 i1 rfl rfl).trans i2, q4, by rw [q3]; exact i5, fun e => ?_, by omega, v2, v4⟩, by rw [eL]; exact q6, by omega, eS.symm, by omega, by omega, ?_⟩⟩
      · have e33 := (v3 (by omega)).2.2
        rw [e33, me_f (c := 14011) q2 i1 rfl rfl, me_a (k := 152) q2 i1 rfl rfl]
        exact i6 e
      · have hK : wk_K μ h3 (wk_n μ h).toNat = 1 := by
          by_cases e : μ = 2
          · subst e
            rw [wk_K2 q2 i1]
            exact (h2' rfl).1
          · exact (v3 e).1
        have e1 : (wk_n μ h3).toNat = (wk_n μ h).toNat + 1 := by omega
        unfold wk_sg
        rw [if_pos h9, if_pos ⟨hK, by rw [i10]; exact q5⟩, eS, e1]
theorem me_single (hi : wk_in μ h) (hu : wk_us h zu) (ht : mi_f h 14029 ≤ 2990) (h2 : μ = 2 → ∃ s', wk_sg (mi_a h) (wk_K 2 h) zu (wk_stk h) (wk_n 2 h).toNat = some s' ∧ s'.2 ≤ 100) : me_E (d + 5) 213 0 [some (.inr (.inr 109)), some (.inl zu)] [] h (sg_Q μ zu h) := by
  obtain ⟨i1, i2, i3, i4, i5, i6, i7, i8, i9, i10, i11⟩ := id hi
  have hu0 := hu.1
  have hu1 := hu.2.1
  have ok : mi_in zu := ⟨by omega, by omega⟩
  have b119 := me_ab (k := 119) (i := zu.toNat) i1 rfl (by decide) (by omega)
  refine mt_sg i1 ok ?_ ?_ ?_ ?_ ?_ ?_ ?_ ?_ ?_ ?_ ?_ ?_ ?_ ?_ ?_ ?_ ?_
  · intro b c1 c2 c3
    refine ⟨by omega, fun h1 g1 g2 => ?_⟩
    have e3 := me_nil g2
    subst e3
    exact sg_shown hi hu (by clear h2; omega) h2 (by clear h2; omega)
  · intro b c1 c2 c3
    refine ⟨by omega, fun h1 g1 g2 => ?_⟩
    have e3 := me_nil g2
    subst e3
    exact sg_grown hi hu (by omega) (by omega)
  · intro b c1 c2
    refine ⟨by omega, fun h1 g1 g2 => ?_⟩
    have e3 := me_nil g2
    subst e3
    exact sg_match hi hu (by omega) (by omega)
  · intro b c1 c2 c3
    refine ⟨by omega, fun h1 g1 g2 => ?_⟩
    have e3 := me_nil g2
    subst e3
    exact sg_shown hi hu (by clear h2; omega) h2 (by clear h2; omega)
  · intro b c1 c2 c3
    refine ⟨by omega, fun h1 g1 g2 => ?_⟩
    have e3 := me_nil g2
    subst e3
    exact sg_grown hi hu (by omega) (by omega)
  · intro b c1 c2
    refine ⟨by omega, fun h1 g1 g2 => ?_⟩
    have e3 := me_nil g2
    subst e3
    exact sg_match hi hu (by omega) (by omega)
  · intro c1
    refine ⟨by omega, fun h1 g1 g2 => ?_⟩
    have e3 := me_nil g2
    subst e3
    exact sg_lay hi hu (by omega) (by omega) (by omega) (by omega)
  · intro c1
    refine ⟨by omega, fun h1 g1 g2 => ?_⟩
    have e3 := me_nil g2
    subst e3
    exact sg_lay hi hu (by omega) (by omega) (by omega) (by omega)
  · intro c1
    refine ⟨by omega, fun h1 g1 g2 => ?_⟩
    have e3 := me_nil g2
    subst e3
    exact sg_lay hi hu (by omega) (by omega) (by omega) (by omega)
  · intro c1
    refine ⟨by omega, fun h1 g1 g2 => ?_⟩
    have e3 := me_nil g2
    subst e3
    exact sg_lay hi hu (by omega) (by omega) (by omega) (by omega)
  · intro c1
    refine ⟨by omega, fun h1 g1 g2 => ?_⟩
    have e3 := me_nil g2
    subst e3
    exact sg_lay hi hu (by omega) (by omega) (by omega) (by omega)
  · intro b c1 c2 c3
    refine ⟨by omega, fun h1 g1 g2 => ?_⟩
    have e3 := me_nil g2
    subst e3
    exact sg_shown hi hu (by clear h2; omega) h2 (by clear h2; omega)
  · intro b c1 c2 c3
    refine ⟨by omega, fun h1 g1 g2 => ?_⟩
    have e3 := me_nil g2
    subst e3
    exact sg_grown hi hu (by omega) (by omega)
  · intro b c1 c2
    refine ⟨by omega, fun h1 g1 g2 => ?_⟩
    have e3 := me_nil g2
    subst e3
    exact sg_match hi hu (by omega) (by omega)
  · intro c1
    have u := hu.2.2.1 (by omega)
    refine ⟨by omega, fun h1 g1 g2 => ?_⟩
    have e3 := me_nil g2
    subst e3
    exact sg_enter hi hu ht h2 (by omega)
  · intro b c1
    refine ⟨by omega, fun h1 g1 g2 a5 a6 a7 g3 => ?_⟩
    have h10 : mi_a h 119 zu.toNat = 10 := by omega
    have n9 : ¬ mi_a h 119 zu.toNat = 9 := by omega
    have est := wk_push1 i7 g2 a5 a6 a7
    have eS : wk_sS (mi_a h) zu (wk_stk h) = wk_stk h1 := by unfold wk_sS; rw [if_neg n9, if_pos h10]; exact est.symm
    have eL : wk_sl (mi_a h) zu (mi_f h 14032) = mi_f h 14032 := by unfold wk_sl; rw [if_neg n9]
    have hne : wk_ne μ h h1 := wk_ne_fr g3 i1 rfl
    have hn := wk_ne_n hne
    have e32 : mi_f h1 14032 = mi_f h 14032 := me_f (c := 14032) g3 i1 rfl rfl
    refine ⟨rfl, g1, g3.wide (fun c hc => ab_swr_ok (by decide) hc), Or.inr ⟨⟨(me_f (c := 14028) g3 i1 rfl rfl).trans i2, (me_f (c := 14044) g3 i1 rfl rfl).trans i4, by rw [me_f (c := 14034) g3 i1 rfl rfl]; exact i5, fun e => ?_, by omega, hne.2.2, fun _ => hne.2.1⟩, by rw [eL]; exact e32, by omega, eS.symm, by omega, by omega, ?_⟩⟩
    · rw [hne.1, me_f (c := 14011) g3 i1 rfl rfl, me_a (k := 152) g3 i1 rfl rfl]
      exact i6 e
    · have n1 : ¬ mi_a h 119 zu.toNat = 1 := by omega
      have n2 : ¬ mi_a h 119 zu.toNat = 2 := by omega
      unfold wk_sg
      rw [if_neg n9, if_neg n1, if_neg n2, eS, hn]
  · intro c1
    refine ⟨by omega, fun h1 g1 g2 => ?_⟩
    have e3 := me_nil g2
    subst e3
    exact sg_lay hi hu (by omega) (by omega) (by omega) (by omega)
end SIN
